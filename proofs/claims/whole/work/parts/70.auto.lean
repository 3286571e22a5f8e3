noncomputable section
theorem c_X11_feed {d : Nat} {I : Nat → Nat → Int} {S : PS} {x1 x2 x3 x4 x5 : Int} {T U : Nat} (hl0 : LyX11 S T U)
    (v1 : -2147483648 ≤ I 31 1 + 20 ∧ I 31 1 + 20 ≤ 2147483647)
    (v2 : (I 31 1 + 20 ≤ 700) → 0 ≤ I 31 1 ∧ I 31 1 ≤ 696)
    (v3 : (I 31 1 + 20 ≤ 700) → 0 ≤ (pbI I x1) 31 1 ∧ (pbI I x1) 31 1 ≤ 696)
    (v4 : (I 31 1 + 20 ≤ 700) → 0 ≤ (pbI (pbI I x1) x2) 31 1 ∧ (pbI (pbI I x1) x2) 31 1 ≤ 696)
    (v5 : (I 31 1 + 20 ≤ 700) → 0 ≤ (pbI (pbI (pbI I x1) x2) x3) 31 1 ∧ (pbI (pbI (pbI I x1) x2) x3) 31 1 ≤ 696)
    (v6 : (I 31 1 + 20 ≤ 700) → 0 ≤ (pbI (pbI (pbI (pbI I x1) x2) x3) x4) 31 1 ∧ (pbI (pbI (pbI (pbI I x1) x2) x3) x4) 31 1 ≤ 696) : Ca (d + 1) mX11_feed [vR (some (21, 0, 31)), vI x1, vI x2, vI x3, vI x4, vI x5] (I, S) (.inl (some (vI (if I 31 1 + 20 ≤ 700 then ((pbI (pbI (pbI (pbI (pbI I x1) x2) x3) x4) x5) 31 1 : Int) else (-1))))) ((if I 31 1 + 20 ≤ 700 then (pbI (pbI (pbI (pbI (pbI I x1) x2) x3) x4) x5) else I), S) :=
  Ca.of rfl rfl (
  b_X11_feed_0 v1 (fun (c1 : I 31 1 + 20 ≤ 700) => 
    b_X11_feed_15  (c_X11_putBytes hl0 (v2 c1)) (
    b_X11_feed_20  (c_X11_putBytes hl0 (v3 c1)) (
    b_X11_feed_25  (c_X11_putBytes hl0 (v4 c1)) (
    b_X11_feed_30  (c_X11_putBytes hl0 (v5 c1)) (
    b_X11_feed_36  (c_X11_putBytes hl0 (v6 c1)) (ev_ret2 ((if_pos c1).symm) (prEq ((if_pos c1).symm) rfl) (b_X11_feed_42 ))))))) (fun (c2 : 700 < I 31 1 + 20) => ev_ret2 ((if_neg (Int.not_le.mpr c2)).symm) (prEq ((if_neg (Int.not_le.mpr c2)).symm) rfl) (b_X11_feed_13 )))
theorem c_X11_image {d : Nat} {I : Nat → Nat → Int} {S : PS} {T U : Nat} (hl0 : LyX11 S T U) : Ca (d + 2) mX11_image [vR (some (21, 0, 31))] (I, S) (.inl none) ((up2 (cpyI (cpyI (up2 (cpyI (cpyI (cpyI (up2 (cpyI (cpyI I (127 + 1) 0 (136 + 1) 0 4) 129 0 138 0 6) 135 2 ((cpyI I (127 + 1) 0 (136 + 1) 0 4) 126 2)) 130 0 139 0 30) 131 0 140 0 30) 132 0 141 0 30) 135 6 ((cpyI I (127 + 1) 0 (136 + 1) 0 4) 126 6)) 133 0 142 0 8) 134 0 143 0 8) 31 8 1), S) :=
  Ca.of rfl rfl (
  b_X11_image_0 (ly_X11_7 hl0) (ly_X11_6 hl0) (c_X9_copyFrom_i (ly_X11_k hl0) (ly_X11_s hl0)) (ev_retV rfl (b_X11_image_11 )))
theorem c_X11_restore_y {d : Nat} {I : Nat → Nat → Int} {S : PS} {T U : Nat} (hl0 : LyX11 S T U)
    (hP : I 31 8 ≠ 0) : Ca (d + 2) mX11_restore [vR (some (21, 0, 31))] (I, S) (.inl (some (vI 1))) ((cpyI (cpyI (up2 (cpyI (cpyI (cpyI (up2 (cpyI (cpyI I (136 + 1) 0 (127 + 1) 0 4) 138 0 129 0 6) 126 2 ((cpyI I (136 + 1) 0 (127 + 1) 0 4) 135 2)) 139 0 130 0 30) 140 0 131 0 30) 141 0 132 0 30) 126 6 ((cpyI I (136 + 1) 0 (127 + 1) 0 4) 135 6)) 142 0 133 0 8) 143 0 134 0 8), S) :=
  Ca.of rfl rfl (
  b_X11_restore_0  (fun (c1 : I 31 8 ≠ 0) => 
    b_X11_restore_9 (ly_X11_6 hl0) (ly_X11_7 hl0) (c_X9_copyFrom_r (ly_X11_s hl0) (ly_X11_k hl0)) (ev_ret2 rfl rfl (b_X11_restore_20 ))) (fun (c2 : I 31 8 = 0) => absurd hP (fun q => q c2)))
theorem c_X11_restore_n {d : Nat} {I : Nat → Nat → Int} {S : PS} {T U : Nat} (hl0 : LyX11 S T U)
    (hP : ¬(I 31 8 ≠ 0)) : Ca (d + 2) mX11_restore [vR (some (21, 0, 31))] (I, S) (.inl (some (vI 0))) (I, S) :=
  Ca.of rfl rfl (
  b_X11_restore_0  (fun (c1 : I 31 8 ≠ 0) => 
    b_X11_restore_9 (ly_X11_6 hl0) (ly_X11_7 hl0) (c_X9_copyFrom_r (ly_X11_s hl0) (ly_X11_k hl0)) (absurd c1 hP)) (fun (c2 : I 31 8 = 0) => ev_ret2 rfl rfl (b_X11_restore_7 )))
theorem c_X11_spotCharge {d : Nat} {I : Nat → Nat → Int} {S : PS} {x1 : Int} {T U : Nat} (hl0 : LyX11 S T U)
    (v1 : 0 ≤ x1 ∧ x1 < 12)
    (v2 : 0 ≤ I (T + 4) x1.toNat ∧ I (T + 4) x1.toNat ≤ 9)
    (v3 : ∀ k : Nat, (k : Int) < I (T + 4) x1.toNat → 0 ≤ I (T + 6) (x1 * 9 + (k : Int)).toNat ∧ I (T + 6) (x1 * 9 + (k : Int)).toNat < 12)
    (v4 : T + 4 ≠ 152)
    (v5 : T + 6 ≠ 152)
    (v6 : 0 ≤ x1 ∧ x1 < (12 : Nat))
    (v7 : 0 ≤ ((roI I T 152 x1) (T + 4) x1.toNat) ∧ ((roI I T 152 x1) (T + 4) x1.toNat) ≤ 9)
    (v8 : 0 ≤ (roI I T 152 x1) (T + 2) 0 ∧ (roI I T 152 x1) (T + 2) 0 ≤ 6)
    (v9 : ∀ k : Nat, (k : Int) < (roI I T 152 x1) (T + 2) 0 → 0 ≤ (roI I T 152 x1) 129 k ∧ (roI I T 152 x1) 129 k ≤ 99) : Ca (d + 4) mX11_spotCharge [vR (some (21, 0, 31)), vI x1] (I, S) (.inl (some (vI (bhC (roI I T 152 x1) (T + 2) 152 129 ((roI I T 152 x1) (T + 4) x1.toNat) ((roI I T 152 x1) (T + 2) 0).toNat)))) ((roI I T 152 x1), S) :=
  Ca.of rfl rfl (
  b_X11_spotCharge_0 (ly_X11_2 hl0) (ly_X11_11 hl0) (c_X0_rowOf (ly_X11_c hl0) v1 (by first | decide | exact (show 9 = 9 from by decide)) v2 v3 v4 v5) (
  b_X11_spotCharge_12 (ly_X11_2 hl0) (ly_X0_2 (ly_X11_c hl0)) (ly_X0_3 (ly_X11_c hl0)) v6 (ly_X11_11 hl0) (ly_X11_6 hl0) (ly_X9_1 (ly_X11_s hl0)) (c_X7_behind (ly_X0_r (ly_X11_c hl0)) (by decide) v7 (by first | decide | exact (show 6 = 6 from by decide)) v8 v9) (ev_ret2 rfl rfl (b_X11_spotCharge_42 ))))
theorem c_X11_piecesHeldBy {d : Nat} {I : Nat → Nat → Int} {S : PS} {x1 : Int} {T U : Nat} (hl0 : LyX11 S T U)
    (v1 : 0 ≤ x1 ∧ x1 < 12)
    (v2 : 0 ≤ I (T + 4) x1.toNat ∧ I (T + 4) x1.toNat ≤ 9)
    (v3 : ∀ k : Nat, (k : Int) < I (T + 4) x1.toNat → 0 ≤ I (T + 6) (x1 * 9 + (k : Int)).toNat ∧ I (T + 6) (x1 * 9 + (k : Int)).toNat < 12)
    (v4 : T + 4 ≠ 152)
    (v5 : T + 6 ≠ 152)
    (v6 : 0 ≤ x1 ∧ x1 < (12 : Nat))
    (v7 : 1 ≤ ((roI I T 152 x1) (T + 4) x1.toNat) ∧ ((roI I T 152 x1) (T + 4) x1.toNat) ≤ 9)
    (v8 : 0 ≤ (roI I T 152 x1) T 1 ∧ (roI I T 152 x1) T 1 ≤ 4)
    (v9 : ∀ p : Nat, (p : Int) < (roI I T 152 x1) T 1 → 0 ≤ (roI I T 152 x1) (T + 7 + 9 * p) 1 ∧ (roI I T 152 x1) (T + 7 + 9 * p) 1 ≤ 7) : Ca (d + 3) mX11_piecesHeldBy [vR (some (21, 0, 31)), vI x1] (I, S) (.inl (some (vI (hoC (roI I T 152 x1) T 152 ((roI I T 152 x1) (T + 4) x1.toNat) ((roI I T 152 x1) T 1).toNat)))) ((roI I T 152 x1), S) :=
  Ca.of rfl rfl (
  b_X11_piecesHeldBy_0 (ly_X11_2 hl0) (ly_X11_11 hl0) (c_X0_rowOf (ly_X11_c hl0) v1 (by first | decide | exact (show 9 = 9 from by decide)) v2 v3 v4 v5) (
  b_X11_piecesHeldBy_12 (ly_X11_2 hl0) (ly_X0_3 (ly_X11_c hl0)) v6 (ly_X11_11 hl0) (c_X0_heldPieces (ly_X11_c hl0) (by decide) v7 v8 v9) (ev_ret2 rfl rfl (b_X11_piecesHeldBy_32 ))))
theorem c_X12_feed {d : Nat} {I : Nat → Nat → Int} {S : PS} {x1 x2 x3 x4 x5 : Int} (hl0 : LyX12 S)
    (v1 : -2147483648 ≤ I 156 2 + 20 ∧ I 156 2 + 20 ≤ 2147483647)
    (v2 : (I 156 2 + 20 ≤ 700) → 0 ≤ (I 156 2) ∧ (I 156 2) ≤ 696)
    (v3 : (I 156 2 + 20 ≤ 700) → 0 ≤ ((lyI (up2 I 156 0 0) x1) 156 2) ∧ ((lyI (up2 I 156 0 0) x1) 156 2) ≤ 696)
    (v4 : (I 156 2 + 20 ≤ 700) → 0 ≤ ((lyI (lyI (up2 I 156 0 0) x1) x2) 156 2) ∧ ((lyI (lyI (up2 I 156 0 0) x1) x2) 156 2) ≤ 696)
    (v5 : (I 156 2 + 20 ≤ 700) → 0 ≤ ((lyI (lyI (lyI (up2 I 156 0 0) x1) x2) x3) 156 2) ∧ ((lyI (lyI (lyI (up2 I 156 0 0) x1) x2) x3) 156 2) ≤ 696)
    (v6 : (I 156 2 + 20 ≤ 700) → 0 ≤ ((lyI (lyI (lyI (lyI (up2 I 156 0 0) x1) x2) x3) x4) 156 2) ∧ ((lyI (lyI (lyI (lyI (up2 I 156 0 0) x1) x2) x3) x4) 156 2) ≤ 696) : Ca (d + 1) mX12_feed [vR (some (22, 0, 156)), vI x1, vI x2, vI x3, vI x4, vI x5] (I, S) (.inl (some (vI (if I 156 2 + 20 ≤ 700 then ((lyI (lyI (lyI (lyI (lyI (up2 I 156 0 0) x1) x2) x3) x4) x5) 156 2 : Int) else (-1))))) ((if I 156 2 + 20 ≤ 700 then (lyI (lyI (lyI (lyI (lyI (up2 I 156 0 0) x1) x2) x3) x4) x5) else (up2 I 156 0 0)), S) :=
  Ca.of rfl rfl (
  b_X12_feed_0 v1 (fun (c1 : I 156 2 + 20 ≤ 700) => 
    b_X12_feed_20  (c_X12_lays hl0 (v2 c1)) (
    b_X12_feed_25  (c_X12_lays hl0 (v3 c1)) (
    b_X12_feed_30  (c_X12_lays hl0 (v4 c1)) (
    b_X12_feed_35  (c_X12_lays hl0 (v5 c1)) (
    b_X12_feed_41  (c_X12_lays hl0 (v6 c1)) (ev_ret2 ((if_pos c1).symm) (prEq ((if_pos c1).symm) rfl) (b_X12_feed_47 ))))))) (fun (c2 : 700 < I 156 2 + 20) => ev_ret2 ((if_neg (Int.not_le.mpr c2)).symm) (prEq ((if_neg (Int.not_le.mpr c2)).symm) rfl) (b_X12_feed_18 )))
theorem c_X12_isReducible {d : Nat} {I : Nat → Nat → Int} {S : PS} {x1 : Int} (hl0 : LyX12 S)
    (v1 : 0 ≤ x1 ∧ x1 < 4)
    (v2 : 0 ≤ I 167 x1.toNat ∧ I 167 x1.toNat ≤ 96)
    (v3 : ((smI (fun k => if I 171 ((96 * x1) + (k : Int)).toNat = (-1) then 1 else 0) (I 167 x1.toNat).toNat) ≠ 0) → ∀ k : Nat, (k : Int) < I 167 x1.toNat → 0 ≤ I 170 ((96 * x1) + (k : Int)).toNat ∧ I 170 ((96 * x1) + (k : Int)).toNat ≤ 1) : Ca (d + 2) mX12_isReducible [vR (some (22, 0, 156)), vI x1] (I, S) (.inl (some (vI (if ((smI (fun k => if I 171 ((96 * x1) + (k : Int)).toNat = (-1) then 1 else 0) (I 167 x1.toNat).toNat) = 0) ∨ (icM I x1 = true) then (1 : Int) else 0)))) (I, S) :=
  Ca.of rfl rfl (
  b_X12_isReducible_0  (c_X12_badOnes hl0 v1 v2) (
  have K4 : ∀ us0 : Int, us0 = (if ((smI (fun k => if I 171 ((96 * x1) + (k : Int)).toNat = (-1) then 1 else 0) (I 167 x1.toNat).toNat) = 0) ∨ (icM I x1 = true) then (1 : Int) else 0) → Ev (d + 2) mX12_isReducible (21, [some (vR (some (22, 0, 156))), some (vI x1)], [vI us0], (I, S)) ((.inl (some (vI (if ((smI (fun k => if I 171 ((96 * x1) + (k : Int)).toNat = (-1) then 1 else 0) (I 167 x1.toNat).toNat) = 0) ∨ (icM I x1 = true) then (1 : Int) else 0)))), (I, S)) := fun us0 e_us0 => by subst e_us0; exact (ev_ret2 rfl rfl (b_X12_isReducible_21 (ite01 _)))
  
  b_X12_isReducible_5  (fun (c1 : (smI (fun k => if I 171 ((96 * x1) + (k : Int)).toNat = (-1) then 1 else 0) (I 167 x1.toNat).toNat) = 0) => 
    b_X12_isReducible_16  (K4 1 (if_pos (Or.inl c1)).symm)) (fun (c2 : (smI (fun k => if I 171 ((96 * x1) + (k : Int)).toNat = (-1) then 1 else 0) (I 167 x1.toNat).toNat) ≠ 0) => 
    b_X12_isReducible_8  (c_X12_isC hl0 v1 v2 (v3 c2)) (
    b_X12_isReducible_13  (fun c3' => have c3 : ¬(icM I x1 = true) := b2f c3'; 
      b_X12_isReducible_20  (K4 0 (if_neg (fun q => q.elim c2 c3)).symm)) (fun c4' => have c4 : icM I x1 = true := b2t c4'; 
      b_X12_isReducible_16  (K4 1 (if_pos (Or.inr c4)).symm))))))
theorem c_X12_piece {d : Nat} {I : Nat → Nat → Int} {S : PS} {x1 x2 : Int} (hl0 : LyX12 S)
    (v1 : ((((0 ≤ x1) ∧ (x1 < I 156 13)))) → ((((0 ≤ x2) ∧ (x2 ≤ 12)))) → (x2 = 0) → -2147483648 ≤ 20 * x1 ∧ 20 * x1 ≤ 2147483647)
    (v2 : ((((0 ≤ x1) ∧ (x1 < I 156 13)))) → ((((0 ≤ x2) ∧ (x2 ≤ 12)))) → (x2 = 0) → 0 ≤ 20 * x1 ∧ 20 * x1 < (80 : Nat))
    (v3 : ((((0 ≤ x1) ∧ (x1 < I 156 13)))) → ((((0 ≤ x2) ∧ (x2 ≤ 12)))) → (x2 = 1) → -2147483648 ≤ 20 * x1 ∧ 20 * x1 ≤ 2147483647)
    (v4 : ((((0 ≤ x1) ∧ (x1 < I 156 13)))) → ((((0 ≤ x2) ∧ (x2 ≤ 12)))) → (x2 = 1) → -2147483648 ≤ (20 * x1) + 1 ∧ (20 * x1) + 1 ≤ 2147483647)
    (v5 : ((((0 ≤ x1) ∧ (x1 < I 156 13)))) → ((((0 ≤ x2) ∧ (x2 ≤ 12)))) → (x2 = 1) → 0 ≤ (20 * x1) + 1 ∧ (20 * x1) + 1 < (80 : Nat))
    (v6 : ((((0 ≤ x1) ∧ (x1 < I 156 13)))) → ((((0 ≤ x2) ∧ (x2 ≤ 12)))) → (x2 = 2) → 0 ≤ x1 ∧ x1 < 4)
    (v7 : ((((0 ≤ x1) ∧ (x1 < I 156 13)))) → ((((0 ≤ x2) ∧ (x2 ≤ 12)))) → (x2 = 3) → 0 ≤ x1 ∧ x1 < 4)
    (v8 : ((((0 ≤ x1) ∧ (x1 < I 156 13)))) → ((((0 ≤ x2) ∧ (x2 ≤ 12)))) → (x2 = 3) → 0 ≤ I 159 ((20 * x1) + 9).toNat ∧ I 159 ((20 * x1) + 9).toNat ≤ 7)
    (v9 : ((((0 ≤ x1) ∧ (x1 < I 156 13)))) → ((((0 ≤ x2) ∧ (x2 ≤ 12)))) → (x2 = 3) → 0 ≤ I 159 ((20 * x1) + 1).toNat ∧ I 159 ((20 * x1) + 1).toNat ≤ 7)
    (v10 : ((((0 ≤ x1) ∧ (x1 < I 156 13)))) → ((((0 ≤ x2) ∧ (x2 ≤ 12)))) → (x2 = 4) → 0 ≤ x1 ∧ x1 < 4)
    (v11 : ((((0 ≤ x1) ∧ (x1 < I 156 13)))) → ((((0 ≤ x2) ∧ (x2 ≤ 12)))) → (x2 = 4) → 0 ≤ I 159 ((20 * x1) + 9).toNat ∧ I 159 ((20 * x1) + 9).toNat ≤ 7)
    (v12 : ((((0 ≤ x1) ∧ (x1 < I 156 13)))) → ((((0 ≤ x2) ∧ (x2 ≤ 12)))) → (x2 = 4) → 0 ≤ I 159 ((20 * x1) + 1).toNat ∧ I 159 ((20 * x1) + 1).toNat ≤ 7)
    (v13 : ((((0 ≤ x1) ∧ (x1 < I 156 13)))) → ((((0 ≤ x2) ∧ (x2 ≤ 12)))) → (x2 = 5) → 0 ≤ x1 ∧ x1 < (4 : Nat))
    (v14 : ((((0 ≤ x1) ∧ (x1 < I 156 13)))) → ((((0 ≤ x2) ∧ (x2 ≤ 12)))) → (x2 = 6) → 0 ≤ x1 ∧ x1 < 4)
    (v15 : ((((0 ≤ x1) ∧ (x1 < I 156 13)))) → ((((0 ≤ x2) ∧ (x2 ≤ 12)))) → (x2 = 6) → 0 ≤ (up2 I 156 0 0) 167 x1.toNat ∧ (up2 I 156 0 0) 167 x1.toNat ≤ 96)
    (v16 : ((((0 ≤ x1) ∧ (x1 < I 156 13)))) → ((((0 ≤ x2) ∧ (x2 ≤ 12)))) → (x2 = 6) → ∀ k : Nat, (k : Int) < (up2 I 156 0 0) 167 x1.toNat → 0 ≤ I 169 ((96 * x1) + (k : Int)).toNat ∧ I 169 ((96 * x1) + (k : Int)).toNat ≤ 1)
    (v17 : ((((0 ≤ x1) ∧ (x1 < I 156 13)))) → ((((0 ≤ x2) ∧ (x2 ≤ 12)))) → (x2 = 7) → 0 ≤ x1 ∧ x1 < 4)
    (v18 : ((((0 ≤ x1) ∧ (x1 < I 156 13)))) → ((((0 ≤ x2) ∧ (x2 ≤ 12)))) → (x2 = 7) → 0 ≤ (up2 I 156 0 0) 167 x1.toNat ∧ (up2 I 156 0 0) 167 x1.toNat ≤ 96)
    (v19 : ((((0 ≤ x1) ∧ (x1 < I 156 13)))) → ((((0 ≤ x2) ∧ (x2 ≤ 12)))) → (x2 = 8) → 0 ≤ x1 ∧ x1 < 4)
    (v20 : ((((0 ≤ x1) ∧ (x1 < I 156 13)))) → ((((0 ≤ x2) ∧ (x2 ≤ 12)))) → (x2 = 8) → 0 ≤ (up2 I 156 0 0) 167 x1.toNat ∧ (up2 I 156 0 0) 167 x1.toNat ≤ 96)
    (v21 : ((((0 ≤ x1) ∧ (x1 < I 156 13)))) → ((((0 ≤ x2) ∧ (x2 ≤ 12)))) → (x2 = 9) → 0 ≤ x1 ∧ x1 < 4)
    (v22 : ((((0 ≤ x1) ∧ (x1 < I 156 13)))) → ((((0 ≤ x2) ∧ (x2 ≤ 12)))) → (x2 = 9) → 0 ≤ (up2 I 156 0 0) 167 x1.toNat ∧ (up2 I 156 0 0) 167 x1.toNat ≤ 96)
    (v23 : ((((0 ≤ x1) ∧ (x1 < I 156 13)))) → ((((0 ≤ x2) ∧ (x2 ≤ 12)))) → (x2 = 10) → -2147483648 ≤ 20 * x1 ∧ 20 * x1 ≤ 2147483647)
    (v24 : ((((0 ≤ x1) ∧ (x1 < I 156 13)))) → ((((0 ≤ x2) ∧ (x2 ≤ 12)))) → (x2 = 10) → -2147483648 ≤ (20 * x1) + 10 ∧ (20 * x1) + 10 ≤ 2147483647)
    (v25 : ((((0 ≤ x1) ∧ (x1 < I 156 13)))) → ((((0 ≤ x2) ∧ (x2 ≤ 12)))) → (x2 = 10) → 0 ≤ (20 * x1) + 10 ∧ (20 * x1) + 10 < (80 : Nat))
    (v26 : ((((0 ≤ x1) ∧ (x1 < I 156 13)))) → ((((0 ≤ x2) ∧ (x2 ≤ 12)))) → (x2 = 11) → 0 ≤ x1 ∧ x1 < 4)
    (v27 : ((((0 ≤ x1) ∧ (x1 < I 156 13)))) → ((((0 ≤ x2) ∧ (x2 ≤ 12)))) → (x2 = 11) → 0 ≤ (up2 I 156 0 0) 167 x1.toNat ∧ (up2 I 156 0 0) 167 x1.toNat ≤ 96)
    (v28 : ((((0 ≤ x1) ∧ (x1 < I 156 13)))) → ((((0 ≤ x2) ∧ (x2 ≤ 12)))) → (x2 = 11) → ∀ k : Nat, (k : Int) < (up2 I 156 0 0) 167 x1.toNat → 0 ≤ I 170 ((96 * x1) + (k : Int)).toNat ∧ I 170 ((96 * x1) + (k : Int)).toNat ≤ 1)
    (v29 : ((((0 ≤ x1) ∧ (x1 < I 156 13)))) → ((((0 ≤ x2) ∧ (x2 ≤ 12)))) → (¬(0 ≤ x2 ∧ x2 ≤ 11)) → 0 ≤ x1 ∧ x1 < 4)
    (v30 : ((((0 ≤ x1) ∧ (x1 < I 156 13)))) → ((((0 ≤ x2) ∧ (x2 ≤ 12)))) → (¬(0 ≤ x2 ∧ x2 ≤ 11)) → 0 ≤ (up2 I 156 0 0) 167 x1.toNat ∧ (up2 I 156 0 0) 167 x1.toNat ≤ 96)
    (v31 : ((((0 ≤ x1) ∧ (x1 < I 156 13)))) → ((((0 ≤ x2) ∧ (x2 ≤ 12)))) → (¬(0 ≤ x2 ∧ x2 ≤ 11)) → ∀ k : Nat, (k : Int) < (up2 I 156 0 0) 167 x1.toNat → 0 ≤ I 170 ((96 * x1) + (k : Int)).toNat ∧ I 170 ((96 * x1) + (k : Int)).toNat ≤ 1) : Ca (d + 3) mX12_piece [vR (some (22, 0, 156)), vI x1, vI x2] (I, S) (.inl (some (vI (if (((0 ≤ x1) ∧ (x1 < I 156 13))) then ((if (((0 ≤ x2) ∧ (x2 ≤ 12))) then ((if x2 = 0 then (I 159 (20 * x1).toNat : Int) else (if x2 = 1 then (I 159 ((20 * x1) + 1).toNat : Int) else (if x2 = 2 then (I 159 ((20 * x1) + 9).toNat : Int) else (if x2 = 3 then (((I 159 ((20 * x1) + 9).toNat) + 1) + (I 159 ((20 * x1) + 1).toNat) : Int) else (if x2 = 4 then ((smI (edM (up2 I 156 0 0) x1) (((I 159 ((20 * x1) + 9).toNat) + 1) + (I 159 ((20 * x1) + 1).toNat)).toNat / 2) : Int) else (if x2 = 5 then (I 167 x1.toNat : Int) else (if x2 = 6 then ((smI (fun k => I 169 ((96 * x1) + (k : Int)).toNat) ((up2 I 156 0 0) 167 x1.toNat).toNat) : Int) else (if x2 = 7 then ((smI (fun k => if I 171 ((96 * x1) + (k : Int)).toNat = (-1) then 1 else 0) ((up2 I 156 0 0) 167 x1.toNat).toNat) : Int) else (if x2 = 8 then ((mxI (fun k => I 171 ((96 * x1) + (k : Int)).toNat) ((up2 I 156 0 0) 167 x1.toNat).toNat) : Int) else (if x2 = 9 then ((if (smI (fun k => if I 171 ((96 * x1) + (k : Int)).toNat = (-1) then 1 else 0) ((up2 I 156 0 0) 167 x1.toNat).toNat) = 0 then (1 : Int) else 0) : Int) else (if x2 = 10 then (I 159 ((20 * x1) + 10).toNat : Int) else (if x2 = 11 then ((smI (fun k => I 170 ((96 * x1) + (k : Int)).toNat) ((up2 I 156 0 0) 167 x1.toNat).toNat) : Int) else (if icM (up2 I 156 0 0) x1 = true then (1 : Int) else 0))))))))))))) : Int) else 0) : Int) else 0)))) ((if (((0 ≤ x1) ∧ (x1 < I 156 13))) then (if (((0 ≤ x2) ∧ (x2 ≤ 12))) then (up2 I 156 0 0) else (up2 (up2 I 156 0 0) 156 0 1)) else (up2 (up2 I 156 0 0) 156 0 1)), S) :=
  Ca.of rfl rfl (
  (Classical.em ((((0 ≤ x1) ∧ (x1 < I 156 13))))).elim (fun c1 => 
    b_X12_piece_0  (c_X12_isPiece_y hl0 (by first | decide | exact (show 0 = 0 from by decide)) c1) (
    b_X12_piece_10  (fun c => absurd c (by decide)) (fun _ => 
      (Classical.em ((((0 ≤ x2) ∧ (x2 ≤ 12))))).elim (fun c3 => 
        b_X12_piece_13  (c_X12_isWhat_y hl0 (by first | decide | exact (show 0 = 0 from by decide)) c3) (
        b_X12_piece_20  (fun _ => 
          b_X12_piece_25  (fun (c5 : x2 = 0) => ev_ret2 (((if_pos c5).symm.trans (if_pos c3).symm).trans (if_pos c1).symm) (prEq ((if_pos c3).symm.trans (if_pos c1).symm) rfl) (b_X12_piece_88 (ly_X12_19 hl0) (v1 c1 c3 c5) (v2 c1 c3 c5))) (fun (c6 : x2 = 1) => ev_ret2 ((((if_pos c6).symm.trans (if_neg (show x2 ≠ 0 from by omega)).symm).trans (if_pos c3).symm).trans (if_pos c1).symm) (prEq ((if_pos c3).symm.trans (if_pos c1).symm) rfl) (b_X12_piece_98 (ly_X12_19 hl0) (v3 c1 c3 c6) (v4 c1 c3 c6) (v5 c1 c3 c6))) (fun (c7 : x2 = 2) => 
            b_X12_piece_110  (c_X12_ring hl0 (v6 c1 c3 c7)) (ev_ret2 (((((if_pos c7).symm.trans (if_neg (show x2 ≠ 1 from by omega)).symm).trans (if_neg (show x2 ≠ 0 from by omega)).symm).trans (if_pos c3).symm).trans (if_pos c1).symm) (prEq ((if_pos c3).symm.trans (if_pos c1).symm) rfl) (b_X12_piece_115 ))) (fun (c8 : x2 = 3) => 
            b_X12_piece_116  (c_X12_vertices hl0 (v7 c1 c3 c8) (v8 c1 c3 c8) (v9 c1 c3 c8)) (ev_ret2 ((((((if_pos c8).symm.trans (if_neg (show x2 ≠ 2 from by omega)).symm).trans (if_neg (show x2 ≠ 1 from by omega)).symm).trans (if_neg (show x2 ≠ 0 from by omega)).symm).trans (if_pos c3).symm).trans (if_pos c1).symm) (prEq ((if_pos c3).symm.trans (if_pos c1).symm) rfl) (b_X12_piece_121 ))) (fun (c9 : x2 = 4) => 
            b_X12_piece_122  (c_X12_edgesOf hl0 (v10 c1 c3 c9) (v11 c1 c3 c9) (v12 c1 c3 c9)) (ev_ret2 (((((((if_pos c9).symm.trans (if_neg (show x2 ≠ 3 from by omega)).symm).trans (if_neg (show x2 ≠ 2 from by omega)).symm).trans (if_neg (show x2 ≠ 1 from by omega)).symm).trans (if_neg (show x2 ≠ 0 from by omega)).symm).trans (if_pos c3).symm).trans (if_pos c1).symm) (prEq ((if_pos c3).symm.trans (if_pos c1).symm) rfl) (b_X12_piece_127 ))) (fun (c10 : x2 = 5) => ev_ret2 ((((((((if_pos c10).symm.trans (if_neg (show x2 ≠ 4 from by omega)).symm).trans (if_neg (show x2 ≠ 3 from by omega)).symm).trans (if_neg (show x2 ≠ 2 from by omega)).symm).trans (if_neg (show x2 ≠ 1 from by omega)).symm).trans (if_neg (show x2 ≠ 0 from by omega)).symm).trans (if_pos c3).symm).trans (if_pos c1).symm) (prEq ((if_pos c3).symm.trans (if_pos c1).symm) rfl) (b_X12_piece_128 (ly_X12_27 hl0) (v13 c1 c3 c10))) (fun (c11 : x2 = 6) => 
            b_X12_piece_135 (ly_X12_29 hl0) (c_X12_sumOf hl0 (v14 c1 c3 c11) (by first | decide | exact (show 384 = 384 from by decide)) (v15 c1 c3 c11) (v16 c1 c3 c11)) (ev_ret2 (((((((((if_pos c11).symm.trans (if_neg (show x2 ≠ 5 from by omega)).symm).trans (if_neg (show x2 ≠ 4 from by omega)).symm).trans (if_neg (show x2 ≠ 3 from by omega)).symm).trans (if_neg (show x2 ≠ 2 from by omega)).symm).trans (if_neg (show x2 ≠ 1 from by omega)).symm).trans (if_neg (show x2 ≠ 0 from by omega)).symm).trans (if_pos c3).symm).trans (if_pos c1).symm) (prEq ((if_pos c3).symm.trans (if_pos c1).symm) rfl) (b_X12_piece_144 ))) (fun (c12 : x2 = 7) => 
            b_X12_piece_145  (c_X12_badOnes hl0 (v17 c1 c3 c12) (v18 c1 c3 c12)) (ev_ret2 ((((((((((if_pos c12).symm.trans (if_neg (show x2 ≠ 6 from by omega)).symm).trans (if_neg (show x2 ≠ 5 from by omega)).symm).trans (if_neg (show x2 ≠ 4 from by omega)).symm).trans (if_neg (show x2 ≠ 3 from by omega)).symm).trans (if_neg (show x2 ≠ 2 from by omega)).symm).trans (if_neg (show x2 ≠ 1 from by omega)).symm).trans (if_neg (show x2 ≠ 0 from by omega)).symm).trans (if_pos c3).symm).trans (if_pos c1).symm) (prEq ((if_pos c3).symm.trans (if_pos c1).symm) rfl) (b_X12_piece_150 ))) (fun (c13 : x2 = 8) => 
            b_X12_piece_151  (c_X12_rounds hl0 (v19 c1 c3 c13) (v20 c1 c3 c13)) (ev_ret2 (((((((((((if_pos c13).symm.trans (if_neg (show x2 ≠ 7 from by omega)).symm).trans (if_neg (show x2 ≠ 6 from by omega)).symm).trans (if_neg (show x2 ≠ 5 from by omega)).symm).trans (if_neg (show x2 ≠ 4 from by omega)).symm).trans (if_neg (show x2 ≠ 3 from by omega)).symm).trans (if_neg (show x2 ≠ 2 from by omega)).symm).trans (if_neg (show x2 ≠ 1 from by omega)).symm).trans (if_neg (show x2 ≠ 0 from by omega)).symm).trans (if_pos c3).symm).trans (if_pos c1).symm) (prEq ((if_pos c3).symm.trans (if_pos c1).symm) rfl) (b_X12_piece_156 ))) (fun (c14 : x2 = 9) => 
            b_X12_piece_157  (c_X12_badOnes hl0 (v21 c1 c3 c14) (v22 c1 c3 c14)) (
            have K16 : ∀ us0 : Int, us0 = (if (smI (fun k => if I 171 ((96 * x1) + (k : Int)).toNat = (-1) then 1 else 0) ((up2 I 156 0 0) 167 x1.toNat).toNat) = 0 then (1 : Int) else 0) → Ev (d + 3) mX12_piece (170, [some (vR (some (22, 0, 156))), some (vI x1), some (vI x2)], [vI us0], ((up2 I 156 0 0), S)) ((.inl (some (vI (if (((0 ≤ x1) ∧ (x1 < I 156 13))) then ((if (((0 ≤ x2) ∧ (x2 ≤ 12))) then ((if x2 = 0 then (I 159 (20 * x1).toNat : Int) else (if x2 = 1 then (I 159 ((20 * x1) + 1).toNat : Int) else (if x2 = 2 then (I 159 ((20 * x1) + 9).toNat : Int) else (if x2 = 3 then (((I 159 ((20 * x1) + 9).toNat) + 1) + (I 159 ((20 * x1) + 1).toNat) : Int) else (if x2 = 4 then ((smI (edM (up2 I 156 0 0) x1) (((I 159 ((20 * x1) + 9).toNat) + 1) + (I 159 ((20 * x1) + 1).toNat)).toNat / 2) : Int) else (if x2 = 5 then (I 167 x1.toNat : Int) else (if x2 = 6 then ((smI (fun k => I 169 ((96 * x1) + (k : Int)).toNat) ((up2 I 156 0 0) 167 x1.toNat).toNat) : Int) else (if x2 = 7 then ((smI (fun k => if I 171 ((96 * x1) + (k : Int)).toNat = (-1) then 1 else 0) ((up2 I 156 0 0) 167 x1.toNat).toNat) : Int) else (if x2 = 8 then ((mxI (fun k => I 171 ((96 * x1) + (k : Int)).toNat) ((up2 I 156 0 0) 167 x1.toNat).toNat) : Int) else (if x2 = 9 then ((if (smI (fun k => if I 171 ((96 * x1) + (k : Int)).toNat = (-1) then 1 else 0) ((up2 I 156 0 0) 167 x1.toNat).toNat) = 0 then (1 : Int) else 0) : Int) else (if x2 = 10 then (I 159 ((20 * x1) + 10).toNat : Int) else (if x2 = 11 then ((smI (fun k => I 170 ((96 * x1) + (k : Int)).toNat) ((up2 I 156 0 0) 167 x1.toNat).toNat) : Int) else (if icM (up2 I 156 0 0) x1 = true then (1 : Int) else 0))))))))))))) : Int) else 0) : Int) else 0)))), ((if (((0 ≤ x1) ∧ (x1 < I 156 13))) then (if (((0 ≤ x2) ∧ (x2 ≤ 12))) then (up2 I 156 0 0) else (up2 (up2 I 156 0 0) 156 0 1)) else (up2 (up2 I 156 0 0) 156 0 1)), S)) := fun us0 e_us0 => by subst e_us0; exact (ev_ret2 ((((((((((((if_pos c14).symm.trans (if_neg (show x2 ≠ 8 from by omega)).symm).trans (if_neg (show x2 ≠ 7 from by omega)).symm).trans (if_neg (show x2 ≠ 6 from by omega)).symm).trans (if_neg (show x2 ≠ 5 from by omega)).symm).trans (if_neg (show x2 ≠ 4 from by omega)).symm).trans (if_neg (show x2 ≠ 3 from by omega)).symm).trans (if_neg (show x2 ≠ 2 from by omega)).symm).trans (if_neg (show x2 ≠ 1 from by omega)).symm).trans (if_neg (show x2 ≠ 0 from by omega)).symm).trans (if_pos c3).symm).trans (if_pos c1).symm) (prEq ((if_pos c3).symm.trans (if_pos c1).symm) rfl) (b_X12_piece_170 ))
            
            b_X12_piece_162  (fun (c15 : (smI (fun k => if I 171 ((96 * x1) + (k : Int)).toNat = (-1) then 1 else 0) ((up2 I 156 0 0) 167 x1.toNat).toNat) ≠ 0) => 
              b_X12_piece_169  (K16 0 (if_neg c15).symm)) (fun (c16 : (smI (fun k => if I 171 ((96 * x1) + (k : Int)).toNat = (-1) then 1 else 0) ((up2 I 156 0 0) 167 x1.toNat).toNat) = 0) => 
              b_X12_piece_165  (K16 1 (if_pos c16).symm)))) (fun (c18 : x2 = 10) => ev_ret2 (((((((((((((if_pos c18).symm.trans (if_neg (show x2 ≠ 9 from by omega)).symm).trans (if_neg (show x2 ≠ 8 from by omega)).symm).trans (if_neg (show x2 ≠ 7 from by omega)).symm).trans (if_neg (show x2 ≠ 6 from by omega)).symm).trans (if_neg (show x2 ≠ 5 from by omega)).symm).trans (if_neg (show x2 ≠ 4 from by omega)).symm).trans (if_neg (show x2 ≠ 3 from by omega)).symm).trans (if_neg (show x2 ≠ 2 from by omega)).symm).trans (if_neg (show x2 ≠ 1 from by omega)).symm).trans (if_neg (show x2 ≠ 0 from by omega)).symm).trans (if_pos c3).symm).trans (if_pos c1).symm) (prEq ((if_pos c3).symm.trans (if_pos c1).symm) rfl) (b_X12_piece_171 (ly_X12_19 hl0) (v23 c1 c3 c18) (v24 c1 c3 c18) (v25 c1 c3 c18))) (fun (c19 : x2 = 11) => 
            b_X12_piece_184 (ly_X12_30 hl0) (c_X12_sumOf hl0 (v26 c1 c3 c19) (by first | decide | exact (show 384 = 384 from by decide)) (v27 c1 c3 c19) (v28 c1 c3 c19)) (ev_ret2 ((((((((((((((if_pos c19).symm.trans (if_neg (show x2 ≠ 10 from by omega)).symm).trans (if_neg (show x2 ≠ 9 from by omega)).symm).trans (if_neg (show x2 ≠ 8 from by omega)).symm).trans (if_neg (show x2 ≠ 7 from by omega)).symm).trans (if_neg (show x2 ≠ 6 from by omega)).symm).trans (if_neg (show x2 ≠ 5 from by omega)).symm).trans (if_neg (show x2 ≠ 4 from by omega)).symm).trans (if_neg (show x2 ≠ 3 from by omega)).symm).trans (if_neg (show x2 ≠ 2 from by omega)).symm).trans (if_neg (show x2 ≠ 1 from by omega)).symm).trans (if_neg (show x2 ≠ 0 from by omega)).symm).trans (if_pos c3).symm).trans (if_pos c1).symm) (prEq ((if_pos c3).symm.trans (if_pos c1).symm) rfl) (b_X12_piece_193 ))) (fun (c20 : ¬(0 ≤ x2 ∧ x2 ≤ 11)) => 
            b_X12_piece_194  (c_X12_isC hl0 (v29 c1 c3 c20) (v30 c1 c3 c20) (v31 c1 c3 c20)) (
            have K22 : ∀ us0 : Int, us0 = (if icM (up2 I 156 0 0) x1 = true then (1 : Int) else 0) → Ev (d + 3) mX12_piece (207, [some (vR (some (22, 0, 156))), some (vI x1), some (vI x2)], [vI us0], ((up2 I 156 0 0), S)) ((.inl (some (vI (if (((0 ≤ x1) ∧ (x1 < I 156 13))) then ((if (((0 ≤ x2) ∧ (x2 ≤ 12))) then ((if x2 = 0 then (I 159 (20 * x1).toNat : Int) else (if x2 = 1 then (I 159 ((20 * x1) + 1).toNat : Int) else (if x2 = 2 then (I 159 ((20 * x1) + 9).toNat : Int) else (if x2 = 3 then (((I 159 ((20 * x1) + 9).toNat) + 1) + (I 159 ((20 * x1) + 1).toNat) : Int) else (if x2 = 4 then ((smI (edM (up2 I 156 0 0) x1) (((I 159 ((20 * x1) + 9).toNat) + 1) + (I 159 ((20 * x1) + 1).toNat)).toNat / 2) : Int) else (if x2 = 5 then (I 167 x1.toNat : Int) else (if x2 = 6 then ((smI (fun k => I 169 ((96 * x1) + (k : Int)).toNat) ((up2 I 156 0 0) 167 x1.toNat).toNat) : Int) else (if x2 = 7 then ((smI (fun k => if I 171 ((96 * x1) + (k : Int)).toNat = (-1) then 1 else 0) ((up2 I 156 0 0) 167 x1.toNat).toNat) : Int) else (if x2 = 8 then ((mxI (fun k => I 171 ((96 * x1) + (k : Int)).toNat) ((up2 I 156 0 0) 167 x1.toNat).toNat) : Int) else (if x2 = 9 then ((if (smI (fun k => if I 171 ((96 * x1) + (k : Int)).toNat = (-1) then 1 else 0) ((up2 I 156 0 0) 167 x1.toNat).toNat) = 0 then (1 : Int) else 0) : Int) else (if x2 = 10 then (I 159 ((20 * x1) + 10).toNat : Int) else (if x2 = 11 then ((smI (fun k => I 170 ((96 * x1) + (k : Int)).toNat) ((up2 I 156 0 0) 167 x1.toNat).toNat) : Int) else (if icM (up2 I 156 0 0) x1 = true then (1 : Int) else 0))))))))))))) : Int) else 0) : Int) else 0)))), ((if (((0 ≤ x1) ∧ (x1 < I 156 13))) then (if (((0 ≤ x2) ∧ (x2 ≤ 12))) then (up2 I 156 0 0) else (up2 (up2 I 156 0 0) 156 0 1)) else (up2 (up2 I 156 0 0) 156 0 1)), S)) := fun us0 e_us0 => by subst e_us0; exact (ev_ret2 ((((((((((((((if_neg (show x2 ≠ 11 from by omega)).symm.trans (if_neg (show x2 ≠ 10 from by omega)).symm).trans (if_neg (show x2 ≠ 9 from by omega)).symm).trans (if_neg (show x2 ≠ 8 from by omega)).symm).trans (if_neg (show x2 ≠ 7 from by omega)).symm).trans (if_neg (show x2 ≠ 6 from by omega)).symm).trans (if_neg (show x2 ≠ 5 from by omega)).symm).trans (if_neg (show x2 ≠ 4 from by omega)).symm).trans (if_neg (show x2 ≠ 3 from by omega)).symm).trans (if_neg (show x2 ≠ 2 from by omega)).symm).trans (if_neg (show x2 ≠ 1 from by omega)).symm).trans (if_neg (show x2 ≠ 0 from by omega)).symm).trans (if_pos c3).symm).trans (if_pos c1).symm) (prEq ((if_pos c3).symm.trans (if_pos c1).symm) rfl) (b_X12_piece_207 ))
            
            b_X12_piece_199  (fun c21' => have c21 : ¬(icM (up2 I 156 0 0) x1 = true) := b2f c21'; 
              b_X12_piece_206  (K22 0 (if_neg c21).symm)) (fun c22' => have c22 : icM (up2 I 156 0 0) x1 = true := b2t c22'; 
              b_X12_piece_202  (K22 1 (if_pos c22).symm))))) (fun c => absurd c (by decide)))) (fun c4 => 
        b_X12_piece_13  (c_X12_isWhat_n hl0 (by first | decide | exact (show 0 = 0 from by decide)) c4) (
        b_X12_piece_20  (fun c => absurd c (by decide)) (fun _ => ev_ret2 ((if_neg (fun q => c4 q)).symm.trans (if_pos c1).symm) (prEq ((if_neg (fun q => c4 q)).symm.trans (if_pos c1).symm) rfl) (b_X12_piece_23 ))))))) (fun c2 => 
    b_X12_piece_0  (c_X12_isPiece_n hl0 (by first | decide | exact (show 0 = 0 from by decide)) c2) (
    b_X12_piece_10  (fun _ => ev_ret2 ((if_neg (fun q => c2 q)).symm) (prEq ((if_neg (fun q => c2 q)).symm) rfl) (b_X12_piece_23 )) (fun c => absurd c (by decide)))))
theorem c_X12_behind {d : Nat} {I : Nat → Nat → Int} {S : PS} {x1 x2 : Int} (hl0 : LyX12 S)
    (v1 : 0 ≤ x2 ∧ x2 < 12)
    (v2 : 0 ≤ I 161 (10 * x2).toNat ∧ I 161 (10 * x2).toNat ≤ 9)
    (v3 : ∀ k : Nat, (k : Int) < I 161 (10 * x2).toNat → 0 ≤ I 161 (((10 * x2) + 1) + (k : Int)).toNat ∧ I 161 (((10 * x2) + 1) + (k : Int)).toNat < 12)
    (v4 : x1 = 0 ∨ x1 = 18)
    (v5 : 0 ≤ (I 156 14) ∧ (I 156 14) ≤ 6)
    (v6 : ∀ k : Nat, (k : Int) < (I 156 14) → 0 ≤ I 178 (x1 + 12 + (k : Int)).toNat ∧ I 178 (x1 + 12 + (k : Int)).toNat ≤ 99)
    (v7 : 1 ≤ (I 161 (10 * x2).toNat) ∧ (I 161 (10 * x2).toNat) ≤ 9) : Ca (d + 4) mX12_behind [vR (some (22, 0, 156)), vI x1, vI x2] (I, S) (.inl (some (vI (chB (lnI I x2) x1 (I 161 (10 * x2).toNat) (I 161 (10 * x2).toNat).toNat)))) ((lnI I x2), S) :=
  Ca.of rfl rfl (
  b_X12_behind_0  (c_X12_laysNear hl0 v1 v2 v3) (
  b_X12_behind_5  (c_X12_degree hl0 v1) (
  b_X12_behind_12  (c_X12_chargeBy hl0 v4 v5 v6 v7) (ev_ret2 rfl rfl (b_X12_behind_15 )))))
theorem c_X12_holdsAt {d : Nat} {I : Nat → Nat → Int} {S : PS} {x1 : Int} (hl0 : LyX12 S)
    (v1 : 0 ≤ x1 ∧ x1 < 12)
    (v2 : 0 ≤ I 161 (10 * x1).toNat ∧ I 161 (10 * x1).toNat ≤ 9)
    (v3 : ∀ k : Nat, (k : Int) < I 161 (10 * x1).toNat → 0 ≤ I 161 (((10 * x1) + 1) + (k : Int)).toNat ∧ I 161 (((10 * x1) + 1) + (k : Int)).toNat < 12)
    (v4 : 0 ≤ (I 156 13) ∧ (I 156 13) ≤ 4)
    (v5 : 1 ≤ (I 161 (10 * x1).toNat) ∧ (I 161 (10 * x1).toNat) ≤ 9)
    (v6 : ∀ p : Nat, (p : Int) < (I 156 13) → (0 ≤ I 159 ((20 * (p : Int)) + 1).toNat ∧ I 159 ((20 * (p : Int)) + 1).toNat ≤ 7) ∧ I 159 ((20 * (p : Int)) + 1).toNat ≤ I 159 (20 * (p : Int)).toNat) : Ca (d + 2) mX12_holdsAt [vR (some (22, 0, 156)), vI x1] (I, S) (.inl (some (vI (hoM (lnI I x1) (I 161 (10 * x1).toNat) ((I 156 13)).toNat)))) ((lnI I x1), S) :=
  Ca.of rfl rfl (
  b_X12_holdsAt_0  (c_X12_laysNear hl0 v1 v2 v3) (
  b_X12_holdsAt_5  (c_X12_degree hl0 v1) (
  b_X12_holdsAt_11  (c_X12_holds hl0 v4 v5 v6) (ev_ret2 rfl rfl (b_X12_holdsAt_14 )))))
theorem c_X12_spot {d : Nat} {I : Nat → Nat → Int} {S : PS} {x1 x2 : Int} (hl0 : LyX12 S)
    (v1 : ((((0 ≤ x1) ∧ (x1 < I 156 15)))) → ((((0 ≤ x2) ∧ (x2 ≤ 6)))) → (x2 = 0) → 0 ≤ x1 ∧ x1 < 12)
    (v2 : ((((0 ≤ x1) ∧ (x1 < I 156 15)))) → ((((0 ≤ x2) ∧ (x2 ≤ 6)))) → (x2 = 1) → 0 ≤ x1 ∧ x1 < 12)
    (v3 : ((((0 ≤ x1) ∧ (x1 < I 156 15)))) → ((((0 ≤ x2) ∧ (x2 ≤ 6)))) → (x2 = 1) → 0 ≤ I 161 (10 * x1).toNat ∧ I 161 (10 * x1).toNat ≤ 9)
    (v4 : ((((0 ≤ x1) ∧ (x1 < I 156 15)))) → ((((0 ≤ x2) ∧ (x2 ≤ 6)))) → (x2 = 2) → 0 ≤ x1 ∧ x1 < (36 : Nat))
    (v5 : ((((0 ≤ x1) ∧ (x1 < I 156 15)))) → ((((0 ≤ x2) ∧ (x2 ≤ 6)))) → (x2 = 3) → 0 ≤ x1 ∧ x1 < 12)
    (v6 : ((((0 ≤ x1) ∧ (x1 < I 156 15)))) → ((((0 ≤ x2) ∧ (x2 ≤ 6)))) → (x2 = 3) → 0 ≤ I 161 (10 * x1).toNat ∧ I 161 (10 * x1).toNat ≤ 9)
    (v7 : ((((0 ≤ x1) ∧ (x1 < I 156 15)))) → ((((0 ≤ x2) ∧ (x2 ≤ 6)))) → (x2 = 3) → ∀ k : Nat, (k : Int) < I 161 (10 * x1).toNat → 0 ≤ I 161 (((10 * x1) + 1) + (k : Int)).toNat ∧ I 161 (((10 * x1) + 1) + (k : Int)).toNat < 12)
    (v8 : ((((0 ≤ x1) ∧ (x1 < I 156 15)))) → ((((0 ≤ x2) ∧ (x2 ≤ 6)))) → (x2 = 4) → 0 ≤ x1 ∧ x1 < 12)
    (v9 : ((((0 ≤ x1) ∧ (x1 < I 156 15)))) → ((((0 ≤ x2) ∧ (x2 ≤ 6)))) → (x2 = 4) → -2147483648 ≤ 6 - (I 161 (10 * x1).toNat) ∧ 6 - (I 161 (10 * x1).toNat) ≤ 2147483647)
    (v10 : ((((0 ≤ x1) ∧ (x1 < I 156 15)))) → ((((0 ≤ x2) ∧ (x2 ≤ 6)))) → (x2 = 4) → -2147483648 ≤ 10 * (6 - (I 161 (10 * x1).toNat)) ∧ 10 * (6 - (I 161 (10 * x1).toNat)) ≤ 2147483647)
    (v11 : ((((0 ≤ x1) ∧ (x1 < I 156 15)))) → ((((0 ≤ x2) ∧ (x2 ≤ 6)))) → (x2 = 5) → 0 ≤ x1 ∧ x1 < 12)
    (v12 : ((((0 ≤ x1) ∧ (x1 < I 156 15)))) → ((((0 ≤ x2) ∧ (x2 ≤ 6)))) → (x2 = 5) → 0 ≤ I 161 (10 * x1).toNat ∧ I 161 (10 * x1).toNat ≤ 9)
    (v13 : ((((0 ≤ x1) ∧ (x1 < I 156 15)))) → ((((0 ≤ x2) ∧ (x2 ≤ 6)))) → (x2 = 5) → ∀ k : Nat, (k : Int) < I 161 (10 * x1).toNat → 0 ≤ I 161 (((10 * x1) + 1) + (k : Int)).toNat ∧ I 161 (((10 * x1) + 1) + (k : Int)).toNat < 12)
    (v14 : ((((0 ≤ x1) ∧ (x1 < I 156 15)))) → ((((0 ≤ x2) ∧ (x2 ≤ 6)))) → (x2 = 5) → 0 ≤ (I 156 14) ∧ (I 156 14) ≤ 6)
    (v15 : ((((0 ≤ x1) ∧ (x1 < I 156 15)))) → ((((0 ≤ x2) ∧ (x2 ≤ 6)))) → (x2 = 5) → ∀ k : Nat, (k : Int) < (I 156 14) → 0 ≤ I 178 ((0 : Int) + 12 + (k : Int)).toNat ∧ I 178 ((0 : Int) + 12 + (k : Int)).toNat ≤ 99)
    (v16 : ((((0 ≤ x1) ∧ (x1 < I 156 15)))) → ((((0 ≤ x2) ∧ (x2 ≤ 6)))) → (x2 = 5) → 1 ≤ (I 161 (10 * x1).toNat) ∧ (I 161 (10 * x1).toNat) ≤ 9)
    (v17 : ((((0 ≤ x1) ∧ (x1 < I 156 15)))) → ((((0 ≤ x2) ∧ (x2 ≤ 6)))) → (¬(0 ≤ x2 ∧ x2 ≤ 5)) → 0 ≤ x1 ∧ x1 < 12)
    (v18 : ((((0 ≤ x1) ∧ (x1 < I 156 15)))) → ((((0 ≤ x2) ∧ (x2 ≤ 6)))) → (¬(0 ≤ x2 ∧ x2 ≤ 5)) → 0 ≤ I 161 (10 * x1).toNat ∧ I 161 (10 * x1).toNat ≤ 9)
    (v19 : ((((0 ≤ x1) ∧ (x1 < I 156 15)))) → ((((0 ≤ x2) ∧ (x2 ≤ 6)))) → (¬(0 ≤ x2 ∧ x2 ≤ 5)) → ∀ k : Nat, (k : Int) < I 161 (10 * x1).toNat → 0 ≤ I 161 (((10 * x1) + 1) + (k : Int)).toNat ∧ I 161 (((10 * x1) + 1) + (k : Int)).toNat < 12)
    (v20 : ((((0 ≤ x1) ∧ (x1 < I 156 15)))) → ((((0 ≤ x2) ∧ (x2 ≤ 6)))) → (¬(0 ≤ x2 ∧ x2 ≤ 5)) → 0 ≤ (I 156 13) ∧ (I 156 13) ≤ 4)
    (v21 : ((((0 ≤ x1) ∧ (x1 < I 156 15)))) → ((((0 ≤ x2) ∧ (x2 ≤ 6)))) → (¬(0 ≤ x2 ∧ x2 ≤ 5)) → 1 ≤ (I 161 (10 * x1).toNat) ∧ (I 161 (10 * x1).toNat) ≤ 9)
    (v22 : ((((0 ≤ x1) ∧ (x1 < I 156 15)))) → ((((0 ≤ x2) ∧ (x2 ≤ 6)))) → (¬(0 ≤ x2 ∧ x2 ≤ 5)) → ∀ p : Nat, (p : Int) < (I 156 13) → (0 ≤ I 159 ((20 * (p : Int)) + 1).toNat ∧ I 159 ((20 * (p : Int)) + 1).toNat ≤ 7) ∧ I 159 ((20 * (p : Int)) + 1).toNat ≤ I 159 (20 * (p : Int)).toNat) : Ca (d + 5) mX12_spot [vR (some (22, 0, 156)), vI x1, vI x2] (I, S) (.inl (some (vI (if (((0 ≤ x1) ∧ (x1 < I 156 15))) then ((if (((0 ≤ x2) ∧ (x2 ≤ 6))) then ((if x2 = 0 then (I 161 (10 * x1).toNat : Int) else (if x2 = 1 then ((nrO (up2 I 156 0 0) x1 (I 161 (10 * x1).toNat).toNat) : Int) else (if x2 = 2 then (I 178 x1.toNat : Int) else (if x2 = 3 then ((frF (up2 I 156 0 0) 0 x1 (I 161 (10 * x1).toNat).toNat) : Int) else (if x2 = 4 then (10 * (6 - (I 161 (10 * x1).toNat)) : Int) else (if x2 = 5 then ((chB (lnI (up2 I 156 0 0) x1) 0 (I 161 (10 * x1).toNat) (I 161 (10 * x1).toNat).toNat) : Int) else (hoM (lnI (up2 I 156 0 0) x1) (I 161 (10 * x1).toNat) ((I 156 13)).toNat))))))) : Int) else 0) : Int) else 0)))) ((if (((0 ≤ x1) ∧ (x1 < I 156 15))) then (if (((0 ≤ x2) ∧ (x2 ≤ 6))) then (if x2 = 0 then (up2 I 156 0 0) else (if x2 = 1 then (up2 I 156 0 0) else (if x2 = 2 then (up2 I 156 0 0) else (if x2 = 3 then (up2 I 156 0 0) else (if x2 = 4 then (up2 I 156 0 0) else (lnI (up2 I 156 0 0) x1)))))) else (up2 (up2 I 156 0 0) 156 0 1)) else (up2 (up2 I 156 0 0) 156 0 1)), S) :=
  Ca.of rfl rfl (
  (Classical.em ((((0 ≤ x1) ∧ (x1 < I 156 15))))).elim (fun c1 => 
    b_X12_spot_0  (c_X12_isSpot_y hl0 (by first | decide | exact (show 0 = 0 from by decide)) c1) (
    b_X12_spot_10  (fun c => absurd c (by decide)) (fun _ => 
      (Classical.em ((((0 ≤ x2) ∧ (x2 ≤ 6))))).elim (fun c3 => 
        b_X12_spot_13  (c_X12_isWhat_y hl0 (by first | decide | exact (show 0 = 0 from by decide)) c3) (
        b_X12_spot_20  (fun _ => 
          b_X12_spot_25  (fun (c5 : x2 = 0) => 
            b_X12_spot_64  (c_X12_degree hl0 (v1 c1 c3 c5)) (ev_ret2 (((if_pos c5).symm.trans (if_pos c3).symm).trans (if_pos c1).symm) (prEq (((if_pos c5).symm.trans (if_pos c3).symm).trans (if_pos c1).symm) rfl) (b_X12_spot_69 ))) (fun (c6 : x2 = 1) => 
            b_X12_spot_70  (c_X12_nearOnes hl0 (v2 c1 c3 c6) (v3 c1 c3 c6)) (ev_ret2 ((((if_pos c6).symm.trans (if_neg (show x2 ≠ 0 from by omega)).symm).trans (if_pos c3).symm).trans (if_pos c1).symm) (prEq ((((if_pos c6).symm.trans (if_neg (show x2 ≠ 0 from by omega)).symm).trans (if_pos c3).symm).trans (if_pos c1).symm) rfl) (b_X12_spot_75 ))) (fun (c7 : x2 = 2) => ev_ret2 (((((if_pos c7).symm.trans (if_neg (show x2 ≠ 1 from by omega)).symm).trans (if_neg (show x2 ≠ 0 from by omega)).symm).trans (if_pos c3).symm).trans (if_pos c1).symm) (prEq (((((if_pos c7).symm.trans (if_neg (show x2 ≠ 1 from by omega)).symm).trans (if_neg (show x2 ≠ 0 from by omega)).symm).trans (if_pos c3).symm).trans (if_pos c1).symm) rfl) (b_X12_spot_76 (ly_X12_39 hl0) (v4 c1 c3 c7))) (fun (c8 : x2 = 3) => 
            b_X12_spot_83  (c_X12_freeFor hl0 (by first | decide | exact (show (0 : Int) = 0 ∨ (0 : Int) = 18 from by decide)) (v5 c1 c3 c8) (v6 c1 c3 c8) (v7 c1 c3 c8)) (ev_ret2 ((((((if_pos c8).symm.trans (if_neg (show x2 ≠ 2 from by omega)).symm).trans (if_neg (show x2 ≠ 1 from by omega)).symm).trans (if_neg (show x2 ≠ 0 from by omega)).symm).trans (if_pos c3).symm).trans (if_pos c1).symm) (prEq ((((((if_pos c8).symm.trans (if_neg (show x2 ≠ 2 from by omega)).symm).trans (if_neg (show x2 ≠ 1 from by omega)).symm).trans (if_neg (show x2 ≠ 0 from by omega)).symm).trans (if_pos c3).symm).trans (if_pos c1).symm) rfl) (b_X12_spot_89 ))) (fun (c9 : x2 = 4) => 
            b_X12_spot_90  (c_X12_degree hl0 (v8 c1 c3 c9)) (ev_ret2 (((((((if_pos c9).symm.trans (if_neg (show x2 ≠ 3 from by omega)).symm).trans (if_neg (show x2 ≠ 2 from by omega)).symm).trans (if_neg (show x2 ≠ 1 from by omega)).symm).trans (if_neg (show x2 ≠ 0 from by omega)).symm).trans (if_pos c3).symm).trans (if_pos c1).symm) (prEq (((((((if_pos c9).symm.trans (if_neg (show x2 ≠ 3 from by omega)).symm).trans (if_neg (show x2 ≠ 2 from by omega)).symm).trans (if_neg (show x2 ≠ 1 from by omega)).symm).trans (if_neg (show x2 ≠ 0 from by omega)).symm).trans (if_pos c3).symm).trans (if_pos c1).symm) rfl) (b_X12_spot_99 (v9 c1 c3 c9) (v10 c1 c3 c9)))) (fun (c10 : x2 = 5) => 
            b_X12_spot_102  (c_X12_behind hl0 (v11 c1 c3 c10) (v12 c1 c3 c10) (v13 c1 c3 c10) (by first | decide | exact (show (0 : Int) = 0 ∨ (0 : Int) = 18 from by decide)) (v14 c1 c3 c10) (v15 c1 c3 c10) (v16 c1 c3 c10)) (ev_ret2 ((((((((if_pos c10).symm.trans (if_neg (show x2 ≠ 4 from by omega)).symm).trans (if_neg (show x2 ≠ 3 from by omega)).symm).trans (if_neg (show x2 ≠ 2 from by omega)).symm).trans (if_neg (show x2 ≠ 1 from by omega)).symm).trans (if_neg (show x2 ≠ 0 from by omega)).symm).trans (if_pos c3).symm).trans (if_pos c1).symm) (prEq (((((((if_neg (show x2 ≠ 4 from by omega)).symm.trans (if_neg (show x2 ≠ 3 from by omega)).symm).trans (if_neg (show x2 ≠ 2 from by omega)).symm).trans (if_neg (show x2 ≠ 1 from by omega)).symm).trans (if_neg (show x2 ≠ 0 from by omega)).symm).trans (if_pos c3).symm).trans (if_pos c1).symm) rfl) (b_X12_spot_108 ))) (fun (c11 : ¬(0 ≤ x2 ∧ x2 ≤ 5)) => 
            b_X12_spot_109  (c_X12_holdsAt hl0 (v17 c1 c3 c11) (v18 c1 c3 c11) (v19 c1 c3 c11) (v20 c1 c3 c11) (v21 c1 c3 c11) (v22 c1 c3 c11)) (ev_ret2 ((((((((if_neg (show x2 ≠ 5 from by omega)).symm.trans (if_neg (show x2 ≠ 4 from by omega)).symm).trans (if_neg (show x2 ≠ 3 from by omega)).symm).trans (if_neg (show x2 ≠ 2 from by omega)).symm).trans (if_neg (show x2 ≠ 1 from by omega)).symm).trans (if_neg (show x2 ≠ 0 from by omega)).symm).trans (if_pos c3).symm).trans (if_pos c1).symm) (prEq (((((((if_neg (show x2 ≠ 4 from by omega)).symm.trans (if_neg (show x2 ≠ 3 from by omega)).symm).trans (if_neg (show x2 ≠ 2 from by omega)).symm).trans (if_neg (show x2 ≠ 1 from by omega)).symm).trans (if_neg (show x2 ≠ 0 from by omega)).symm).trans (if_pos c3).symm).trans (if_pos c1).symm) rfl) (b_X12_spot_114 )))) (fun c => absurd c (by decide)))) (fun c4 => 
        b_X12_spot_13  (c_X12_isWhat_n hl0 (by first | decide | exact (show 0 = 0 from by decide)) c4) (
        b_X12_spot_20  (fun c => absurd c (by decide)) (fun _ => ev_ret2 ((if_neg (fun q => c4 q)).symm.trans (if_pos c1).symm) (prEq ((if_neg (fun q => c4 q)).symm.trans (if_pos c1).symm) rfl) (b_X12_spot_23 ))))))) (fun c2 => 
    b_X12_spot_0  (c_X12_isSpot_n hl0 (by first | decide | exact (show 0 = 0 from by decide)) c2) (
    b_X12_spot_10  (fun _ => ev_ret2 ((if_neg (fun q => c2 q)).symm) (prEq ((if_neg (fun q => c2 q)).symm) rfl) (b_X12_spot_23 )) (fun c => absurd c (by decide)))))
theorem c_X12_scaled {d : Nat} {I : Nat → Nat → Int} {S : PS} {x1 x2 : Int} (hl0 : LyX12 S)
    (v1 : ((((0 ≤ x1) ∧ (x1 < I 156 15)))) → 0 ≤ x1 ∧ x1 < 12)
    (v2 : ((((0 ≤ x1) ∧ (x1 < I 156 15)))) → 0 ≤ I 161 (10 * x1).toNat ∧ I 161 (10 * x1).toNat ≤ 9)
    (v3 : ((((0 ≤ x1) ∧ (x1 < I 156 15)))) → ∀ k : Nat, (k : Int) < I 161 (10 * x1).toNat → 0 ≤ I 161 (((10 * x1) + 1) + (k : Int)).toNat ∧ I 161 (((10 * x1) + 1) + (k : Int)).toNat < 12)
    (v4 : ((((0 ≤ x1) ∧ (x1 < I 156 15)))) → 0 ≤ (I 156 14) ∧ (I 156 14) ≤ 6)
    (v5 : ((((0 ≤ x1) ∧ (x1 < I 156 15)))) → ∀ k : Nat, (k : Int) < (I 156 14) → 0 ≤ I 178 ((0 : Int) + 12 + (k : Int)).toNat ∧ I 178 ((0 : Int) + 12 + (k : Int)).toNat ≤ 99)
    (v6 : ((((0 ≤ x1) ∧ (x1 < I 156 15)))) → 1 ≤ (I 161 (10 * x1).toNat) ∧ (I 161 (10 * x1).toNat) ≤ 9) : Ca (d + 5) mX12_scaled [vR (some (22, 0, 156)), vI x1, vI x2] (I, S) (.inl (some (vI (if (((0 ≤ x1) ∧ (x1 < I 156 15))) then ((if ((0 ≤ p_lcmp (p_lmul (p_i2l (chB (lnI (up2 I 156 0 0) x1) 0 (I 161 (10 * x1).toNat) (I 161 (10 * x1).toNat).toNat)) (p_i2l x2)) (-2147483648)) ∧ (p_lcmp (p_lmul (p_i2l (chB (lnI (up2 I 156 0 0) x1) 0 (I 161 (10 * x1).toNat) (I 161 (10 * x1).toNat).toNat)) (p_i2l x2)) 2147483647 ≤ 0)) then (p_l2i (p_lmul (p_i2l (chB (lnI (up2 I 156 0 0) x1) 0 (I 161 (10 * x1).toNat) (I 161 (10 * x1).toNat).toNat)) (p_i2l x2)) : Int) else 0) : Int) else 0)))) ((if (((0 ≤ x1) ∧ (x1 < I 156 15))) then (if ((0 ≤ p_lcmp (p_lmul (p_i2l (chB (lnI (up2 I 156 0 0) x1) 0 (I 161 (10 * x1).toNat) (I 161 (10 * x1).toNat).toNat)) (p_i2l x2)) (-2147483648)) ∧ (p_lcmp (p_lmul (p_i2l (chB (lnI (up2 I 156 0 0) x1) 0 (I 161 (10 * x1).toNat) (I 161 (10 * x1).toNat).toNat)) (p_i2l x2)) 2147483647 ≤ 0)) then (lnI (up2 I 156 0 0) x1) else (up2 (lnI (up2 I 156 0 0) x1) 156 0 2)) else (up2 (up2 I 156 0 0) 156 0 1)), S) :=
  Ca.of rfl rfl (
  (Classical.em ((((0 ≤ x1) ∧ (x1 < I 156 15))))).elim (fun c1 => 
    b_X12_scaled_0  (c_X12_isSpot_y hl0 (by first | decide | exact (show 0 = 0 from by decide)) c1) (
    b_X12_scaled_10  (fun _ => 
      b_X12_scaled_15  (c_X12_behind hl0 (v1 c1) (v2 c1) (v3 c1) (by first | decide | exact (show (0 : Int) = 0 ∨ (0 : Int) = 18 from by decide)) (v4 c1) (v5 c1) (v6 c1)) (
      have K6 : ∀ us1 : Int, us1 = (if (0 ≤ p_lcmp (p_lmul (p_i2l (chB (lnI (up2 I 156 0 0) x1) 0 (I 161 (10 * x1).toNat) (I 161 (10 * x1).toNat).toNat)) (p_i2l x2)) (-2147483648)) ∧ (p_lcmp (p_lmul (p_i2l (chB (lnI (up2 I 156 0 0) x1) 0 (I 161 (10 * x1).toNat) (I 161 (10 * x1).toNat).toNat)) (p_i2l x2)) 2147483647 ≤ 0) then (1 : Int) else 0) → Ev (d + 5) mX12_scaled (48, [some (vR (some (22, 0, 156))), some (vI x1), some (vI x2), some (vL (p_lmul (p_i2l (chB (lnI (up2 I 156 0 0) x1) 0 (I 161 (10 * x1).toNat) (I 161 (10 * x1).toNat).toNat)) (p_i2l x2))), none], [vI us1, vR (some (22, 0, 156))], ((lnI (up2 I 156 0 0) x1), S)) ((.inl (some (vI (if (((0 ≤ x1) ∧ (x1 < I 156 15))) then ((if ((0 ≤ p_lcmp (p_lmul (p_i2l (chB (lnI (up2 I 156 0 0) x1) 0 (I 161 (10 * x1).toNat) (I 161 (10 * x1).toNat).toNat)) (p_i2l x2)) (-2147483648)) ∧ (p_lcmp (p_lmul (p_i2l (chB (lnI (up2 I 156 0 0) x1) 0 (I 161 (10 * x1).toNat) (I 161 (10 * x1).toNat).toNat)) (p_i2l x2)) 2147483647 ≤ 0)) then (p_l2i (p_lmul (p_i2l (chB (lnI (up2 I 156 0 0) x1) 0 (I 161 (10 * x1).toNat) (I 161 (10 * x1).toNat).toNat)) (p_i2l x2)) : Int) else 0) : Int) else 0)))), ((if (((0 ≤ x1) ∧ (x1 < I 156 15))) then (if ((0 ≤ p_lcmp (p_lmul (p_i2l (chB (lnI (up2 I 156 0 0) x1) 0 (I 161 (10 * x1).toNat) (I 161 (10 * x1).toNat).toNat)) (p_i2l x2)) (-2147483648)) ∧ (p_lcmp (p_lmul (p_i2l (chB (lnI (up2 I 156 0 0) x1) 0 (I 161 (10 * x1).toNat) (I 161 (10 * x1).toNat).toNat)) (p_i2l x2)) 2147483647 ≤ 0)) then (lnI (up2 I 156 0 0) x1) else (up2 (lnI (up2 I 156 0 0) x1) 156 0 2)) else (up2 (up2 I 156 0 0) 156 0 1)), S)) := fun us1 e_us1 => by subst e_us1; exact (
        (Classical.em (((0 ≤ p_lcmp (p_lmul (p_i2l (chB (lnI (up2 I 156 0 0) x1) 0 (I 161 (10 * x1).toNat) (I 161 (10 * x1).toNat).toNat)) (p_i2l x2)) (-2147483648)) ∧ (p_lcmp (p_lmul (p_i2l (chB (lnI (up2 I 156 0 0) x1) 0 (I 161 (10 * x1).toNat) (I 161 (10 * x1).toNat).toNat)) (p_i2l x2)) 2147483647 ≤ 0)))).elim (fun c8 => 
          b_X12_scaled_48  (c_X12_right_y (b1 := (0 ≤ p_lcmp (p_lmul (p_i2l (chB (lnI (up2 I 156 0 0) x1) 0 (I 161 (10 * x1).toNat) (I 161 (10 * x1).toNat).toNat)) (p_i2l x2)) (-2147483648)) ∧ (p_lcmp (p_lmul (p_i2l (chB (lnI (up2 I 156 0 0) x1) 0 (I 161 (10 * x1).toNat) (I 161 (10 * x1).toNat).toNat)) (p_i2l x2)) 2147483647 ≤ 0)) hl0 (by first | decide | exact (show 0 = 0 from by decide)) (by first | decide | exact (show (2 : Int) ≠ 0 from by decide)) c8) (
          b_X12_scaled_52  (fun c => absurd c (by decide)) (fun _ => 
            b_X12_scaled_55  (ev_ret2 ((if_pos c8).symm.trans (if_pos c1).symm) (prEq ((if_pos c8).symm.trans (if_pos c1).symm) rfl) (b_X12_scaled_61 ))))) (fun c9 => 
          b_X12_scaled_48  (c_X12_right_n (b1 := (0 ≤ p_lcmp (p_lmul (p_i2l (chB (lnI (up2 I 156 0 0) x1) 0 (I 161 (10 * x1).toNat) (I 161 (10 * x1).toNat).toNat)) (p_i2l x2)) (-2147483648)) ∧ (p_lcmp (p_lmul (p_i2l (chB (lnI (up2 I 156 0 0) x1) 0 (I 161 (10 * x1).toNat) (I 161 (10 * x1).toNat).toNat)) (p_i2l x2)) 2147483647 ≤ 0)) hl0 (by first | decide | exact (show 0 = 0 from by decide)) (by first | decide | exact (show (2 : Int) ≠ 0 from by decide)) c9) (
          b_X12_scaled_52  (fun _ => 
            b_X12_scaled_60  (ev_ret2 ((if_neg (fun q => c9 q)).symm.trans (if_pos c1).symm) (prEq ((if_neg (fun q => c9 q)).symm.trans (if_pos c1).symm) rfl) (b_X12_scaled_61 ))) (fun c => absurd c (by decide)))))
      
      b_X12_scaled_21  (fun (c3 : p_lcmp (p_lmul (p_i2l (chB (lnI (up2 I 156 0 0) x1) 0 (I 161 (10 * x1).toNat) (I 161 (10 * x1).toNat).toNat)) (p_i2l x2)) (-2147483648) < 0) => 
        b_X12_scaled_47  (K6 0 (if_neg (fun q => (Int.not_le.mpr c3) q.1)).symm)) (fun (c4 : 0 ≤ p_lcmp (p_lmul (p_i2l (chB (lnI (up2 I 156 0 0) x1) 0 (I 161 (10 * x1).toNat) (I 161 (10 * x1).toNat).toNat)) (p_i2l x2)) (-2147483648)) => 
        b_X12_scaled_35  (fun (c5 : 0 < p_lcmp (p_lmul (p_i2l (chB (lnI (up2 I 156 0 0) x1) 0 (I 161 (10 * x1).toNat) (I 161 (10 * x1).toNat).toNat)) (p_i2l x2)) 2147483647) => 
          b_X12_scaled_47  (K6 0 (if_neg (fun q => (Int.not_le.mpr c5) q.2)).symm)) (fun (c6 : p_lcmp (p_lmul (p_i2l (chB (lnI (up2 I 156 0 0) x1) 0 (I 161 (10 * x1).toNat) (I 161 (10 * x1).toNat).toNat)) (p_i2l x2)) 2147483647 ≤ 0) => 
          b_X12_scaled_43  (K6 1 (if_pos ⟨c4, c6⟩).symm))))) (fun c => absurd c (by decide)))) (fun c2 => 
    b_X12_scaled_0  (c_X12_isSpot_n hl0 (by first | decide | exact (show 0 = 0 from by decide)) c2) (
    b_X12_scaled_10  (fun c => absurd c (by decide)) (fun _ => ev_ret2 ((if_neg (fun q => c2 q)).symm) (prEq ((if_neg (fun q => c2 q)).symm) rfl) (b_X12_scaled_13 )))))
theorem c_X12_paint {d : Nat} {I : Nat → Nat → Int} {S : PS} {x1 x2 : Int} (hl0 : LyX12 S)
    (v1 : ((((0 ≤ x1) ∧ (x1 < I 156 15)))) → -2147483648 ≤ (0 : Int) + x1 ∧ (0 : Int) + x1 ≤ 2147483647)
    (v2 : ((((0 ≤ x1) ∧ (x1 < I 156 15)))) → 0 ≤ (0 : Int) + x1 ∧ (0 : Int) + x1 < (36 : Nat))
    (v3 : ((((0 ≤ x1) ∧ (x1 < I 156 15)))) → (I 178 ((0 : Int) + x1).toNat = (-1)) → ((0 ≤ x2) ∧ (x2 ≤ 3)) → (0 : Int) = 0 ∨ (0 : Int) = 18)
    (v4 : ((((0 ≤ x1) ∧ (x1 < I 156 15)))) → (I 178 ((0 : Int) + x1).toNat = (-1)) → ((0 ≤ x2) ∧ (x2 ≤ 3)) → 0 ≤ x1 ∧ x1 < 12)
    (v5 : ((((0 ≤ x1) ∧ (x1 < I 156 15)))) → (I 178 ((0 : Int) + x1).toNat = (-1)) → ((0 ≤ x2) ∧ (x2 ≤ 3)) → 0 ≤ I 161 (10 * x1).toNat ∧ I 161 (10 * x1).toNat ≤ 9)
    (v6 : ((((0 ≤ x1) ∧ (x1 < I 156 15)))) → (I 178 ((0 : Int) + x1).toNat = (-1)) → ((0 ≤ x2) ∧ (x2 ≤ 3)) → ∀ k : Nat, (k : Int) < I 161 (10 * x1).toNat → 0 ≤ I 161 (((10 * x1) + 1) + (k : Int)).toNat ∧ I 161 (((10 * x1) + 1) + (k : Int)).toNat < 12)
    (v7 : ((((0 ≤ x1) ∧ (x1 < I 156 15)))) → ((I 178 (0 + x1).toNat = (-1)) ∧ (((0 ≤ x2) ∧ (x2 ≤ 3)) ∧ (p_and (p_shr (frF (up2 I 156 0 0) 0 x1 (I 161 (10 * x1).toNat).toNat) x2) 1 = 1))) → 0 ≤ (I 156 41) ∧ (I 156 41) ≤ 30)
    (v8 : ((((0 ≤ x1) ∧ (x1 < I 156 15)))) → ((I 178 (0 + x1).toNat = (-1)) ∧ (((0 ≤ x2) ∧ (x2 ≤ 3)) ∧ (p_and (p_shr (frF (up2 I 156 0 0) 0 x1 (I 161 (10 * x1).toNat).toNat) x2) 1 = 1))) → 0 ≤ x1 ∧ x1 < (36 : Nat))
    (v9 : ((((0 ≤ x1) ∧ (x1 < I 156 15)))) → ((I 178 (0 + x1).toNat = (-1)) ∧ (((0 ≤ x2) ∧ (x2 ≤ 3)) ∧ (p_and (p_shr (frF (up2 I 156 0 0) 0 x1 (I 161 (10 * x1).toNat).toNat) x2) 1 = 1))) → 0 ≤ ((kpI (up2 I 156 0 0)) 156 15) ∧ ((kpI (up2 I 156 0 0)) 156 15) ≤ 12)
    (v10 : ((((0 ≤ x1) ∧ (x1 < I 156 15)))) → (¬((I 178 (0 + x1).toNat = (-1)) ∧ (((0 ≤ x2) ∧ (x2 ≤ 3)) ∧ (p_and (p_shr (frF (up2 I 156 0 0) 0 x1 (I 161 (10 * x1).toNat).toNat) x2) 1 = 1)))) → -2147483648 ≤ I 158 1 + 1 ∧ I 158 1 + 1 ≤ 2147483647) : Ca (d + 4) mX12_paint [vR (some (22, 0, 156)), vI x1, vI x2] (I, S) (.inl (some (vI (if (((0 ≤ x1) ∧ (x1 < I 156 15))) then ((if (I 178 (0 + x1).toNat = (-1)) ∧ (((0 ≤ x2) ∧ (x2 ≤ 3)) ∧ (p_and (p_shr (frF (up2 I 156 0 0) 0 x1 (I 161 (10 * x1).toNat).toNat) x2) 1 = 1)) then ((cntP (up2 (kpI (up2 I 156 0 0)) 178 (x1.toNat) x2) 0 (((kpI (up2 I 156 0 0)) 156 15)).toNat) : Int) else (-1)) : Int) else 0)))) ((if (((0 ≤ x1) ∧ (x1 < I 156 15))) then (if (I 178 (0 + x1).toNat = (-1)) ∧ (((0 ≤ x2) ∧ (x2 ≤ 3)) ∧ (p_and (p_shr (frF (up2 I 156 0 0) 0 x1 (I 161 (10 * x1).toNat).toNat) x2) 1 = 1)) then (up2 (kpI (up2 I 156 0 0)) 178 (x1.toNat) x2) else (up2 (up2 I 156 0 0) 158 (1) (I 158 1 + 1))) else (up2 (up2 I 156 0 0) 156 0 1)), S) :=
  Ca.of rfl rfl (
  (Classical.em ((((0 ≤ x1) ∧ (x1 < I 156 15))))).elim (fun c1 => 
    b_X12_paint_0  (c_X12_isSpot_y hl0 (by first | decide | exact (show 0 = 0 from by decide)) c1) (
    b_X12_paint_10  (fun _ => 
      b_X12_paint_15  (c_X12_canPaint hl0 (v1 c1) (v2 c1) (v3 c1) (v4 c1) (v5 c1) (v6 c1)) (
      b_X12_paint_22  (fun c3' => have c3 : (I 178 (0 + x1).toNat = (-1)) ∧ (((0 ≤ x2) ∧ (x2 ≤ 3)) ∧ (p_and (p_shr (frF (up2 I 156 0 0) 0 x1 (I 161 (10 * x1).toNat).toNat) x2) 1 = 1)) := b2t c3'; 
        b_X12_paint_31  (c_X12_keeps hl0 (v7 c1 c3)) (
        b_X12_paint_35 (ly_X12_39 hl0) (v8 c1 c3) (c_X12_painted hl0 (by first | decide | exact (show (0 : Int) = 0 ∨ (0 : Int) = 18 from by decide)) (v9 c1 c3)) (ev_ret2 ((if_pos c3).symm.trans (if_pos c1).symm) (prEq ((if_pos c3).symm.trans (if_pos c1).symm) rfl) (b_X12_paint_47 )))) (fun c4' => have c4 : ¬((I 178 (0 + x1).toNat = (-1)) ∧ (((0 ≤ x2) ∧ (x2 ≤ 3)) ∧ (p_and (p_shr (frF (up2 I 156 0 0) 0 x1 (I 161 (10 * x1).toNat).toNat) x2) 1 = 1))) := b2f c4'; 
        b_X12_paint_25  (c_X12_refuses hl0 (by first | decide | exact (show 0 ≤ (1 : Int) ∧ (1 : Int) < (3 : Nat) from by decide)) (v10 c1 c4)) (ev_ret2 ((if_neg c4).symm.trans (if_pos c1).symm) (prEq ((if_neg c4).symm.trans (if_pos c1).symm) rfl) (b_X12_paint_30 ))))) (fun c => absurd c (by decide)))) (fun c2 => 
    b_X12_paint_0  (c_X12_isSpot_n hl0 (by first | decide | exact (show 0 = 0 from by decide)) c2) (
    b_X12_paint_10  (fun c => absurd c (by decide)) (fun _ => ev_ret2 ((if_neg (fun q => c2 q)).symm) (prEq ((if_neg (fun q => c2 q)).symm) rfl) (b_X12_paint_13 )))))
theorem c_X12_wash {d : Nat} {I : Nat → Nat → Int} {S : PS} {x1 : Int} (hl0 : LyX12 S)
    (v1 : ((((0 ≤ x1) ∧ (x1 < I 156 15)))) → 0 ≤ x1 ∧ x1 < (36 : Nat))
    (v2 : ((((0 ≤ x1) ∧ (x1 < I 156 15)))) → (I 178 x1.toNat ≠ (-1)) → 0 ≤ (I 156 41) ∧ (I 156 41) ≤ 30)
    (v3 : ((((0 ≤ x1) ∧ (x1 < I 156 15)))) → (I 178 x1.toNat = (-1)) → -2147483648 ≤ I 158 1 + 1 ∧ I 158 1 + 1 ≤ 2147483647) : Ca (d + 2) mX12_wash [vR (some (22, 0, 156)), vI x1] (I, S) (.inl (some (vI (if (((0 ≤ x1) ∧ (x1 < I 156 15))) then ((if I 178 x1.toNat ≠ (-1) then (I 178 x1.toNat : Int) else (-1)) : Int) else 0)))) ((if (((0 ≤ x1) ∧ (x1 < I 156 15))) then (if I 178 x1.toNat ≠ (-1) then (up2 (kpI (up2 I 156 0 0)) 178 (x1.toNat) (-1)) else (up2 (up2 I 156 0 0) 158 (1) (I 158 1 + 1))) else (up2 (up2 I 156 0 0) 156 0 1)), S) :=
  Ca.of rfl rfl (
  (Classical.em ((((0 ≤ x1) ∧ (x1 < I 156 15))))).elim (fun c1 => 
    b_X12_wash_0  (c_X12_isSpot_y hl0 (by first | decide | exact (show 0 = 0 from by decide)) c1) (
    b_X12_wash_10  (fun _ => 
      b_X12_wash_15 (ly_X12_39 hl0) (v1 c1) (fun (c3 : I 178 x1.toNat ≠ (-1)) => 
        b_X12_wash_33  (c_X12_keeps hl0 (v2 c1 c3)) (ev_ret2 ((if_pos c3).symm.trans (if_pos c1).symm) (prEq ((if_pos c3).symm.trans (if_pos c1).symm) rfl) (b_X12_wash_37 (ly_X12_39 hl0) (v1 c1)))) (fun (c4 : I 178 x1.toNat = (-1)) => 
        b_X12_wash_27  (c_X12_refuses hl0 (by first | decide | exact (show 0 ≤ (1 : Int) ∧ (1 : Int) < (3 : Nat) from by decide)) (v3 c1 c4)) (ev_ret2 ((if_neg (fun q => q c4)).symm.trans (if_pos c1).symm) (prEq ((if_neg (fun q => q c4)).symm.trans (if_pos c1).symm) rfl) (b_X12_wash_32 )))) (fun c => absurd c (by decide)))) (fun c2 => 
    b_X12_wash_0  (c_X12_isSpot_n hl0 (by first | decide | exact (show 0 = 0 from by decide)) c2) (
    b_X12_wash_10  (fun c => absurd c (by decide)) (fun _ => ev_ret2 ((if_neg (fun q => c2 q)).symm) (prEq ((if_neg (fun q => c2 q)).symm) rfl) (b_X12_wash_13 )))))
theorem c_X12_tune {d : Nat} {I : Nat → Nat → Int} {S : PS} {x1 x2 : Int} (hl0 : LyX12 S)
    (v1 : (((0 ≤ x1) ∧ (x1 < I 156 14))) → -2147483648 ≤ 12 + x1 ∧ 12 + x1 ≤ 2147483647)
    (v2 : (((0 ≤ x1) ∧ (x1 < I 156 14))) → 0 ≤ 12 + x1 ∧ 12 + x1 < (36 : Nat))
    (v3 : (((0 ≤ x1) ∧ (x1 < I 156 14))) → (¬((1 ≤ x2) ∧ (x2 ≤ 99))) → -2147483648 ≤ I 158 1 + 1 ∧ I 158 1 + 1 ≤ 2147483647)
    (v4 : (((0 ≤ x1) ∧ (x1 < I 156 14))) → ((1 ≤ x2) ∧ (x2 ≤ 99)) → (I 178 (12 + x1).toNat ≠ x2) → 0 ≤ (I 156 41) ∧ (I 156 41) ≤ 30)
    (v5 : (((0 ≤ x1) ∧ (x1 < I 156 14))) → ((1 ≤ x2) ∧ (x2 ≤ 99)) → (I 178 (12 + x1).toNat = x2) → -2147483648 ≤ I 158 1 + 1 ∧ I 158 1 + 1 ≤ 2147483647) : Ca (d + 1) mX12_tune [vR (some (22, 0, 156)), vI x1, vI x2] (I, S) (.inl (some (vI (if ((0 ≤ x1) ∧ (x1 < I 156 14)) then ((if ¬((1 ≤ x2) ∧ (x2 ≤ 99)) then ((-1) : Int) else (if I 178 (12 + x1).toNat ≠ x2 then (I 178 (12 + x1).toNat : Int) else (-1))) : Int) else 0)))) ((if ((0 ≤ x1) ∧ (x1 < I 156 14)) then (if ¬((1 ≤ x2) ∧ (x2 ≤ 99)) then (up2 (up2 I 156 0 0) 158 (1) (I 158 1 + 1)) else (if I 178 (12 + x1).toNat ≠ x2 then (up2 (kpI (up2 I 156 0 0)) 178 ((12 + x1).toNat) x2) else (up2 (up2 I 156 0 0) 158 (1) (I 158 1 + 1)))) else (up2 (up2 I 156 0 0) 156 0 1)), S) :=
  Ca.of rfl rfl (
  have K4 : ∀ us1 : Int, us1 = (if (0 ≤ x1) ∧ (x1 < I 156 14) then (1 : Int) else 0) → Ev (d + 1) mX12_tune (23, [some (vR (some (22, 0, 156))), some (vI x1), some (vI x2), none], [vI us1, vR (some (22, 0, 156))], ((up2 I 156 0 0), S)) ((.inl (some (vI (if ((0 ≤ x1) ∧ (x1 < I 156 14)) then ((if ¬((1 ≤ x2) ∧ (x2 ≤ 99)) then ((-1) : Int) else (if I 178 (12 + x1).toNat ≠ x2 then (I 178 (12 + x1).toNat : Int) else (-1))) : Int) else 0)))), ((if ((0 ≤ x1) ∧ (x1 < I 156 14)) then (if ¬((1 ≤ x2) ∧ (x2 ≤ 99)) then (up2 (up2 I 156 0 0) 158 (1) (I 158 1 + 1)) else (if I 178 (12 + x1).toNat ≠ x2 then (up2 (kpI (up2 I 156 0 0)) 178 ((12 + x1).toNat) x2) else (up2 (up2 I 156 0 0) 158 (1) (I 158 1 + 1)))) else (up2 (up2 I 156 0 0) 156 0 1)), S)) := fun us1 e_us1 => by subst e_us1; exact (
    (Classical.em (((0 ≤ x1) ∧ (x1 < I 156 14)))).elim (fun c6 => 
      b_X12_tune_23  (c_X12_right_y (b1 := (0 ≤ x1) ∧ (x1 < I 156 14)) hl0 (by first | decide | exact (show 0 = 0 from by decide)) (by first | decide | exact (show (1 : Int) ≠ 0 from by decide)) c6) (
      b_X12_tune_27  (fun _ => 
        b_X12_tune_32 (ly_X12_39 hl0) (v1 c6) (v2 c6) c_X12_within (
        b_X12_tune_49  (fun c8' => have c8 : ¬((1 ≤ x2) ∧ (x2 ≤ 99)) := b2f c8'; 
          b_X12_tune_57  (c_X12_refuses hl0 (by first | decide | exact (show 0 ≤ (1 : Int) ∧ (1 : Int) < (3 : Nat) from by decide)) (v3 c6 c8)) (ev_ret2 ((if_pos c8).symm.trans (if_pos c6).symm) (prEq ((if_pos c8).symm.trans (if_pos c6).symm) rfl) (b_X12_tune_62 ))) (fun c9' => have c9 : (1 ≤ x2) ∧ (x2 ≤ 99) := b2t c9'; 
          b_X12_tune_52  (fun (c10 : I 178 (12 + x1).toNat ≠ x2) => 
            b_X12_tune_63  (c_X12_keeps hl0 (v4 c6 c9 c10)) (ev_ret2 (((if_pos c10).symm.trans (if_neg (fun q => q c9)).symm).trans (if_pos c6).symm) (prEq (((if_pos c10).symm.trans (if_neg (fun q => q c9)).symm).trans (if_pos c6).symm) rfl) (b_X12_tune_67 (ly_X12_39 hl0) (v1 c6) (v2 c6)))) (fun (c11 : I 178 (12 + x1).toNat = x2) => 
            b_X12_tune_57  (c_X12_refuses hl0 (by first | decide | exact (show 0 ≤ (1 : Int) ∧ (1 : Int) < (3 : Nat) from by decide)) (v5 c6 c9 c11)) (ev_ret2 (((if_neg (fun q => q c11)).symm.trans (if_neg (fun q => q c9)).symm).trans (if_pos c6).symm) (prEq (((if_neg (fun q => q c11)).symm.trans (if_neg (fun q => q c9)).symm).trans (if_pos c6).symm) rfl) (b_X12_tune_62 )))))) (fun c => absurd c (by decide)))) (fun c7 => 
      b_X12_tune_23  (c_X12_right_n (b1 := (0 ≤ x1) ∧ (x1 < I 156 14)) hl0 (by first | decide | exact (show 0 = 0 from by decide)) (by first | decide | exact (show (1 : Int) ≠ 0 from by decide)) c7) (
      b_X12_tune_27  (fun c => absurd c (by decide)) (fun _ => ev_ret2 ((if_neg (fun q => c7 q)).symm) (prEq ((if_neg (fun q => c7 q)).symm) rfl) (b_X12_tune_30 )))))
  
  b_X12_tune_0  (fun (c1 : x1 < 0) => 
    b_X12_tune_22  (K4 0 (if_neg (fun q => (Int.not_le.mpr c1) q.1)).symm)) (fun (c2 : 0 ≤ x1) => 
    b_X12_tune_10  (fun (c3 : I 156 14 ≤ x1) => 
      b_X12_tune_22  (K4 0 (if_neg (fun q => (Int.not_lt.mpr c3) q.2)).symm)) (fun (c4 : x1 < I 156 14) => 
      b_X12_tune_18  (K4 1 (if_pos ⟨c2, c4⟩).symm))))
end
