noncomputable section
theorem c_X11_takeTape {d : Nat} {I : Nat → Nat → Int} {S : PS} {x1 : Int} {T U : Nat} (hl0 : LyX11 S T U)
    (hP : (0 ≤ x1) ∧ (x1 ≤ I 31 1)) : Ca (d + 1) mX11_takeTape [vR (some (21, 0, 31)), vI x1] (I, S) (.inl none) ((up2 (up2 (up2 I 31 1 0) 32 1 (p_min x1 700)) 32 2 0), S) :=
  Ca.of rfl rfl (
  b_X11_takeTape_0  (fun (c1 : x1 < 0) => absurd hP (fun q => (Int.not_le.mpr c1) q.1)) (fun (c2 : 0 ≤ x1) => 
    b_X11_takeTape_4  (fun (c3 : x1 ≤ I 31 1) => 
      b_X11_takeTape_20 (ly_X11_0 hl0) (c_X10_begin (ly_X11_t hl0)) (ev_eqr rfl (b_X11_takeTape_33 ))) (fun (c4 : I 31 1 < x1) => absurd hP (fun q => (Int.not_le.mpr c4) q.2))))
theorem c_X11_takeTape_t {d : Nat} {I : Nat → Nat → Int} {S : PS} {x1 : Int} {T U : Nat} (hl0 : LyX11 S T U)
    (hP : ¬((0 ≤ x1) ∧ (x1 ≤ I 31 1))) : Ca (d + 1) mX11_takeTape [vR (some (21, 0, 31)), vI x1] (I, S) (.inr 0) (I, (exS S)) :=
  Ca.of rfl rfl (
  b_X11_takeTape_0  (fun (c1 : x1 < 0) => ev_eqr rfl (b_X11_takeTape_12 )) (fun (c2 : 0 ≤ x1) => 
    b_X11_takeTape_4  (fun (c3 : x1 ≤ I 31 1) => 
      b_X11_takeTape_20 (ly_X11_0 hl0) (c_X10_begin (ly_X11_t hl0)) (absurd (⟨c2, c3⟩) hP)) (fun (c4 : I 31 1 < x1) => ev_eqr rfl (b_X11_takeTape_12 ))))
theorem c_X11_planned {d : Nat} {I : Nat → Nat → Int} {S : PS} {x1 : Int} {T U : Nat} (hl0 : LyX11 S T U)
    (hP : (0 ≤ x1) ∧ (x1 ≤ 3)) : Ca (d + 1) mX11_planned [vR (some (21, 0, 31)), vI x1] (I, S) (.inl (some (vI (if I 147 6 ≠ 0 then ((if x1 = 0 then (I 147 8 : Int) else (if x1 = 1 then (I 147 9 : Int) else (if x1 = 2 then (I 147 10 : Int) else I 147 11))) : Int) else (-1))))) (I, S) :=
  Ca.of rfl rfl (
  b_X11_planned_0  (fun (c1 : x1 < 0) => absurd hP (fun q => (Int.not_le.mpr c1) q.1)) (fun (c2 : 0 ≤ x1) => 
    b_X11_planned_4  (fun (c3 : x1 ≤ 3) => 
      b_X11_planned_17 (ly_X11_10 hl0) (c_X4_toldOf (ly_X11_n hl0)) (ev_eqr rfl (b_X11_planned_25 ))) (fun (c4 : 3 < x1) => absurd hP (fun q => (Int.not_le.mpr c4) q.2))))
theorem c_X11_planned_t {d : Nat} {I : Nat → Nat → Int} {S : PS} {x1 : Int} {T U : Nat} (hl0 : LyX11 S T U)
    (hP : ¬((0 ≤ x1) ∧ (x1 ≤ 3))) : Ca (d + 1) mX11_planned [vR (some (21, 0, 31)), vI x1] (I, S) (.inr 1) (I, (exS S)) :=
  Ca.of rfl rfl (
  b_X11_planned_0  (fun (c1 : x1 < 0) => ev_eqr rfl (b_X11_planned_9 )) (fun (c2 : 0 ≤ x1) => 
    b_X11_planned_4  (fun (c3 : x1 ≤ 3) => 
      b_X11_planned_17 (ly_X11_10 hl0) (c_X4_toldOf (ly_X11_n hl0)) (absurd (⟨c2, c3⟩) hP)) (fun (c4 : 3 < x1) => ev_eqr rfl (b_X11_planned_9 ))))
theorem c_X11_checkSpot {d : Nat} {I : Nat → Nat → Int} {S : PS} {x1 : Int} {T U : Nat} (hl0 : LyX11 S T U)
    (hP : (0 ≤ x1) ∧ (x1 < I T 6)) : Ca d mX11_checkSpot [vR (some (21, 0, 31)), vI x1] (I, S) (.inl none) (I, S) :=
  Ca.of rfl rfl (
  b_X11_checkSpot_0  (fun (c1 : x1 < 0) => absurd hP (fun q => (Int.not_le.mpr c1) q.1)) (fun (c2 : 0 ≤ x1) => 
    b_X11_checkSpot_4 (ly_X11_2 hl0) (fun (c3 : x1 < I T 6) => ev_eqr rfl (b_X11_checkSpot_23 )) (fun (c4 : I T 6 ≤ x1) => absurd hP (fun q => (Int.not_lt.mpr c4) q.2))))
theorem c_X11_checkSpot_t {d : Nat} {I : Nat → Nat → Int} {S : PS} {x1 : Int} {T U : Nat} (hl0 : LyX11 S T U)
    (hP : ¬((0 ≤ x1) ∧ (x1 < I T 6))) : Ca d mX11_checkSpot [vR (some (21, 0, 31)), vI x1] (I, S) (.inr 1) (I, (exS S)) :=
  Ca.of rfl rfl (
  b_X11_checkSpot_0  (fun (c1 : x1 < 0) => ev_eqr rfl (b_X11_checkSpot_15 )) (fun (c2 : 0 ≤ x1) => 
    b_X11_checkSpot_4 (ly_X11_2 hl0) (fun (c3 : x1 < I T 6) => absurd (⟨c2, c3⟩) hP) (fun (c4 : I T 6 ≤ x1) => ev_eqr rfl (b_X11_checkSpot_15 ))))
theorem c_X11_checkRule {d : Nat} {I : Nat → Nat → Int} {S : PS} {x1 : Int} {T U : Nat} (hl0 : LyX11 S T U)
    (hP : (0 ≤ x1) ∧ (x1 < I (T + 2) 0)) : Ca d mX11_checkRule [vR (some (21, 0, 31)), vI x1] (I, S) (.inl none) (I, S) :=
  Ca.of rfl rfl (
  b_X11_checkRule_0  (fun (c1 : x1 < 0) => absurd hP (fun q => (Int.not_le.mpr c1) q.1)) (fun (c2 : 0 ≤ x1) => 
    b_X11_checkRule_4 (ly_X11_2 hl0) (ly_X0_2 (ly_X11_c hl0)) (fun (c3 : x1 < I (T + 2) 0) => ev_eqr rfl (b_X11_checkRule_26 )) (fun (c4 : I (T + 2) 0 ≤ x1) => absurd hP (fun q => (Int.not_lt.mpr c4) q.2))))
theorem c_X11_checkRule_t {d : Nat} {I : Nat → Nat → Int} {S : PS} {x1 : Int} {T U : Nat} (hl0 : LyX11 S T U)
    (hP : ¬((0 ≤ x1) ∧ (x1 < I (T + 2) 0))) : Ca d mX11_checkRule [vR (some (21, 0, 31)), vI x1] (I, S) (.inr 1) (I, (exS S)) :=
  Ca.of rfl rfl (
  b_X11_checkRule_0  (fun (c1 : x1 < 0) => ev_eqr rfl (b_X11_checkRule_18 )) (fun (c2 : 0 ≤ x1) => 
    b_X11_checkRule_4 (ly_X11_2 hl0) (ly_X0_2 (ly_X11_c hl0)) (fun (c3 : x1 < I (T + 2) 0) => absurd (⟨c2, c3⟩) hP) (fun (c4 : I (T + 2) 0 ≤ x1) => ev_eqr rfl (b_X11_checkRule_18 ))))
theorem c_X11_pieceAt {d : Nat} {I : Nat → Nat → Int} {S : PS} {x1 : Int} {T U : Nat} (hl0 : LyX11 S T U)
    (v1 : (0 ≤ x1) → (x1 < I T 1) → 0 ≤ x1 ∧ x1 < (4 : Nat))
    (hP : (0 ≤ x1) ∧ (x1 < I T 1)) : Ca d mX11_pieceAt [vR (some (21, 0, 31)), vI x1] (I, S) (.inl (some (vR (some (14, 0, (T + 7 + 9 * x1.toNat)))))) (I, S) :=
  Ca.of rfl rfl (
  b_X11_pieceAt_0  (fun (c1 : x1 < 0) => absurd hP (fun q => (Int.not_le.mpr c1) q.1)) (fun (c2 : 0 ≤ x1) => 
    b_X11_pieceAt_4 (ly_X11_2 hl0) (fun (c3 : x1 < I T 1) => ev_eqr rfl (b_X11_pieceAt_23 (ly_X11_2 hl0) (ly_X0_0 (ly_X11_c hl0)) (v1 c2 c3) (ly_X0_a (ly_X11_c hl0) (idxN (v1 c2 c3))))) (fun (c4 : I T 1 ≤ x1) => absurd hP (fun q => (Int.not_lt.mpr c4) q.2))))
theorem c_X11_pieceAt_t {d : Nat} {I : Nat → Nat → Int} {S : PS} {x1 : Int} {T U : Nat} (hl0 : LyX11 S T U)
    (v1 : (0 ≤ x1) → (x1 < I T 1) → 0 ≤ x1 ∧ x1 < (4 : Nat))
    (hP : ¬((0 ≤ x1) ∧ (x1 < I T 1))) : Ca d mX11_pieceAt [vR (some (21, 0, 31)), vI x1] (I, S) (.inr 1) (I, (exS S)) :=
  Ca.of rfl rfl (
  b_X11_pieceAt_0  (fun (c1 : x1 < 0) => ev_eqr rfl (b_X11_pieceAt_15 )) (fun (c2 : 0 ≤ x1) => 
    b_X11_pieceAt_4 (ly_X11_2 hl0) (fun (c3 : x1 < I T 1) => absurd (⟨c2, c3⟩) hP) (fun (c4 : I T 1 ≤ x1) => ev_eqr rfl (b_X11_pieceAt_15 ))))
theorem c_X11_codeAt {d : Nat} {I : Nat → Nat → Int} {S : PS} {a1 T U : Nat} {x2 : Int} (hl0 : LyX11 S T U) (hl1 : LyX6 S a1)
    (v1 : (0 ≤ x2) → (x2 < I a1 1) → 0 ≤ x2 ∧ x2 < (91 : Nat))
    (hP : (0 ≤ x2) ∧ (x2 < I a1 1)) : Ca d mX11_codeAt [vR (some (21, 0, 31)), vR (some (16, 0, a1)), vI x2] (I, S) (.inl (some (vI (I (a1 + 1) x2.toNat)))) (I, S) :=
  Ca.of rfl rfl (
  b_X11_codeAt_0  (fun (c1 : x2 < 0) => absurd hP (fun q => (Int.not_le.mpr c1) q.1)) (fun (c2 : 0 ≤ x2) => 
    b_X11_codeAt_4  (fun (c3 : x2 < I a1 1) => ev_eqr rfl (b_X11_codeAt_20 (ly_X6_2 hl1) (v1 c2 c3))) (fun (c4 : I a1 1 ≤ x2) => absurd hP (fun q => (Int.not_lt.mpr c4) q.2))))
theorem c_X11_codeAt_t {d : Nat} {I : Nat → Nat → Int} {S : PS} {a1 T U : Nat} {x2 : Int} (hl0 : LyX11 S T U) (hl1 : LyX6 S a1)
    (v1 : (0 ≤ x2) → (x2 < I a1 1) → 0 ≤ x2 ∧ x2 < (91 : Nat))
    (hP : ¬((0 ≤ x2) ∧ (x2 < I a1 1))) : Ca d mX11_codeAt [vR (some (21, 0, 31)), vR (some (16, 0, a1)), vI x2] (I, S) (.inr 1) (I, (exS S)) :=
  Ca.of rfl rfl (
  b_X11_codeAt_0  (fun (c1 : x2 < 0) => ev_eqr rfl (b_X11_codeAt_12 )) (fun (c2 : 0 ≤ x2) => 
    b_X11_codeAt_4  (fun (c3 : x2 < I a1 1) => absurd (⟨c2, c3⟩) hP) (fun (c4 : I a1 1 ≤ x2) => ev_eqr rfl (b_X11_codeAt_12 ))))
end
