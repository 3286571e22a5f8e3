noncomputable section
theorem c_X11_solve {d : Nat} {I : Nat → Nat → Int} {S : PS} {x1 : Int} {T U : Nat} {J1 : Nat → Nat → Int} {z1 : Bool} (hl0 : LyX11 S T U)
    (g1 : (((0 ≤ x1) ∧ (x1 < I T 6))) → Ca (d + 19) mX8_paintAll [vR (some (18, 0, 144)), vR (some (11, 0, T))] ((cpyI I (127 + 1) 0 (145 + 1) 0 4), S) (.inl (some (vI (if z1 = true then (1 : Int) else 0)))) (J1, S))
    (hP : ((0 ≤ x1) ∧ (x1 < I T 6))) : Ca (d + 20) mX11_solve [vR (some (21, 0, 31)), vI x1] (I, S) (.inl (some (vI (if ¬(z1 = true) then ((-1) : Int) else (colO (J1 (145 + 1)) x1))))) (J1, S) :=
  Ca.of rfl rfl (
  (Classical.em (((0 ≤ x1) ∧ (x1 < I T 6)))).elim (fun c1 => 
    b_X11_solve_0  (c_X11_checkSpot hl0 c1) (
    b_X11_solve_5 (ly_X11_9 hl0) (ly_X11_6 hl0) (ly_X9_0 (ly_X11_s hl0)) (c_X8_begin (ly_X11_e hl0) (ly_X9_p (ly_X11_s hl0))) (
    b_X11_solve_19 (ly_X11_9 hl0) (ly_X11_2 hl0) (g1 c1) (
    have K4 : ∀ us0 : Int, us0 = (if ¬(z1 = true) then ((-1) : Int) else (colO (J1 (145 + 1)) x1)) → Ev (d + 20) mX11_solve (48, [some (vR (some (21, 0, 31))), some (vI x1)], [vI us0], (J1, S)) ((.inl (some (vI (if ¬(z1 = true) then ((-1) : Int) else (colO (J1 (145 + 1)) x1))))), (J1, S)) := fun us0 e_us0 => by subst e_us0; exact (ev_eqr rfl (b_X11_solve_48 ))
    
    b_X11_solve_30  (fun c3' => have c3 : ¬(z1 = true) := b2f c3'; 
      b_X11_solve_47  (K4 (-1) ((if_pos c3).symm))) (fun c4' => have c4 : z1 = true := b2t c4'; 
      b_X11_solve_33 (ly_X11_9 hl0) (ly_X8_0 (ly_X11_e hl0)) (c_X2_colourAt (ly_X8_p (ly_X11_e hl0))) (
      b_X11_solve_44  (K4 (colO (J1 (145 + 1)) x1) ((if_neg (fun q => q c4)).symm)))))))) (fun c2 => absurd hP (fun q => c2 q)))
theorem c_X11_solve_t {d : Nat} {I : Nat → Nat → Int} {S : PS} {x1 : Int} {T U : Nat} {J1 : Nat → Nat → Int} {z1 : Bool} (hl0 : LyX11 S T U)
    (g1 : (((0 ≤ x1) ∧ (x1 < I T 6))) → Ca (d + 19) mX8_paintAll [vR (some (18, 0, 144)), vR (some (11, 0, T))] ((cpyI I (127 + 1) 0 (145 + 1) 0 4), S) (.inl (some (vI (if z1 = true then (1 : Int) else 0)))) (J1, S))
    (hP : ¬(((0 ≤ x1) ∧ (x1 < I T 6)))) : Ca (d + 20) mX11_solve [vR (some (21, 0, 31)), vI x1] (I, S) (.inr 1) (I, (exS S)) :=
  Ca.of rfl rfl (
  (Classical.em (((0 ≤ x1) ∧ (x1 < I T 6)))).elim (fun c1 => 
    b_X11_solve_0  (c_X11_checkSpot hl0 c1) (
    b_X11_solve_5 (ly_X11_9 hl0) (ly_X11_6 hl0) (ly_X9_0 (ly_X11_s hl0)) (c_X8_begin (ly_X11_e hl0) (ly_X9_p (ly_X11_s hl0))) (
    b_X11_solve_19 (ly_X11_9 hl0) (ly_X11_2 hl0) (g1 c1) (
    have K4 : ∀ us0 : Int, us0 = (if ¬(z1 = true) then ((-1) : Int) else (colO (J1 (145 + 1)) x1)) → Ev (d + 20) mX11_solve (48, [some (vR (some (21, 0, 31))), some (vI x1)], [vI us0], (J1, S)) ((.inr 1), (I, (exS S))) := fun us0 e_us0 => by subst e_us0; exact (absurd c1 hP)
    
    b_X11_solve_30  (fun c3' => have c3 : ¬(z1 = true) := b2f c3'; 
      b_X11_solve_47  (K4 (-1) ((if_pos c3).symm))) (fun c4' => have c4 : z1 = true := b2t c4'; 
      b_X11_solve_33 (ly_X11_9 hl0) (ly_X8_0 (ly_X11_e hl0)) (c_X2_colourAt (ly_X8_p (ly_X11_e hl0))) (
      b_X11_solve_44  (K4 (colO (J1 (145 + 1)) x1) ((if_neg (fun q => q c4)).symm)))))))) (fun c2 => ev_eqr rfl (bt_X11_solve_0  (c_X11_checkSpot_t hl0 c2) rfl)))
theorem c_X11_ways {d : Nat} {I : Nat → Nat → Int} {S : PS} {T U : Nat} {J1 : Nat → Nat → Int} {z1 : Int} (hl0 : LyX11 S T U)
    (g1 : Ca (d + 19) mX8_allWays [vR (some (18, 0, 144)), vR (some (11, 0, T))] ((cpyI I (127 + 1) 0 (145 + 1) 0 4), S) (.inl (some (vI z1))) (J1, S)) : Ca (d + 20) mX11_ways [vR (some (21, 0, 31))] (I, S) (.inl (some (vI z1))) (J1, S) :=
  Ca.of rfl rfl (
  b_X11_ways_0 (ly_X11_9 hl0) (ly_X11_6 hl0) (ly_X9_0 (ly_X11_s hl0)) (c_X8_begin (ly_X11_e hl0) (ly_X9_p (ly_X11_s hl0))) (
  b_X11_ways_14 (ly_X11_9 hl0) (ly_X11_2 hl0) g1 (ev_ret2 rfl rfl (b_X11_ways_25 ))))
theorem c_X11_free {d : Nat} {I : Nat → Nat → Int} {S : PS} {x1 x2 : Int} {T U : Nat} {J1 : Nat → Nat → Int} (hl0 : LyX11 S T U)
    (g1 : (((0 ≤ x1) ∧ (x1 < I T 6))) → (0 ≤ x2) → (x2 ≤ 1) → Ca (d + 19) mX8_seekFree [vR (some (18, 0, 144)), vR (some (11, 0, T)), vI x1] ((cpyI I (127 + 1) 0 (145 + 1) 0 4), S) (.inl none) (J1, S))
    (hP : (((0 ≤ x1) ∧ (x1 < I T 6))) ∧ ((0 ≤ x2) ∧ (x2 ≤ 1))) : Ca (d + 20) mX11_free [vR (some (21, 0, 31)), vI x1, vI x2] (I, S) (.inl (some (vI (if x2 ≠ 0 then (J1 144 3 : Int) else J1 144 1)))) (J1, S) :=
  Ca.of rfl rfl (
  (Classical.em (((0 ≤ x1) ∧ (x1 < I T 6)))).elim (fun c1 => 
    b_X11_free_0  (c_X11_checkSpot hl0 c1) (
    b_X11_free_5  (fun (c3 : x2 < 0) => absurd hP (fun q => (fun q => (Int.not_le.mpr c3) q.1) q.2)) (fun (c4 : 0 ≤ x2) => 
      b_X11_free_9  (fun (c5 : x2 ≤ 1) => 
        b_X11_free_22 (ly_X11_9 hl0) (ly_X11_6 hl0) (ly_X9_0 (ly_X11_s hl0)) (c_X8_begin (ly_X11_e hl0) (ly_X9_p (ly_X11_s hl0))) (
        b_X11_free_36 (ly_X11_9 hl0) (ly_X11_2 hl0) (g1 c1 c4 c5) (
        have K8 : ∀ us0 : Int, us0 = (if x2 ≠ 0 then (J1 144 3 : Int) else J1 144 1) → Ev (d + 20) mX11_free (69, [some (vR (some (21, 0, 31))), some (vI x1), some (vI x2)], [vI us0], (J1, S)) ((.inl (some (vI (if x2 ≠ 0 then (J1 144 3 : Int) else J1 144 1)))), (J1, S)) := fun us0 e_us0 => by subst e_us0; exact (ev_eqr rfl (b_X11_free_69 ))
        
        b_X11_free_48  (fun (c7 : x2 ≠ 0) => 
          b_X11_free_62 (ly_X11_9 hl0) (K8 (J1 144 3) ((if_pos c7).symm))) (fun (c8 : x2 = 0) => 
          b_X11_free_52 (ly_X11_9 hl0) (K8 (J1 144 1) ((if_neg (fun q => q c8)).symm)))))) (fun (c6 : 1 < x2) => absurd hP (fun q => (fun q => (Int.not_le.mpr c6) q.2) q.2))))) (fun c2 => absurd hP (fun q => (fun q => c2 q) q.1)))
theorem c_X11_free_t {d : Nat} {I : Nat → Nat → Int} {S : PS} {x1 x2 : Int} {T U : Nat} {J1 : Nat → Nat → Int} (hl0 : LyX11 S T U)
    (g1 : (((0 ≤ x1) ∧ (x1 < I T 6))) → (0 ≤ x2) → (x2 ≤ 1) → Ca (d + 19) mX8_seekFree [vR (some (18, 0, 144)), vR (some (11, 0, T)), vI x1] ((cpyI I (127 + 1) 0 (145 + 1) 0 4), S) (.inl none) (J1, S))
    (hP : ¬((((0 ≤ x1) ∧ (x1 < I T 6))) ∧ ((0 ≤ x2) ∧ (x2 ≤ 1)))) : Ca (d + 20) mX11_free [vR (some (21, 0, 31)), vI x1, vI x2] (I, S) (.inr 1) (I, (exS S)) :=
  Ca.of rfl rfl (
  (Classical.em (((0 ≤ x1) ∧ (x1 < I T 6)))).elim (fun c1 => 
    b_X11_free_0  (c_X11_checkSpot hl0 c1) (
    b_X11_free_5  (fun (c3 : x2 < 0) => ev_eqr rfl (b_X11_free_14 )) (fun (c4 : 0 ≤ x2) => 
      b_X11_free_9  (fun (c5 : x2 ≤ 1) => 
        b_X11_free_22 (ly_X11_9 hl0) (ly_X11_6 hl0) (ly_X9_0 (ly_X11_s hl0)) (c_X8_begin (ly_X11_e hl0) (ly_X9_p (ly_X11_s hl0))) (
        b_X11_free_36 (ly_X11_9 hl0) (ly_X11_2 hl0) (g1 c1 c4 c5) (
        have K8 : ∀ us0 : Int, us0 = (if x2 ≠ 0 then (J1 144 3 : Int) else J1 144 1) → Ev (d + 20) mX11_free (69, [some (vR (some (21, 0, 31))), some (vI x1), some (vI x2)], [vI us0], (J1, S)) ((.inr 1), (I, (exS S))) := fun us0 e_us0 => by subst e_us0; exact (absurd (⟨c1, ⟨c4, c5⟩⟩) hP)
        
        b_X11_free_48  (fun (c7 : x2 ≠ 0) => 
          b_X11_free_62 (ly_X11_9 hl0) (K8 (J1 144 3) ((if_pos c7).symm))) (fun (c8 : x2 = 0) => 
          b_X11_free_52 (ly_X11_9 hl0) (K8 (J1 144 1) ((if_neg (fun q => q c8)).symm)))))) (fun (c6 : 1 < x2) => ev_eqr rfl (b_X11_free_14 ))))) (fun c2 => ev_eqr rfl (bt_X11_free_0  (c_X11_checkSpot_t hl0 c2) rfl)))
theorem c_X11_play {d : Nat} {I : Nat → Nat → Int} {S : PS} {x1 : Int} {T U : Nat} {J1 : Nat → Nat → Int} (hl0 : LyX11 S T U)
    (g1 : (0 ≤ x1) → (x1 ≤ 1) → Ca (d + 19) mX8_playGame [vR (some (18, 0, 144)), vR (some (11, 0, T))] ((cpyI I (127 + 1) 0 (145 + 1) 0 4), S) (.inl none) (J1, S))
    (hP : (0 ≤ x1) ∧ (x1 ≤ 1)) : Ca (d + 20) mX11_play [vR (some (21, 0, 31)), vI x1] (I, S) (.inl (some (vI (if x1 ≠ 0 then (J1 144 3 : Int) else J1 144 2)))) (J1, S) :=
  Ca.of rfl rfl (
  b_X11_play_0  (fun (c1 : x1 < 0) => absurd hP (fun q => (Int.not_le.mpr c1) q.1)) (fun (c2 : 0 ≤ x1) => 
    b_X11_play_4  (fun (c3 : x1 ≤ 1) => 
      b_X11_play_17 (ly_X11_9 hl0) (ly_X11_6 hl0) (ly_X9_0 (ly_X11_s hl0)) (c_X8_begin (ly_X11_e hl0) (ly_X9_p (ly_X11_s hl0))) (
      b_X11_play_31 (ly_X11_9 hl0) (ly_X11_2 hl0) (g1 c2 c3) (
      have K6 : ∀ us0 : Int, us0 = (if x1 ≠ 0 then (J1 144 3 : Int) else J1 144 2) → Ev (d + 20) mX11_play (63, [some (vR (some (21, 0, 31))), some (vI x1)], [vI us0], (J1, S)) ((.inl (some (vI (if x1 ≠ 0 then (J1 144 3 : Int) else J1 144 2)))), (J1, S)) := fun us0 e_us0 => by subst e_us0; exact (ev_eqr rfl (b_X11_play_63 ))
      
      b_X11_play_42  (fun (c5 : x1 ≠ 0) => 
        b_X11_play_56 (ly_X11_9 hl0) (K6 (J1 144 3) ((if_pos c5).symm))) (fun (c6 : x1 = 0) => 
        b_X11_play_46 (ly_X11_9 hl0) (K6 (J1 144 2) ((if_neg (fun q => q c6)).symm)))))) (fun (c4 : 1 < x1) => absurd hP (fun q => (Int.not_le.mpr c4) q.2))))
theorem c_X11_play_t {d : Nat} {I : Nat → Nat → Int} {S : PS} {x1 : Int} {T U : Nat} {J1 : Nat → Nat → Int} (hl0 : LyX11 S T U)
    (g1 : (0 ≤ x1) → (x1 ≤ 1) → Ca (d + 19) mX8_playGame [vR (some (18, 0, 144)), vR (some (11, 0, T))] ((cpyI I (127 + 1) 0 (145 + 1) 0 4), S) (.inl none) (J1, S))
    (hP : ¬((0 ≤ x1) ∧ (x1 ≤ 1))) : Ca (d + 20) mX11_play [vR (some (21, 0, 31)), vI x1] (I, S) (.inr 1) (I, (exS S)) :=
  Ca.of rfl rfl (
  b_X11_play_0  (fun (c1 : x1 < 0) => ev_eqr rfl (b_X11_play_9 )) (fun (c2 : 0 ≤ x1) => 
    b_X11_play_4  (fun (c3 : x1 ≤ 1) => 
      b_X11_play_17 (ly_X11_9 hl0) (ly_X11_6 hl0) (ly_X9_0 (ly_X11_s hl0)) (c_X8_begin (ly_X11_e hl0) (ly_X9_p (ly_X11_s hl0))) (
      b_X11_play_31 (ly_X11_9 hl0) (ly_X11_2 hl0) (g1 c2 c3) (
      have K6 : ∀ us0 : Int, us0 = (if x1 ≠ 0 then (J1 144 3 : Int) else J1 144 2) → Ev (d + 20) mX11_play (63, [some (vR (some (21, 0, 31))), some (vI x1)], [vI us0], (J1, S)) ((.inr 1), (I, (exS S))) := fun us0 e_us0 => by subst e_us0; exact (absurd (⟨c2, c3⟩) hP)
      
      b_X11_play_42  (fun (c5 : x1 ≠ 0) => 
        b_X11_play_56 (ly_X11_9 hl0) (K6 (J1 144 3) ((if_pos c5).symm))) (fun (c6 : x1 = 0) => 
        b_X11_play_46 (ly_X11_9 hl0) (K6 (J1 144 2) ((if_neg (fun q => q c6)).symm)))))) (fun (c4 : 1 < x1) => ev_eqr rfl (b_X11_play_9 ))))
end
