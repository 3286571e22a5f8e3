noncomputable section
def LyG6 (S : PS) (a : Nat) : Prop := S.1 a 2 = some (0, 91, (a + 1))
theorem ly_G6_2 {S : PS} {a : Nat} (h : LyG6 S a) : S.1 a 2 = some (0, 91, (a + 1)) := h
theorem w_G6_grow_0 {d : Nat} {I : Nat → Nat → Int} {S : PS} {a0 : Nat} {x1 x2 x3 : Int} {h1 : PM} (hl0 : LyG6 S a0)
    (k1 : (x1 < I a0 0) → L_X6_grow_41 d a0 x1 x2 x3 0 I S h1)
    (e1 : (I a0 0 ≤ x1) → (91 ≤ I a0 1) → (I, S) = h1 := by intros; first | rfl | (exfalso; omega) | contradiction | (exfalso; simp_all; done))
    (e2 : (I a0 0 ≤ x1) → (I a0 1 < 91) → ((up2 (up2 I (a0 + 1) ((I a0 1).toNat) x2) a0 1 (((up2 I (a0 + 1) ((I a0 1).toNat) x2) a0 1) + 1)), S) = h1 := by intros; first | rfl | (exfalso; omega) | contradiction | (exfalso; simp_all; done))
    (v1 : (I a0 0 ≤ x1) → (I a0 1 < 91) → 0 ≤ I a0 1 ∧ I a0 1 < (91 : Nat) := by intros; first | assumption | omega | (split <;> omega))
    (v2 : (I a0 0 ≤ x1) → (I a0 1 < 91) → -2147483648 ≤ ((up2 I (a0 + 1) ((I a0 1).toNat) x2) a0 1) + 1 ∧ ((up2 I (a0 + 1) ((I a0 1).toNat) x2) a0 1) + 1 ≤ 2147483647 := by intros; first | assumption | omega | (split <;> omega)) : Ca (d + 1) mX6_grow [vR (some (16, 0, a0)), vI x1, vI x2, vI x3] (I, S) (.inl none) h1 :=
  Ca.of rfl rfl (
  b_X6_grow_0  (fun (c1 : x1 < I a0 0) => 
    b_X6_grow_38  ((k1 c1))) (fun (c2 : I a0 0 ≤ x1) => 
    b_X6_grow_8  (fun (c3 : 91 ≤ I a0 1) => ev_retV (e1 c2 c3) (b_X6_grow_37 )) (fun (c4 : I a0 1 < 91) => 
      b_X6_grow_17 (ly_G6_2 hl0) (v1 c2 c4) (v2 c2 c4) (ev_retV (e2 c2 c4) (b_X6_grow_37 )))))
theorem w_G6_grow_41 {d : Nat} {I : Nat → Nat → Int} {S : PS} {a0 : Nat} {x1 x2 x3 x4 : Int} {J1 : Nat → Nat → Int} {h1 : PM} (hl0 : LyG6 S a0)
    (k1 : (x4 ≤ x3) → (x4 < 4) → (x4 = p_and x2 3) → L_X6_grow_41 d a0 x1 x2 x3 (x4 + 1) I S h1)
    (k2 : (x4 ≤ x3) → (x4 < 4) → (x4 ≠ p_and x2 3) → ((x1 = I a0 0 - 1) ∧ (x4 = 0)) → L_X6_grow_41 d a0 x1 x2 x3 (x4 + 1) I S h1)
    (g1 : (x4 ≤ x3) → (x4 < 4) → (x4 ≠ p_and x2 3) → (¬((x1 = I a0 0 - 1) ∧ (x4 = 0))) → Ca d mX6_grow [vR (some (16, 0, a0)), vI (x1 + 1), vI (p_or (p_shl x2 2) x4), vI (if x4 ≠ x3 then (x3 : Int) else x3 + 1)] (I, S) (.inl none) (J1, S))
    (k3 : (x4 ≤ x3) → (x4 < 4) → (x4 ≠ p_and x2 3) → (¬((x1 = I a0 0 - 1) ∧ (x4 = 0))) → L_X6_grow_41 d a0 x1 x2 x3 (x4 + 1) J1 S h1)
    (e1 : (x3 < x4) → (I, S) = h1 := by intros; first | rfl | (exfalso; omega) | contradiction | (exfalso; simp_all; done))
    (e2 : (x4 ≤ x3) → (4 ≤ x4) → (I, S) = h1 := by intros; first | rfl | (exfalso; omega) | contradiction | (exfalso; simp_all; done))
    (v1 : (x4 ≤ x3) → (x4 < 4) → -2147483648 ≤ I a0 0 - 1 ∧ I a0 0 - 1 ≤ 2147483647 := by intros; first | assumption | omega | (split <;> omega))
    (v2 : (x4 ≤ x3) → (x4 < 4) → (x4 = p_and x2 3) → -2147483648 ≤ x4 + 1 ∧ x4 + 1 ≤ 2147483647 := by intros; first | assumption | omega | (split <;> omega))
    (v3 : (x4 ≤ x3) → (x4 < 4) → (x4 ≠ p_and x2 3) → ((x1 = I a0 0 - 1) ∧ (x4 = 0)) → -2147483648 ≤ x4 + 1 ∧ x4 + 1 ≤ 2147483647 := by intros; first | assumption | omega | (split <;> omega))
    (v4 : (x4 ≤ x3) → (x4 < 4) → (x4 ≠ p_and x2 3) → (¬((x1 = I a0 0 - 1) ∧ (x4 = 0))) → -2147483648 ≤ x1 + 1 ∧ x1 + 1 ≤ 2147483647 := by intros; first | assumption | omega | (split <;> omega))
    (v5 : (x4 ≤ x3) → (x4 < 4) → (x4 ≠ p_and x2 3) → (¬((x1 = I a0 0 - 1) ∧ (x4 = 0))) → (x4 = x3) → -2147483648 ≤ x3 + 1 ∧ x3 + 1 ≤ 2147483647 := by intros; first | assumption | omega | (split <;> omega))
    (v6 : (x4 ≤ x3) → (x4 < 4) → (x4 ≠ p_and x2 3) → (¬((x1 = I a0 0 - 1) ∧ (x4 = 0))) → -2147483648 ≤ x4 + 1 ∧ x4 + 1 ≤ 2147483647 := by intros; first | assumption | omega | (split <;> omega)) : L_X6_grow_41 d a0 x1 x2 x3 x4 I S h1 :=
  
  b_X6_grow_41  (fun (c1 : x3 < x4) => ev_retV (e1 c1) (b_X6_grow_120 )) (fun (c2 : x4 ≤ x3) => 
    b_X6_grow_47  (fun (c3 : 4 ≤ x4) => ev_retV (e2 c2 c3) (b_X6_grow_120 )) (fun (c4 : x4 < 4) => 
      have K8 : ∀ us0 : Int, us0 = (if (x1 = I a0 0 - 1) ∧ (x4 = 0) then (1 : Int) else 0) → Ev (d + 1) mX6_grow (73, [some (vR (some (16, 0, a0))), some (vI x1), some (vI x2), some (vI x3), some (vI x4), none], [vI us0], (I, S)) (.inl none, h1) := fun us0 e_us0 => by subst e_us0; exact (
        b_X6_grow_73  (fun (c10 : x4 = p_and x2 3) => 
          b_X6_grow_114 (v2 c2 c4 c10) ((k1 c2 c4 c10))) (fun (c11 : x4 ≠ p_and x2 3) => 
          b_X6_grow_83  (fun c12' => have c12 : (x1 = I a0 0 - 1) ∧ (x4 = 0) := b2t c12'; 
            b_X6_grow_114 (v3 c2 c4 c11 c12) ((k2 c2 c4 c11 c12))) (fun c13' => have c13 : ¬((x1 = I a0 0 - 1) ∧ (x4 = 0)) := b2f c13'; 
            have K15 : ∀ us3 : Int, us3 = (if x4 ≠ x3 then (x3 : Int) else x3 + 1) → Ev (d + 1) mX6_grow (111, [some (vR (some (16, 0, a0))), some (vI x1), some (vI x2), some (vI x3), some (vI x4), some (vI (if (x1 = I a0 0 - 1) ∧ (x4 = 0) then (1 : Int) else 0))], [vI us3, vI (p_or (p_shl x2 2) x4), vI (x1 + 1), vR (some (16, 0, a0))], (I, S)) (.inl none, h1) := fun us3 e_us3 => by subst e_us3; exact (
              b_X6_grow_111  (g1 c2 c4 c11 c13) (
              b_X6_grow_114 (v6 c2 c4 c11 c13) ((k3 c2 c4 c11 c13))))
            
            b_X6_grow_88 (v4 c2 c4 c11 c13) (fun (c14 : x4 ≠ x3) => 
              b_X6_grow_110  (K15 x3 ((if_pos c14).symm))) (fun (c15 : x4 = x3) => 
              b_X6_grow_104 (v5 c2 c4 c11 c13 c15) (K15 (x3 + 1) ((if_neg (fun q => q c15)).symm))))))
      
      b_X6_grow_53 (v1 c2 c4) (fun (c5 : x1 ≠ I a0 0 - 1) => 
        b_X6_grow_72  (K8 0 (if_neg (fun q => c5 q.1)).symm)) (fun (c6 : x1 = I a0 0 - 1) => 
        b_X6_grow_63  (fun (c7 : x4 ≠ 0) => 
          b_X6_grow_72  (K8 0 (if_neg (fun q => c7 q.2)).symm)) (fun (c8 : x4 = 0) => 
          b_X6_grow_68  (K8 1 (if_pos ⟨c6, c8⟩).symm)))))
section
variable {S : PS} {a0 : Nat}
theorem gr_G {r : Nat} (hl0 : LyG6 S a0) (hr7 : r ≤ 7) : ∀ (j place d n : Nat) (code used : Int) (I : Nat → Nat → Int), place + j = r → j ≤ d → 0 ≤ used ∧ used ≤ 4 → I a0 0 = (r : Int) → I a0 1 = (n : Int) → n + (grS j code used).length ≤ 91 → ∃ J, Ca (d + 1) mX6_grow [vR (some (16, 0, a0)), vI (place : Int), vI code, vI used] (I, S) (.inl none) (J, S) ∧ grO a0 n (grS j code used) I J := by
  intro j
  induction j with
  | zero =>
    intro place d n code used I hp hd hu h0 h1 hlen
    have hlen : n + 1 ≤ 91 := hlen
    have hn : (I a0 1).toNat = n := by omega
    have hk : (up2 I (a0 + 1) ((I a0 1).toNat) code) a0 1 = (n : Int) := by rw [up2_a _ (by omega)]; exact h1
    refine ⟨up2 (up2 I (a0 + 1) n code) a0 1 ((n : Int) + 1), w_G6_grow_0 hl0 (fun h => absurd h (by omega)) (e1 := fun _ h => absurd h (by omega)) (e2 := fun _ _ => by rw [hk, hn]) (v1 := fun _ _ => by omega) (v2 := fun _ _ => by rw [hk]; omega), fun a q0 q1 => by funext k; rw [up2_a _ q0, up2_a _ q1], fun i hi => by rw [up2_k _ hi, up2_a _ (by omega)], by rw [up2_same]; rfl, fun i hi => by rw [up2_a _ (by omega), up2_k _ (by omega)], fun i hi => ?_⟩
    have hi : i < 1 := hi
    have : i = 0 := by omega
    subst this
    rw [up2_a _ (by omega)]
    show some code = some (up2 I (a0 + 1) n code (a0 + 1) n)
    rw [up2_same]
  | succ j ih =>
    intro place d n code used I hp hd hu h0 h1 hlen
    obtain ⟨e, rfl⟩ : ∃ e, d = e + 1 := ⟨d - 1, by omega⟩
    have hS : grS (j + 1) code used = grT (grH j code used) 4 0 := rfl
    rw [hS] at hlen ⊢
    have loop : ∀ (q c m : Nat) (X : Nat → Nat → Int), q + c = 4 → X a0 0 = (r : Int) → X a0 1 = (m : Int) → m + (grT (grH j code used) q c).length ≤ 91 → ∃ J, L_X6_grow_41 (e + 1) a0 (place : Int) code used (c : Int) X S (J, S) ∧ grO a0 m (grT (grH j code used) q c) X J := by
      intro q
      induction q with
      | zero =>
        intro c m X hq x0 x1 hl
        refine ⟨X, ?_, fun _ _ _ => rfl, fun _ _ => rfl, by rw [x1]; show (m : Int) = (m : Int) + ((0 : Nat) : Int); omega, fun _ _ => rfl, fun i hi => absurd hi (by show ¬(i < 0); omega)⟩
        exact w_G6_grow_41 (J1 := X) hl0 (fun _ h => absurd h (by omega)) (fun _ h => absurd h (by omega)) (fun _ h => absurd h (by omega)) (fun _ h => absurd h (by omega))
      | succ q ihq =>
        intro c m X hq x0 x1 hl
        have hu2 : grT (grH j code used) (q + 1) c = grH j code used c ++ grT (grH j code used) q (c + 1) := rfl
        rw [hu2, List.length_append] at hl
        rw [hu2]
        by_cases hcu : (c : Int) ≤ used
        · by_cases hlast : (c : Int) = p_and code 3
          · have hH : grH j code used c = [] := by unfold grH; rw [if_neg (fun w => w.1.2 hlast)]
            rw [hH] at hl ⊢
            obtain ⟨J, hL, hO⟩ := ihq (c + 1) m X (by omega) x0 x1 (by simpa using hl)
            exact ⟨J, w_G6_grow_41 (J1 := X) hl0 (fun _ _ _ => hL) (fun _ _ h => absurd hlast h) (fun _ _ h => absurd hlast h) (fun _ _ h => absurd hlast h) (e1 := fun h => absurd h (by omega)) (e2 := fun _ h => absurd h (by omega)), hO⟩
          · by_cases hbad : j = 0 ∧ c = 0
            · have hH : grH j code used c = [] := by unfold grH; rw [if_neg (fun w => w.2 hbad)]
              rw [hH] at hl ⊢
              obtain ⟨J, hL, hO⟩ := ihq (c + 1) m X (by omega) x0 x1 (by simpa using hl)
              have hb2 : ((place : Int) = X a0 0 - 1) ∧ ((c : Int) = 0) := ⟨by rw [x0]; omega, by omega⟩
              exact ⟨J, w_G6_grow_41 (J1 := X) hl0 (fun _ _ h => absurd h hlast) (fun _ _ _ _ => hL) (fun _ _ _ h => absurd hb2 h) (fun _ _ _ h => absurd hb2 h) (e1 := fun h => absurd h (by omega)) (e2 := fun _ h => absurd h (by omega)), hO⟩
            · have hH : grH j code used c = grS j (p_or (p_shl code 2) (c : Int)) (if (c : Int) ≠ used then used else used + 1) := by unfold grH; rw [if_pos ⟨⟨hcu, hlast⟩, hbad⟩]
              rw [hH] at hl ⊢
              have hb2 : ¬(((place : Int) = X a0 0 - 1) ∧ ((c : Int) = 0)) := fun w => hbad ⟨by have := w.1; rw [x0] at this; omega, by omega⟩
              obtain ⟨J1, hcall, hO1⟩ := ih (place + 1) e m (p_or (p_shl code 2) (c : Int)) (if (c : Int) ≠ used then used else used + 1) X (by omega) (by omega) (by split <;> omega) x0 x1 (by omega)
              obtain ⟨J, hL, hO⟩ := ihq (c + 1) (m + (grS j (p_or (p_shl code 2) (c : Int)) (if (c : Int) ≠ used then used else used + 1)).length) J1 (by omega) (by rw [hO1.2.1 0 (by decide)]; exact x0) (by rw [hO1.2.2.1]; omega) (by omega)
              exact ⟨J, w_G6_grow_41 (J1 := J1) hl0 (fun _ _ h => absurd h hlast) (fun _ _ _ h => absurd h hb2) (fun _ _ _ _ => hcall) (fun _ _ _ _ => hL) (e1 := fun h => absurd h (by omega)) (e2 := fun _ h => absurd h (by omega)), grO_app hO1 hO⟩
        · have hnil : grT (grH j code used) (q + 1) c = [] := grT_nil (fun c' hc' => by unfold grH; rw [if_neg (fun w => by have := w.1.1; omega)])
          rw [← hu2, hnil]
          refine ⟨X, ?_, fun _ _ _ => rfl, fun _ _ => rfl, by rw [x1]; show (m : Int) = (m : Int) + ((0 : Nat) : Int); omega, fun _ _ => rfl, fun i hi => absurd hi (by show ¬(i < 0); omega)⟩
          exact w_G6_grow_41 (J1 := X) hl0 (fun h => absurd h (by omega)) (fun h => absurd h (by omega)) (fun h => absurd h (by omega)) (fun h => absurd h (by omega))
    obtain ⟨J, hL, hO⟩ := loop 4 0 n I rfl h0 h1 hlen
    exact ⟨J, w_G6_grow_0 hl0 (fun _ => hL) (e1 := fun h => absurd h (by omega)) (e2 := fun h => absurd h (by omega)) (v1 := fun h => absurd h (by omega)) (v2 := fun h => absurd h (by omega)), hO⟩
end
end
