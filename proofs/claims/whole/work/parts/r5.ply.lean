/-! ===== the game, the public call ===== -/
noncomputable section
section
variable {d : Nat} {I J K X Y Z : Nat → Nat → Int} {S S' : PS} {c T U n P R N p r s m : Nat}
theorem py_N {x1 : Int} (hl0 : LyX12 S) (w : ¬(0 ≤ x1 ∧ x1 ≤ 1)) : Ca 5 mX12_play [vR (some (22, 0, 156)), vI x1] (I, S) (.inl (some (vI 0))) (up2 (up2 I 156 0 0) 156 0 1, S) :=
  w_X12_play_0 (d := 0) (J1 := I) hl0 (fun q => absurd q w) (fun q => absurd q w) (fun q => absurd q w) (e1 := fun q => absurd q w) (r2 := fun q => absurd q w) (e2 := fun q => absurd q w) (r3 := fun _ => rfl) (e3 := fun _ => rfl) (v1 := fun q => absurd q w)
theorem py_C {x1 : Int} {W : Nat → Nat → Int} {adj : Nat → Nat → Bool} {g : Nat → Int} {u : Nat} (hT : T = 34 ∨ T = 77) (hl0 : LyX8 S) (hl1 : LyX0 S T) (hA : cAd W T n adj) (hp : pnt (W 146) g n) (hu : (u : Int) = (n : Int) - ctG g n) : ∃ J, Ca 19 mX8_playGame [vR (some (18, 0, 144)), vR (some (11, 0, T))] (W, S) (.inl none) (J, S) ∧ (∀ a, a ≠ 144 → a ≠ 146 → J a = W a) ∧ (if x1 ≠ 0 then (J 144 3 : Int) else J 144 2) = pyV adj n u g x1 := by
  obtain ⟨B, hB⟩ : ∃ B, B = up2 (up2 W 144 2 (-1)) 144 3 (-1) := ⟨_, rfl⟩
  have bo : ∀ a, a ≠ 144 → B a = W a := fun a ha => by rw [hB]; exact funext (fun j => by rw [up2_a _ ha, up2_a _ ha])
  have b3 : B 144 3 = -1 := by rw [hB, up2_same]
  have b2 : B 144 2 = -1 := by rw [hB, up2_k _ (by decide), up2_same]
  have hpB : pnt (B (145 + 1)) g n := by rw [bo (145 + 1) (by decide)]; exact hp
  have hAB : cAd B T n adj := by
    unfold cAd at hA ⊢
    rw [bo T (by omega), bo (T + 5) (by omega)]
    exact hA
  have eu : (B T 6) - (bcn (p_or (p_or (p_or (B (145 + 1) 0) (B (145 + 1) 1)) (B (145 + 1) 2)) (B (145 + 1) 3)) 32) = (u : Int) := by
    rw [pnt_cnt hpB, hAB.1]
    exact hu.symm
  have hn := hA.2.1
  have hct := ctG_in g n
  have pg := fun (J1 : Nat → Nat → Int) (z1 : Bool) => @c_X8_playGame 17 W S T J1 z1 hl0 hl1
  rw [← hB, eu] at pg
  by_cases h4 : 4 < u
  · have := pg B true (by omega) (fun q => absurd q (by omega))
    rw [if_pos (by omega)] at this
    refine ⟨B, this, fun a h1 _ => bo a h1, ?_⟩
    rw [b2, b3]
    unfold pyV
    rw [if_pos h4]
    split <;> rfl
  by_cases h0 : u = 0
  · subst h0
    have a1 : Ca 18 mX8_isWonByFirst [vR (some (18, 0, 144)), vR (some (11, 0, T)), vI 0, vI ((0 : Nat) : Int)] (B, S) (.inl (some (vI (if true = true then 1 else 0)))) (B, S) := w_X8_isWonByFirst_0 hl0 hl1 (fun h => absurd h (by omega)) (fun _ => rfl)
    have := pg B true (by omega) (fun _ => a1)
    rw [if_neg (by omega)] at this
    refine ⟨_, this, fun a h1 _ => ?_, ?_⟩
    · exact (funext (fun j => up2_a _ h1)).trans (bo a h1)
    · rw [up2_k _ (by decide), up2_same, b3]
      unfold pyV
      rw [if_neg h4]
      by_cases hx : x1 = 0
      · rw [if_pos hx, if_neg (fun q => q hx)]; rfl
      · rw [if_neg hx, if_pos hx]; rfl
  · obtain ⟨k, rfl⟩ : ∃ k, u = k + 1 := ⟨u - 1, by omega⟩
    obtain ⟨J, a1, a2, a3, _, _, a6⟩ := wn_C hT hl0 hl1 (k + 1) 0 16 B g (by omega) (by omega) hAB (by exact hpB)
    have a6 := a6 k rfl rfl
    obtain ⟨z, hz⟩ : ∃ z, z = wnS adj n (k + 1) g true := ⟨_, rfl⟩
    have a1 : Ca 18 mX8_isWonByFirst [vR (some (18, 0, 144)), vR (some (11, 0, T)), vI 0, vI ((k + 1 : Nat) : Int)] (B, S) (.inl (some (vI (if wnS adj n (k + 1) g true = true then 1 else 0)))) (J, S) := a1
    rw [← hz] at a1 a6
    have := pg J z (by omega) (fun _ => a1)
    rw [if_neg (by omega)] at this
    refine ⟨_, this, fun a h1 h2 => ?_, ?_⟩
    · exact (funext (fun j => up2_a _ h1)).trans ((a2 a h2 h1).trans (bo a h1))
    · rw [up2_k _ (by decide), up2_same, a6, b3]
      unfold pyV
      rw [if_neg h4, ← hz]
      by_cases hx : x1 = 0
      · rw [if_pos hx, if_neg (fun q => q hx)]
        cases z <;> rfl
      · rw [if_neg hx, if_pos hx, if_neg (show ¬(k + 1 = 0) by omega), show k + 1 - 1 = k by omega]
theorem pu_play {x1 : Int} (h : IV c T U n P R N I S) : outC c mX11_play mX12_play ecI [vI x1] I S := by
  obtain ⟨l1, l2, hT⟩ := IV_L h
  obtain ⟨⟨b1, b2, b3⟩, ⟨e1, e2, e3⟩, _⟩ := fc_IV h
  obtain ⟨w1, w2, w3⟩ := wk_pnt h
  have hT' : T = 34 ∨ T = 77 := by omega
  by_cases w : 0 ≤ x1 ∧ x1 ≤ 1
  · have hct := ctG_in (gR I 0) N
    obtain ⟨u, hu⟩ : ∃ u : Nat, (u : Int) = (N : Int) - ctG (gR I 0) N := ⟨((N : Int) - ctG (gR I 0) N).toNat, by omega⟩
    obtain ⟨J, a1, a2, a3⟩ := py_C (x1 := x1) hT' (ly_X11_e l1) (ly_X11_c l1) w3 w1 hu
    have hc := c_X11_play (d := 0) (I := I) (S := S) (x1 := x1) l1 (fun _ _ => a1) w
    rw [a3] at hc
    have jf : ∀ a, a ≠ 144 → a ≠ 146 → J a = I a := fun a h1 h2 => by rw [a2 a h1 h2, w2 a h2]
    refine mk_ok0 h (Ca.deep hc (by omega)) (fR_try jf) (fun Y hY hYJ => ?_)
    have y1 : Y 161 = I 161 := by rw [hYJ 161 (by decide), jf 161 (by decide) (by decide)]
    have y2 : Y 178 = I 178 := by rw [hYJ 178 (by decide), jf 178 (by decide) (by decide)]
    have m1 : mAd Y N (adM I) := by
      have := iS_mAd (IV_S hY)
      have e : adM Y = adM I := by funext u i; unfold adM; rw [y1]
      rw [e] at this
      exact this
    have m2 : gR Y 0 = gR I 0 := by funext i; unfold gR; rw [y2]
    obtain ⟨u', K, k0, k1, k2, k3, k4, k5⟩ := py_M (d := 0) (Y := Y) (S := S) (n := N) (adj := adM I) (x1 := x1) (IV_L hY).2.1 m1 (by rw [m2]; exact rOk_A (IV_A h)) w
    rw [m2] at k0 k1
    have eu : u' = u := by omega
    rw [eu] at k1
    exact ⟨K, Ca.deep k1 (by omega), k4, ⟨⟨fun a _ q1 q2 q3 _ => k2 a q3 (fun e => q1 (by unfold scr; omega)) (fun e => q1 (by unfold scr; omega)) q2, fun k hk => k3 k (fun e => by subst e; unfold cr at hk; omega) (fun e => by subst e; unfold cr at hk; omega), k5⟩, fun a ha => k2 a (by omega) (by omega) (by omega) (by omega), k2 122 (by decide) (by decide) (by decide) (by decide), k2 123 (by decide) (by decide) (by decide) (by decide)⟩⟩
  · have hc := c_X11_play_t (d := 0) (I := I) (S := S) (x1 := x1) (J1 := I) l1 (fun q1 q2 => absurd ⟨q1, q2⟩ w) w
    refine mk_thr0 h ecI_1 (Ca.deep hc (by omega)) fR_refl (fun Y hY hYJ => ?_)
    exact ⟨0, _, Ca.deep (py_N (IV_L hY).2.1 w) (by omega), up2_same _ _ _ _, fR_00⟩
end
end
