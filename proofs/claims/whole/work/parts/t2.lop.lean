/-! ===== the law's loop; the pure theorem ===== -/
noncomputable section
theorem lw_loop {L : Nat} (hL : L ≤ 3072) : ∀ (t c : Nat) (I : Nat → Nat → Int) (S : PS), (L : Int) < 6 * (c : Int) + 6 * (t : Int) + 6 → 6 * c ≤ L + 6 → IVx c I S → ∃ c' I' S', c' ≤ 513 ∧ IVx c' I' S' ∧ Ev 62 mL_law (23, lwL L (6 * (c : Int)), [], (I, S)) (.inl (some (vI 1)), (I', S')) := by
  intro t
  induction t with
  | zero =>
    intro c I S h1 h2 hx
    exact ⟨c, I, S, by omega, hx, b5_L_law_23 (by omega) (by omega) (fun _ => b5_L_law_2433) (fun q => absurd q (by omega))⟩
  | succ t ih =>
    intro c I S h1 h2 hx
    by_cases w : 6 * c + 6 ≤ L
    · obtain ⟨K, S1, k1, k2⟩ := rd_33 (L := L) (i := 6 * (c : Int)) (by omega) hL (by omega) hx
      obtain ⟨c', I', S', e1, e2, e3⟩ := ih (c + 1) K S1 (by omega) (by omega) k1
      rw [show (6 * ((c + 1 : Nat) : Int)) = 6 * (c : Int) + 6 by omega] at e3
      exact ⟨c', I', S', e1, e2, b5_L_law_23 (by omega) (by omega) (fun q => absurd q (by omega)) (fun _ => k2 _ (b5_L_law_2427 (by omega) e3))⟩
    · exact ⟨c, I, S, by omega, hx, b5_L_law_23 (by omega) (by omega) (fun _ => b5_L_law_2433) (fun q => absurd q (by omega))⟩
theorem law_pure (L : Nat) (xs : Nat → Int32) (hL : L ≤ 3072) : ∃ n d hF, d ≤ 1500 ∧ pm_run n d mL_law (0, ls0 L, [], h0 L xs) = some (.inl (some (vI 1)), hF) ∧ m_ce hF ≤ 603072 ∧ m_sl hF ≤ 7125098 := by
  obtain ⟨I, S, h, go⟩ := st_0 L xs
  obtain ⟨c', I', S', e1, ⟨T, U, n, P, R, N, e2⟩, e3⟩ := lw_loop hL 513 0 I S (by omega) (by omega) ⟨34, 77, 0, 0, 0, 0, h⟩
  obtain ⟨k, hk⟩ := go _ e3
  have hZ := e2.2.2.2.2.2.2.2.2.2.2.2
  unfold iZ at hZ
  refine ⟨k, 62, (I', S'), by omega, hk, ?_, ?_⟩
  · show S'.2.2.2.1 ≤ 603072
    omega
  · show S'.2.2.2.2 ≤ 7125098
    omega
end
