/-! ===== Strings ===== -/
noncomputable section
section
variable {d : Nat} {I : Nat → Nat → Int} {S : PS}
theorem c_J3_checkIndex_8e157 {x0 x1 : Int} {n2 a2 : Nat} (h : 0 ≤ x0 ∧ x0 < x1) : Ca d mJ3_checkIndex_8e157 [vI x0, vI x1, vR (some (8, n2, a2))] (I, S) (.inl (some (vI x0))) (I, S) :=
  Ca.of rfl rfl (b_J3_checkIndex_8e157_0 (fun c => absurd h.1 (by omega)) (fun _ => b_J3_checkIndex_8e157_4 (fun _ => b_J3_checkIndex_8e157_16) (fun c => absurd h.2 (by omega))))
theorem c_J0_checkIndex_df160 {x0 x1 : Int} (h : 0 ≤ x0 ∧ x0 < x1) : Ca (d + 1) mJ0_checkIndex_df160 [vI x0, vI x1] (I, S) (.inl none) (I, S) :=
  Ca.of rfl rfl (b_J0_checkIndex_df160_0 (c_J3_checkIndex_8e157 h) b_J0_checkIndex_df160_8)
theorem char_ok {x : Int} (h : 0 ≤ x ∧ x ≤ 127) : p_i2c (p_and x 255) = x := by
  obtain ⟨n, rfl⟩ := Int.eq_ofNat_of_zero_le h.1
  have : ∀ n : Fin 128, p_i2c (p_and (n.val : Int) 255) = (n.val : Int) := by decide
  exact this ⟨n, by omega⟩
theorem char_ret {x : Int} (h : 0 ≤ x ∧ x ≤ 127) : p_i2c x = x := by
  obtain ⟨n, rfl⟩ := Int.eq_ofNat_of_zero_le h.1
  have : ∀ n : Fin 128, p_i2c (n.val : Int) = (n.val : Int) := by decide
  exact this ⟨n, by omega⟩
theorem c_J1_charAt_3b067 {n0 a0 : Nat} {x1 : Int} (hn : n0 ≤ 100000) (hi : 0 ≤ x1 ∧ x1 < (n0 : Nat)) (hv : 0 ≤ I a0 x1.toNat ∧ I a0 x1.toNat ≤ 127) : Ca (d + 2) mJ1_charAt_3b067 [vR (some (7, n0, a0)), vI x1] (I, S) (.inl (some (vI (I a0 x1.toNat)))) (I, S) :=
  Ca.of rfl rfl (b7_J1_charAt_3b067_0 hn (c_J0_checkIndex_df160 hi) (ev_ret2 (char_ok hv) rfl (b7_J1_charAt_3b067_6 hi (by rw [char_ok hv]; show decide (p_i2c (I a0 x1.toNat) = I a0 x1.toNat) = true; exact decide_eq_true (char_ret hv)))))
theorem c_J0_isLatin1_aae02 {n0 a0 : Nat} (hc : I a0 1 = 0) : Ca d mJ0_isLatin1_aae02 [vR (some (6, n0, a0))] (I, S) (.inl (some (vI 1))) (I, S) :=
  Ca.of rfl rfl (b_J0_isLatin1_aae02_0 (fun c => absurd c (by decide)) (fun _ => b_J0_isLatin1_aae02_6 (fun c => absurd hc c) (fun _ => b_J0_isLatin1_aae02_13 (b_J0_isLatin1_aae02_18 (Or.inr rfl)))))
theorem c_J0_coder_7d493 {n0 a0 : Nat} (hc : I a0 1 = 0) : Ca d mJ0_coder_7d493 [vR (some (6, n0, a0))] (I, S) (.inl (some (vI 0))) (I, S) :=
  Ca.of rfl rfl (b_J0_coder_7d493_0 (fun c => absurd c (by decide)) (fun _ => b_J0_coder_7d493_6 (by rw [hc]; exact b_J0_coder_7d493_14 rfl)))
theorem c_J0_length_8abf5 {n0 a0 : Nat} (hc : I a0 1 = 0) (hr : S.1 a0 0 = some (7, n0, a0 + 1)) (hn : n0 ≤ 100) : Ca (d + 1) mJ0_length_8abf5 [vR (some (6, n0, a0))] (I, S) (.inl (some (vI (n0 : Int)))) (I, S) :=
  Ca.of rfl rfl (b7_J0_length_8abf5_0 hr (by omega) (c_J0_coder_7d493 hc) (ev_ret2 (by
    have : ∀ n : Fin 101, p_shr (n.val : Int) 0 = (n.val : Int) := by decide
    exact this ⟨n0, by omega⟩) rfl b7_J0_length_8abf5_9))
theorem c_J0_charAt_5068e {n0 a0 : Nat} {x1 : Int} (hc : I a0 1 = 0) (hr : S.1 a0 0 = some (7, n0, a0 + 1)) (hn : n0 ≤ 100) (hi : 0 ≤ x1 ∧ x1 < (n0 : Nat)) (hv : 0 ≤ I (a0 + 1) x1.toNat ∧ I (a0 + 1) x1.toNat ≤ 127) : Ca (d + 3) mJ0_charAt_5068e [vR (some (6, n0, a0)), vI x1] (I, S) (.inl (some (vI (I (a0 + 1) x1.toNat)))) (I, S) :=
  Ca.of rfl rfl (b7_J0_charAt_5068e_0 (c_J0_isLatin1_aae02 hc) (b7_J0_charAt_5068e_4 (fun c => absurd c (by decide)) (fun _ => b7_J0_charAt_5068e_7 hr (c_J1_charAt_3b067 (by omega) hi hv) (b7_J0_charAt_5068e_15 (by show decide (p_i2c (I (a0 + 1) x1.toNat) = I (a0 + 1) x1.toNat) = true; exact decide_eq_true (char_ret hv))))))
end
end
