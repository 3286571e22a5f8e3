noncomputable section
section Run
variable {l : Launch}
theorem covers_iff {x : ExceptionTableEntry} {pc : Nat} : covers x pc = true ↔ (x.startPc ≤ pc ∧ pc < x.endPc) := by
  unfold covers
  simp
theorem not_covers {x : ExceptionTableEntry} {pc : Nat} (h : ¬ (x.startPc ≤ pc ∧ pc < x.endPc)) : covers x pc = false := by
  cases hc : covers x pc with
  | false => rfl
  | true => exact absurd (covers_iff.mp hc) h
theorem reti_narrow {ty : Option FieldType} {x : Int} (hx : cnI x) (h : p_reti ty x = true) : ∃ t, ty = some t ∧ narrow t (.int (p_I x)) = .int (p_I x) := by
  match ty, h with
  | some .int, _ => exact ⟨.int, rfl, rfl⟩
  | some .boolean, h =>
    have h : (decide (x = 0) || decide (x = 1)) = true := h
    simp only [Bool.or_eq_true, decide_eq_true_eq] at h
    rcases h with rfl | rfl
    · exact ⟨.boolean, rfl, nf_z0.1⟩
    · exact ⟨.boolean, rfl, nf_z1.1⟩
  | some .byte, h =>
    have h : p_i2b x = x := of_decide_eq_true h
    refine ⟨.byte, rfl, ?_⟩
    have : p_I x = (p_I x).toInt8.toInt32 := by
      have h2 : p_I (p_i2b x) = p_I x := by rw [h]
      unfold p_i2b at h2
      rw [p_I_toInt] at h2
      exact h2.symm
    rw [this]
    exact pk_nb _
  | some .char, h =>
    have h : p_i2c x = x := of_decide_eq_true h
    refine ⟨.char, rfl, ?_⟩
    have : p_I x = ((p_I x).toUInt32 % 65536).toInt32 := by
      have h2 : p_I (p_i2c x) = p_I x := by rw [h]
      unfold p_i2c at h2
      rw [p_I_toInt] at h2
      exact h2.symm
    rw [this]
    exact pk_nc _
/-- a method that returns ends as its contract says -/
theorem EN_ret {p : Program} {e : Env} {R : Room} {s s0 : State} {m : MethodId} {args : Array Value} {below : List Frame} {meth : Method} {c : Code} {X : RX} {D : va_G} {cA : Nat → ClassId} {base : Nat} {mi : Nat × Nat} {inf : PInf} {own : String} {ad : Nat → Nat} {h hF : PM} {v : Option PV}
    (hFX : FX p s m args meth c mi inf own) (he : m_ext h hF) (hro : roS X h ad) (hx9 : ∀ ad' : Nat → Nat, ∀ H locs, PI X D cA base ad' hF s H locs → ∀ i, i < m_sz h → ad' i = ad i) : EN l p e R s m args below meth c (MQ below (Qc0 X D cA base ad h v hF) args s (m_ce hF - m_ce h) (m_sl hF - m_sl h) (AB base)) X D cA base (m_ce h) (m_sl h) mi inf (.inl v) hF := by
  sorry
end Run
end
