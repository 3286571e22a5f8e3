/-! ===== writes of fields ===== -/
noncomputable section
theorem nf_i (y : Int32) : narrow .int (.int y) = .int y ∧ fits .int (.int y) = true := ⟨rfl, rfl⟩
theorem nf_l (y : Int64) : narrow .long (.long y) = .long y ∧ fits .long (.long y) = true := ⟨rfl, rfl⟩
theorem nf_z0 : narrow .boolean (.int (p_I 0)) = .int (p_I 0) ∧ fits .boolean (.int (p_I 0)) = true := by decide +kernel
theorem nf_z1 : narrow .boolean (.int (p_I 1)) = .int (p_I 1) ∧ fits .boolean (.int (p_I 1)) = true := by decide +kernel
theorem nf_r {ty : FieldType} (ht : tyTag ty = 3) {ad : Nat → Nat} (r : Rf) : narrow ty (tv ad (vR r)) = tv ad (vR r) ∧ fits ty (tv ad (vR r)) = true := by
  have key : (tv ad (vR r) = .null) ∨ ∃ q, tv ad (vR r) = .ref q := by
    cases r with
    | none => exact Or.inl rfl
    | some z =>
      obtain ⟨kd, n, a⟩ := z
      by_cases h8 : kd = 8
      · subst h8
        show ((if (8 : Nat) = 8 then (match ad a with
          | 0 => Value.null
          | q + 1 => .ref q) else .ref (ad a)) = .null) ∨ ∃ q, (if (8 : Nat) = 8 then (match ad a with
          | 0 => Value.null
          | q + 1 => .ref q) else .ref (ad a)) = .ref q
        rw [if_pos rfl]
        cases ad a with
        | zero => exact Or.inl rfl
        | succ q => exact Or.inr ⟨q, rfl⟩
      · exact Or.inr ⟨ad a, tv_ref h8⟩
  cases ty with
  | object n => rcases key with k | ⟨q, k⟩ <;> rw [k] <;> exact ⟨rfl, rfl⟩
  | array t => rcases key with k | ⟨q, k⟩ <;> rw [k] <;> exact ⟨rfl, rfl⟩
  | _ => exact absurd ht (by decide)
section Steps
variable {p : Program} {l : Launch} {e : Env} {R : Room} {s : State} {m : MethodId} {args : Array Value} {below : List Frame} {meth : Method} {c : Code} {Q : State → Prop}
variable {X : RX} {D : va_G} {cA : Nat → ClassId} {base nL c0 k0 cF kF : Nat}
theorem put_go {pc ix : Nat} {ls : PLs} {st : List PV} {h h' : PM} {v : PV} {kd n a ci k t : Nat} {fin : Bool} {cc : ByteArray} {own : String} {Ts : List Cond} (hexec : p.tables.exec = Jvm.exec) (hb : c.code = cc) (hown : s.vm.findClass own = some m.cls) (hts : ∀ w ∈ Ts, w.before args s = true) (hK : va_K D vwCl (tys5 cA) s)
    (hF : FLD Ts own ix ci k t fin) (hkd : kd = 10 + ci) (hci : 0 < ci) (hfi : fin = true → meth.name = "<init>" ∧ ∀ C T N, vwCl[ci]? = some (C, T, N) → C = own) (hd : decode cc pc = .ok (.putfield ix, 3))
    (e1 : m_sz h' = m_sz h) (e2 : h'.2.2.1 = h.2.2.1) (e3 : ∀ j, j ≠ a → h'.1 j = h.1 j ∧ h'.2.1 j = h.2.1 j) (e4 : ∀ ad : Nat → Nat, fv ad h' a t k = tv ad v) (e5 : ∀ (ad : Nat → Nat) j t', j ≠ k → fv ad h' a t' j = fv ad h a t' j)
    (e6 : okH h → a < m_sz h → ctg (m_kd h a) k = t → okV h v → okH h') (e7 : ∀ w, okV h w → okV h' w) (e8 : ∀ (ty : FieldType) (ad : Nat → Nat), tyTag ty = t → ty ≠ .byte → narrow ty (tv ad v) = tv ad v ∧ fits ty (tv ad v) = true) (e9 : m_ce h' = m_ce h) (e10 : m_sl h' = m_sl h)
    (K : GG p l e R s m args below meth c Q X D cA base nL c0 k0 cF kF (pc + 3, ls, st, h')) : GG p l e R s m args below meth c Q X D cA base nL c0 k0 cF kF (pc, ls, v :: vR (some (kd, n, a)) :: st, h) := by
  obtain ⟨C, T, N, ty, hC, hk, hlk, htk, hfin, hfin2⟩ := hF
  obtain ⟨hC1, hC2, hC3, hC4, hC5, hC6⟩ := hC
  obtain ⟨q1, q2, q3⟩ := hC6 k hk
  have htt : t = tyTag (ty k) := Option.some.inj (htk.symm.trans q1)
  have hci13 : ci < 13 := (List.getElem?_eq_some_iff.mp hC1).1
  intro ad lsR H locs hP hL hT hl h1 h2 h3 h4
  obtain ⟨hP1, hP2, hP3, hP4, hP5⟩ := hP
  obtain ⟨r1, r2, r3, r4⟩ := hT.tail.head kd n a rfl
  have ha31 : 31 ≤ a := r4.mpr (by omega)
  have hg := wd_get (cA := cA) (ad := ad) ha31 r1
  rw [cel_obj (r2.trans hkd)] at hg
  have hctg : ctg (m_kd h a) k = t := by
    rw [r2, hkd]
    unfold ctg
    rw [if_neg (by omega), if_neg (by omega), if_neg (by omega), if_pos (by omega), show 10 + ci - 10 = ci by omega, pl_at_eq, htk]
    rfl
  have hws : wd cA ad h' = (wd cA ad h).set (a - 31) (ad a, .inr (ci, (fvs ad h a (fts ci) 0).set k (tv ad v))) := by
    rw [wd_set (i := a) ha31 r1 e1 (fun j hj => cel_same (e3 j hj).1 (e3 j hj).2 (by rw [e2]))]
    have hkd' : m_kd h' a = 10 + ci := by unfold m_kd; rw [e2]; exact r2.trans hkd
    rw [cel_obj hkd', fvs_set (fts ci) t htk (e5 ad), e4 ad]
  have hok : okH h' := e6 hP4 r1 hctg hT.head
  have hro : roS X h' ad := by
    intro i hi
    obtain ⟨z1, z2, z3, z4⟩ := hP5 i hi
    obtain ⟨y1, y2⟩ := e3 i (by omega)
    exact ⟨z1, y1.trans z2, y2.trans z3, by rw [e2]; exact z4.1, by rw [e1]; exact z4.2.1, z4.2.2⟩
  obtain ⟨hn1, hn2⟩ := e8 (ty k) ad htt.symm (q3 hci)
  have hgo : ∀ (H1 : Heap) (locs1 : List Loc), va_P D vwCl ((wd cA ad h).set (a - 31) (ad a, .inr (ci, (fvs ad h a (fts ci) 0).set k (tv ad v)))) H1 → va_D (AB base) ((wd cA ad h).set (a - 31) (ad a, .inr (ci, (fvs ad h a (fts ci) 0).set k (tv ad v)))) → va_S (AB base) s.heap H1 locs1 →
      W p l e R s m args below meth c H1 locs1 (m_ce h - c0) (m_sl h - k0) Q (F0 m (pc + 3) lsR (st.map (tv ad))) := by
    intro H1 locs1 g1 g2 g3
    rw [← hws] at g1 g2
    have := K ad lsR H1 locs1 ⟨g1, g2, g3, hok, hro⟩ hL (fun w hw => e7 w (hT.tail.tail w hw)) (fun w hw => e7 w (hl w hw)) (by show c0 ≤ m_ce h'; rw [e9]; exact h1) (by show k0 ≤ m_sl h'; rw [e10]; exact h2) (by show m_ce h' ≤ cF; rw [e9]; exact h3) (by show m_sl h' ≤ kF; rw [e10]; exact h4)
    have this : W p l e R s m args below meth c H1 locs1 (m_ce h' - c0) (m_sl h' - k0) Q (F0 m (pc + 3) lsR (st.map (tv ad))) := this
    rw [e9, e10] at this
    exact this
  show W p l e R s m args below meth c H locs (m_ce h - c0) (m_sl h - k0) Q (F0 m pc lsR (tv ad v :: tv ad (vR (some (kd, n, a))) :: st.map (tv ad)))
  rw [tv_ref (by omega)]
  have hkl : k < (fvs ad h a (fts ci) 0).length := by rw [fvs_len, hC5]; exact hk
  cases fin with
  | false => exact va_put (D := D) (ci := ci) (v := tv ad v) (ty := ty k) (C := C) (T := T) (N := N) hexec hb hts hC2 ty hC3 hC4 hown hK hP1 hP2 hP3 (a - 31) hg hC1 k hk (hts _ hlk) (fun _ h9 => h9) hfin (hC3 k hk) hn1 hn2 hkl hd hgo
  | true =>
    obtain ⟨f1, f2⟩ := hfi rfl
    exact va_putF (D := D) (ci := ci) (v := tv ad v) (ty := ty k) (C := C) (T := T) (N := N) hexec hb hts hC2 ty hC3 hC4 hown hK hP1 hP2 hP3 (a - 31) hg hC1 k hk (hts _ hlk) (fun _ h9 => h9) hfin f1 ((hfin2 rfl).trans (f2 C T N hC1)) (hC3 k hk) hn1 hn2 hkl hd hgo
theorem sn_put {mi : Nat × Nat} {pc ix : Nat} {ls : PLs} {st : List PV} {h : PM} {cf : PCf} {cc : ByteArray} {own : String} {Ts : List Cond} (hexec : p.tables.exec = Jvm.exec) (hb : c.code = cc) (hown : s.vm.findClass own = some m.cls) (hts : ∀ w ∈ Ts, w.before args s = true) (hK : va_K D vwCl (tys5 cA) s)
    (hF : ∀ ci k t fin, pm_fld mi.1 ix = some (ci, k, t, fin) → FLD Ts own ix ci k t fin) (hI : mi.2 = 0 → ∀ ci, (pl_at pm_oci mi.1).getD 99 = ci → ∀ C T N, vwCl[ci]? = some (C, T, N) → meth.name = "<init>" ∧ C = own) (hd : decode cc pc = .ok (.putfield ix, 3)) (hs : p_put mi ix pc 3 ls st h = some (.inl cf))
    (K : GG p l e R s m args below meth c Q X D cA base nL c0 k0 cF kF cf) : GG p l e R s m args below meth c Q X D cA base nL c0 k0 cF kF (pc, ls, st, h) := by
  unfold p_put at hs
  cases hfd : pm_fld mi.1 ix with
  | none => rw [hfd] at hs; cases hs
  | some q =>
    obtain ⟨ci, k, t, fin⟩ := q
    rw [hfd] at hs
    have hF0 := hF ci k t fin hfd
    match st, hs with
    | v :: .inr (.inr (some (kd, n, a))) :: st, hs =>
      cases hcond : (Nat.beq kd (10 + ci) && !(Nat.beq ci 0) && (!fin || (Nat.beq mi.2 0 && Nat.beq ((pl_at pm_oci mi.1).getD 99) ci))) with
      | false => simp only [hcond, cond_false] at hs; cases hs
      | true =>
        simp only [hcond, cond_true] at hs
        simp only [Bool.and_eq_true, Bool.not_eq_true', Bool.or_eq_true] at hcond
        obtain ⟨⟨c1, c2⟩, c3⟩ := hcond
        have hkd : kd = 10 + ci := Nat.eq_of_beq_eq_true c1
        have hci : 0 < ci := by
          rcases Nat.eq_zero_or_pos ci with z | z
          · subst z; exact absurd c2 (by decide)
          · exact z
        have hfi : fin = true → meth.name = "<init>" ∧ ∀ C T N, vwCl[ci]? = some (C, T, N) → C = own := by
          intro hf
          rcases c3 with c3 | ⟨c3, c4⟩
          · rw [hf] at c3; cases c3
          · have m0 : mi.2 = 0 := Nat.eq_of_beq_eq_true c3
            have m1 : (pl_at pm_oci mi.1).getD 99 = ci := Nat.eq_of_beq_eq_true c4
            obtain ⟨C, T, N, ty, hC, -⟩ := hF0
            exact ⟨(hI m0 ci m1 C T N hC.1).1, fun C' T' N' h' => (hI m0 ci m1 C' T' N' h').2⟩
        rcases v with x | x | r
        · cases hb2 : (Nat.beq t 0 || (Nat.beq t 1 && (decide (x = 0) || decide (x = 1)))) with
          | false => simp only [hb2, cond_false] at hs; cases hs
          | true =>
            simp only [hb2, cond_true] at hs
            cases nx_inj hs
            simp only [Bool.and_eq_true, Bool.or_eq_true, decide_eq_true_eq] at hb2
            have ht : t ≠ 2 ∧ t ≠ 3 := by
              rcases hb2 with z | ⟨z, -⟩
              · have := Nat.eq_of_beq_eq_true z; omega
              · have := Nat.eq_of_beq_eq_true z; omega
            refine put_go (h' := m_si h a k x) (v := vI x) hexec hb hown hts hK hF0 hkd hci hfi hd rfl rfl (fun j hj => ⟨up2_ne hj, rfl⟩) ?_ ?_ ?_ (fun w hw => hw.si) ?_ rfl rfl K
            · intro ad
              unfold fv
              rw [if_neg ht.1, if_neg ht.2]
              show Value.int (p_I (up2 h.1 a k x a k)) = _
              rw [up2_eq]
              rfl
            · intro ad j t' hj
              unfold fv
              show (if t' = 2 then Value.long (p_L (up2 h.1 a k x a j)) else if t' = 3 then tv ad (vR (h.2.1 a j)) else .int (p_I (up2 h.1 a k x a j))) = _
              rw [up2_nek hj]
            · intro g1 g2 g3 g4
              exact g1.si g2 (Or.inr ⟨by rw [g3]; exact ht.1, by rw [g3]; exact ht.2, g4⟩)
            · intro ty ad h9 h8
              rcases hb2 with z | ⟨z, z2⟩
              · have z := Nat.eq_of_beq_eq_true z
                subst z
                cases ty with
                | int => exact nf_i _
                | byte => exact absurd rfl h8
                | _ => exact absurd h9 (by simp [tyTag])
              · have z := Nat.eq_of_beq_eq_true z
                subst z
                cases ty with
                | boolean =>
                  rcases z2 with z2 | z2
                  · subst z2; exact nf_z0
                  · subst z2; exact nf_z1
                | _ => exact absurd h9 (by simp [tyTag])
        · cases hb2 : Nat.beq t 2 with
          | false => simp only [hb2, cond_false] at hs; cases hs
          | true =>
            simp only [hb2, cond_true] at hs
            cases nx_inj hs
            have z := Nat.eq_of_beq_eq_true hb2
            subst z
            refine put_go (h' := m_si h a k x) (v := vL x) hexec hb hown hts hK hF0 hkd hci hfi hd rfl rfl (fun j hj => ⟨up2_ne hj, rfl⟩) ?_ ?_ ?_ (fun w hw => hw.si) ?_ rfl rfl K
            · intro ad
              show Value.long (p_L (up2 h.1 a k x a k)) = _
              rw [up2_eq]
              rfl
            · intro ad j t' hj
              unfold fv
              show (if t' = 2 then Value.long (p_L (up2 h.1 a k x a j)) else if t' = 3 then tv ad (vR (h.2.1 a j)) else .int (p_I (up2 h.1 a k x a j))) = _
              rw [up2_nek hj]
            · intro g1 g2 g3 g4
              exact g1.si g2 (Or.inl ⟨g3, g4⟩)
            · intro ty ad h9 h8
              cases ty with
              | long => exact nf_l _
              | _ => exact absurd h9 (by simp [tyTag])
        · cases hb2 : Nat.beq t 3 with
          | false => simp only [hb2, cond_false] at hs; cases hs
          | true =>
            simp only [hb2, cond_true] at hs
            cases nx_inj hs
            have z := Nat.eq_of_beq_eq_true hb2
            subst z
            refine put_go (h' := m_sr h a k r) (v := vR r) hexec hb hown hts hK hF0 hkd hci hfi hd rfl rfl (fun j hj => ⟨rfl, up2_ne hj⟩) ?_ ?_ ?_ (fun w hw => hw.sr) ?_ rfl rfl K
            · intro ad
              show tv ad (vR (up2 h.2.1 a k r a k)) = _
              rw [up2_eq]
            · intro ad j t' hj
              unfold fv
              show (if t' = 2 then Value.long (p_L (h.1 a j)) else if t' = 3 then tv ad (vR (up2 h.2.1 a k r a j)) else .int (p_I (h.1 a j))) = _
              rw [up2_nek hj]
            · intro g1 g2 g3 g4
              exact g1.sr g4
            · intro ty ad h9 h8
              exact nf_r h9 r
end Steps
end
