/-! ===== a join is read: the class's ===== -/
noncomputable section
/-- a join that is read, from the token behind its word: what is wrong and where, or both ends and the place behind -/
def jnR (t : Nat → Int) (n q : Nat) (m : Int) (ok : Int → Int → Bool) : (Int × Nat) ⊕ (Int × Int × Nat) :=
  if vfK t n q m ≠ 0 then .inl (vfK t n q m, q)
  else if vfK t n (tkE t n q) m ≠ 0 then .inl (vfK t n (tkE t n q) m, tkE t n q)
  else if ok (gsV t n q) (gsV t n (tkE t n q)) = true then .inr (gsV t n q, gsV t n (tkE t n q), tkE t n (tkE t n q)) else .inl (4, tkE t n q)
/-- with the sign at its end -/
def jnE (t : Nat → Int) (n : Nat) (P : (Int × Nat) ⊕ (Int × Int × Nat)) : (Int × Nat) ⊕ (Int × Int × Nat) := match P with
  | .inl e => .inl e
  | .inr (a, b, q') => if tkK t n q' = 3 then .inr (a, b, q') else .inl (1, q')
section
variable {d : Nat} {I J K X : Nat → Nat → Int} {S : PS} {U n q p c : Nat} {t : Nat → Int} {m : Int} {ok : Int → Int → Bool}
theorem vf_1 (h : vfK t n q m ≠ 0) : vfK t n q m = 1 ∨ vfK t n q m = 2 ∨ vfK t n q m = 3 := by
  unfold vfK at h ⊢
  by_cases c : nfK t n q 0 9999 = 0
  · rw [if_neg (fun w => w c)] at h ⊢
    by_cases e : m ≤ gsV t n q
    · rw [if_pos e]; exact Or.inr (Or.inr rfl)
    · rw [if_neg e] at h; exact absurd rfl h
  · rw [if_pos c]
    rcases nf_in (t := t) (n := n) (q := q) (lo := 0) (hi := 9999) with w | w | w
    · exact absurd w c
    · exact Or.inl w
    · exact Or.inr (Or.inl w)
/-- what reading a join leaves in the class -/
def jcQ (t : Nat → Int) (n A : Nat) (P : (Int × Nat) ⊕ (Int × Int × Nat)) (X : Nat → Nat → Int) (v : Int) (J : Nat → Nat → Int) : Prop := (∀ k q', P = .inl (k, q') → v = k ∧ J 32 4 = (tkS t n q' : Int) ∧ k ≠ 0) ∧ ∀ a b q', P = .inr (a, b, q') → v = 0 ∧ J A 6 = X A 6 + 1 ∧ J (A + 3) = lk (X (A + 3)) a b ∧ J 32 1 = (n : Int) ∧ J 32 2 = (tkE t n q' : Int) ∧ q' ≤ n
theorem jcQ_bad {A : Nat} {P : (Int × Nat) ⊕ (Int × Int × Nat)} {k : Int} {q' : Nat} (hP : P = .inl (k, q')) (h4 : J 32 4 = (tkS t n q' : Int)) (hk : k ≠ 0) : jcQ t n A P X k J := by
  refine ⟨fun k' q'' e => ?_, fun a b q'' e => ?_⟩
  · rw [hP] at e; cases e; exact ⟨rfl, h4, hk⟩
  · rw [hP] at e; cases e
theorem up2_lk (Z : Nat → Nat → Int) (k : Nat) (a b : Int) : up2 (up2 Z k a.toNat (p_or (Z k a.toNat) (p_shl 1 b))) k b.toNat (p_or ((up2 Z k a.toNat (p_or (Z k a.toNat) (p_shl 1 b))) k b.toNat) (p_shl 1 a)) = up1 Z k (lk (Z k) a b) := by
  rw [up2_up1 Z, up1_same Z, up2_up1 (up1 Z k _), up1_same Z, up1_up1]
  rfl
theorem rj_C {A : Nat} (hU : U = 34 ∨ U = 77) (hA : A = U + 7 + 9 * p) (hl0 : LyX10 S) (hl1 : LyX0 S U) (ht : txR (X 33) t) (hn : n ≤ 700) (hq : q ≤ n) (h1 : X 32 1 = (n : Int)) (h2 : X 32 2 = (q : Int)) (hp : p < 4) (hP : X U 1 = (p : Int) + 1) (hm : X A 4 = m) (hm15 : m ≤ 15) (hc : X A 6 = (c : Int)) (hc4 : c < 4) (hok : ∀ a b : Nat, (a : Int) < m → (b : Int) < m → ok a b = (bt (X (A + 2) a) b && !bt (X (A + 3) a) b && decide (X A 3 ≤ a ∨ X A 3 ≤ b))) : ∃ v J, Ca (d + 5) mX5_readJoin [vR (some (20, 0, 32)), vR (some (11, 0, U))] (X, S) (.inl (some (vI v))) (J, S) ∧ (∀ a, a ≠ 32 → a ≠ A → a ≠ A + 3 → J a = X a) ∧ (∀ k, k ≠ 6 → J A k = X A k) ∧ jcQ t n A (jnE t n (jnR t n q m ok)) X v J := by
  have hl2 : LyX3 S A := by rw [hA]; exact ly_X0_q hl1 hp
  have nA : A ≠ 32 ∧ A + 2 ≠ 32 ∧ A + 3 ≠ 32 ∧ A ≠ A + 3 ∧ A + 3 ≠ A ∧ 33 ≠ A ∧ 33 ≠ A + 3 ∧ 32 ≠ A ∧ 32 ≠ A + 3 := by omega
  have hin := tk_in t hq
  have hin2 := tk_in t hin.2.2.2
  have eA : U + 7 + 9 * (X U 1 - 1).toNat = A := by rw [hP, hA]; congr 2; omega
  obtain ⟨a1, a2, a3, a4⟩ := rv_C (d := d) (m := m) hl0 hl2 ht hn hq h1 h2 (by omega) hm
  have p1 : 1 ≤ X U 1 := by omega
  have pc : X (U + 7 + 9 * (X U 1 - 1).toNat) 6 < 4 := by rw [eA, hc]; omega
  by_cases c1 : vfK t n q m = 0
  · have e1 : adI X 32 5 = gsV t n q := a4 c1
    obtain ⟨f1, f2, f3⟩ := vf_0 c1
    obtain ⟨b1, b2, b3, b4⟩ := rv_C (d := d) (J := adI X) (q := tkE t n q) (m := m) hl0 hl2 (by rw [a3 33 (by decide)]; exact ht) hn hin.2.2.2 a2.1 a2.2.1 (by omega) (by rw [a3 A nA.1]; exact hm)
    have o2 : ∀ a, a ≠ 32 → adI (adI X) a = X a := fun a ha => (b3 a ha).trans (a3 a ha)
    have goto : ∀ v J, (vfK t n (tkE t n q) m = 0 → L_X5_readJoin_60 d 32 U A (vfK t n (tkE t n q) m) (gsV t n q) (adI (adI X)) S v (J, S)) → (vfK t n (tkE t n q) m ≠ 0 → vfK t n (tkE t n q) m = v ∧ (adI (adI X), S) = (J, S)) → Ca (d + 5) mX5_readJoin [vR (some (20, 0, 32)), vR (some (11, 0, U))] (X, S) (.inl (some (vI v))) (J, S) := fun v J kk ee => w_X5_readJoin_0 (J1 := adI X) (J2 := adI (adI X)) hl0 hl1 (fun _ _ => by rw [eA]; exact a1) (fun _ _ w => absurd c1 w) (fun _ _ _ => by rw [eA]; exact b1) (fun _ _ _ w => by rw [eA, e1]; exact kk w) (r1 := fun _ _ w => absurd c1 w) (e1 := fun _ _ w => absurd c1 w) (r2 := fun _ _ _ w => (ee w).1) (e2 := fun _ _ _ w => (ee w).2) (r3 := fun _ w => absurd w (by omega)) (e3 := fun _ w => absurd w (by omega)) (r4 := fun w => absurd w (by omega)) (e4 := fun w => absurd w (by omega))
    by_cases c2 : vfK t n (tkE t n q) m = 0
    · have e2 : adI (adI X) 32 5 = gsV t n (tkE t n q) := b4 c2
      obtain ⟨g1, g2, g3⟩ := vf_0 c2
      obtain ⟨a, ha⟩ : ∃ a : Nat, gsV t n q = (a : Int) := ⟨(gsV t n q).toNat, by omega⟩
      obtain ⟨b, hb⟩ : ∃ b : Nat, gsV t n (tkE t n q) = (b : Int) := ⟨(gsV t n (tkE t n q)).toNat, by omega⟩
      rw [ha] at f3 e1
      rw [hb] at g3 e2
      have hk := hok a b f3 g3
      have i0 : 0 ≤ (a : Int) ∧ (a : Int) < (15 : Nat) := by omega
      have j0 : 0 ≤ (b : Int) ∧ (b : Int) < (15 : Nat) := by omega
      have s1 := p_tst_ne (x := X (A + 2) a) (s := (b : Int)) (by omega)
      have s2 := p_tst_ne (x := X (A + 3) a) (s := (b : Int)) (by omega)
      rw [Int.toNat_natCast] at s1 s2
      have oA := o2 A nA.1
      have oA2 := o2 (A + 2) nA.2.1
      have oA3 := o2 (A + 3) nA.2.2.1
      have oA6 : adI (adI X) A 6 = (c : Int) := by rw [oA]; exact hc
      by_cases hv : ok a b = true
      · have hR : jnR t n q m ok = .inr ((a : Int), (b : Int), tkE t n (tkE t n q)) := by
          unfold jnR
          rw [if_neg (fun w => w c1), if_neg (fun w => w c2), ha, hb, if_pos hv]
        rw [hv] at hk
        have hk' := hk.symm
        rw [Bool.and_eq_true, Bool.and_eq_true, decide_eq_true_iff] at hk'
        obtain ⟨⟨k1, k2⟩, k3⟩ := hk'
        have k2' : bt (X (A + 3) a) b = false := by rw [Bool.not_eq_true'] at k2; exact k2
        have hPp : (p_and (p_shr (adI (adI X) (A + 2) (a : Int).toNat) (b : Int)) 1 ≠ 0) ∧ ((¬(p_and (p_shr (adI (adI X) (A + 3) (a : Int).toNat) (b : Int)) 1 ≠ 0)) ∧ ((adI (adI X) A 3 ≤ (a : Int)) ∨ (adI (adI X) A 3 ≤ (b : Int)))) := by
          rw [oA, oA2, oA3, Int.toNat_natCast]
          exact ⟨s1.mpr k1, fun w => (by rw [s2.mp w] at k2'; cases k2'), k3⟩
        have cj := c_X3_addJoin_y (d := d + 4) (I := adI (adI X)) (S := S) (a0 := A) (x1 := (a : Int)) (x2 := (b : Int)) hl2 i0 (v2 := fun _ _ _ => j0) (v4 := fun _ _ _ _ => j0) (v3 := fun _ _ _ => by rw [up2_a _ (by omega), up2_a _ (by omega), oA6]; omega) (v5 := fun _ _ _ _ => by rw [up2_a _ (by omega), up2_a _ (by omega), oA6]; omega) hPp
        have cj2 : Ca (d + 4) mX3_addJoin [vR (some (14, 0, A)), vI (a : Int), vI (b : Int)] (adI (adI X), S) (.inl (some (vI 1))) (up2 (up1 (adI (adI X)) (A + 3) (lk (X (A + 3)) (a : Int) (b : Int))) A 6 ((c : Int) + 1), S) := by
          rw [up2_lk] at cj
          rw [up1_o _ nA.2.2.2.1, oA6, oA3] at cj
          exact cj
        clear hPp s1 s2 k1 k2 k3 k2' hk
        generalize hY : up2 (up1 (adI (adI X)) (A + 3) (lk (X (A + 3)) (a : Int) (b : Int))) A 6 ((c : Int) + 1) = Y at cj2
        have y0 : ∀ z, z ≠ A → z ≠ A + 3 → Y z = adI (adI X) z := fun z h1 h2 => by rw [← hY]; funext k; rw [up2_a _ h1, up1_o _ h2]
        have y3 : Y (A + 3) = lk (X (A + 3)) (a : Int) (b : Int) := by rw [← hY]; funext k; rw [up2_a _ nA.2.2.2.2.1, up1_same]
        have y6 : Y A 6 = (c : Int) + 1 := by rw [← hY, up2_same]
        have yk : ∀ k, k ≠ 6 → Y A k = X A k := fun k hk => by rw [← hY, up2_k _ hk, up1_o _ nA.2.2.2.1, oA]
        obtain ⟨d1, d2, d3⟩ := ad_C (d := d + 3) (J := Y) (q := tkE t n (tkE t n q)) hl0 (by rw [y0 33 nA.2.2.2.2.2.1 nA.2.2.2.2.2.2.1, o2 33 (by decide)]; exact ht) (by rw [y0 32 nA.2.2.2.2.2.2.2.1 nA.2.2.2.2.2.2.2.2]; exact b2.1) (by rw [y0 32 nA.2.2.2.2.2.2.2.1 nA.2.2.2.2.2.2.2.2]; exact b2.2.1) hn hin2.2.2.2
        have g : ∀ v, (if adI Y 32 3 ≠ 3 then (1 : Int) else 0) = v → Ca (d + 5) mX5_readJoin [vR (some (20, 0, 32)), vR (some (11, 0, U))] (X, S) (.inl (some (vI v))) (adI Y, S) := fun v hv => goto v (adI Y) (fun _ => by
          rw [ha]
          exact w_X5_readJoin_60 (J1 := Y) (J2 := adI Y) (z1 := true) hl0 hl1 hl2 (by rw [e2]; exact cj2) (fun _ => d1) (r1 := fun _ => hv) (e1 := fun _ => rfl) (r2 := fun w => absurd rfl w) (e2 := fun w => absurd rfl w)) (fun w => absurd c2 w)
        refine ⟨_, adI Y, g _ rfl, fun z h1 h2 h3 => by rw [d3 z h1, y0 z h2 h3, o2 z h1], fun k hk => by rw [d3 A nA.1, yk k hk], ?_⟩
        rw [hR]
        by_cases k3 : tkK t n (tkE t n (tkE t n q)) = 3
        · have hE : jnE t n (.inr ((a : Int), (b : Int), tkE t n (tkE t n q))) = .inr ((a : Int), (b : Int), tkE t n (tkE t n q)) := by show (if _ then _ else _) = _; rw [if_pos k3]
          refine ⟨fun k q' e => ?_, fun a' b' q' e => ?_⟩
          · rw [hE] at e; cases e
          · rw [hE] at e
            cases e
            exact ⟨if_neg (fun w => w (d2.2.2.2.1.trans k3)), by rw [d3 A nA.1, y6, hc], by rw [d3 (A + 3) nA.2.2.1, y3], d2.1, d2.2.1, hin2.2.2.2⟩
        · have hE : jnE t n (.inr ((a : Int), (b : Int), tkE t n (tkE t n q))) = .inl (1, tkE t n (tkE t n q)) := by show (if _ then _ else _) = _; rw [if_neg k3]
          rw [if_pos (fun w => k3 (d2.2.2.2.1.symm.trans w))]
          exact jcQ_bad hE d2.2.2.1 (by decide)
      · have hR : jnE t n (jnR t n q m ok) = .inl (4, tkE t n q) := by
          unfold jnR
          rw [if_neg (fun w => w c1), if_neg (fun w => w c2), ha, hb, if_neg hv]
          rfl
        have hPp : ¬((p_and (p_shr (adI (adI X) (A + 2) (a : Int).toNat) (b : Int)) 1 ≠ 0) ∧ ((¬(p_and (p_shr (adI (adI X) (A + 3) (a : Int).toNat) (b : Int)) 1 ≠ 0)) ∧ ((adI (adI X) A 3 ≤ (a : Int)) ∨ (adI (adI X) A 3 ≤ (b : Int))))) := by
          rw [oA, oA2, oA3, Int.toNat_natCast]
          intro w
          apply hv
          rw [hk, Bool.and_eq_true, Bool.and_eq_true, decide_eq_true_iff]
          refine ⟨⟨s1.mp w.1, ?_⟩, w.2.2⟩
          cases z : bt (X (A + 3) a) b with
          | false => rfl
          | true => exact absurd (s2.mpr z) w.2.1
        have cj := c_X3_addJoin_n (d := d + 4) (I := adI (adI X)) (S := S) (a0 := A) (x1 := (a : Int)) (x2 := (b : Int)) hl2 i0 (v2 := fun _ _ _ => j0) (v4 := fun _ _ _ _ => j0) (v3 := fun _ _ _ => by rw [up2_a _ (by omega), up2_a _ (by omega), oA6]; omega) (v5 := fun _ _ _ _ => by rw [up2_a _ (by omega), up2_a _ (by omega), oA6]; omega) hPp
        refine ⟨4, adI (adI X), goto _ _ (fun _ => by
          rw [ha]
          exact w_X5_readJoin_60 (J1 := adI (adI X)) (J2 := X) (z1 := false) hl0 hl1 hl2 (by rw [e2]; exact cj) (fun w => absurd w (by decide)) (r1 := fun w => absurd w (by decide)) (e1 := fun w => absurd w (by decide)) (r2 := fun _ => rfl) (e2 := fun _ => rfl)) (fun w => absurd c2 w), fun z h1 _ _ => o2 z h1, fun k _ => by rw [oA], jcQ_bad hR b2.2.2.1 (by decide)⟩
    · have hR : jnE t n (jnR t n q m ok) = .inl (vfK t n (tkE t n q) m, tkE t n q) := by
        unfold jnR
        rw [if_neg (fun w => w c1), if_pos c2]
        rfl
      exact ⟨vfK t n (tkE t n q) m, adI (adI X), goto _ _ (fun w => absurd w c2) (fun _ => ⟨rfl, rfl⟩), fun z h1 _ _ => o2 z h1, fun k _ => by rw [o2 A nA.1], jcQ_bad hR b2.2.2.1 c2⟩
  · have hR : jnE t n (jnR t n q m ok) = .inl (vfK t n q m, q) := by
      unfold jnR
      rw [if_pos c1]
      rfl
    have go60 : L_X5_readJoin_60 d 32 U A (vfK t n q m) (adI X 32 5) (adI X) S (vfK t n q m) (adI X, S) → True := fun _ => trivial
    exact ⟨vfK t n q m, adI X, w_X5_readJoin_0 (J1 := adI X) (J2 := X) (z2 := 0) hl0 hl1 (fun _ _ => by rw [eA]; exact a1) (fun _ _ w1 w2 => absurd w2 w1) (fun _ _ w => absurd w c1) (fun _ _ w => absurd w c1) (r1 := fun _ _ _ _ => rfl) (e1 := fun _ _ _ _ => rfl) (r2 := fun _ _ w => absurd w c1) (e2 := fun _ _ w => absurd w c1) (r3 := fun _ w => absurd w (by omega)) (e3 := fun _ w => absurd w (by omega)) (r4 := fun w => absurd w (by omega)) (e4 := fun w => absurd w (by omega)), fun z h1 _ _ => a3 z h1, fun k _ => by rw [a3 A nA.1], jcQ_bad hR a2.2.2.1 c1⟩
end
end
