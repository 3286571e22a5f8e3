/-! ===== an act is kept, both sides ===== -/
noncomputable section
/-- the class keeps an act -/
def kaI (X : Nat → Nat → Int) (kd pl vl : Int) : Nat → Nat → Int := if X 126 2 < 30 then (up2 (up2 (up2 (up2 X 130 ((X 126 2).toNat) kd) 131 ((X 126 2).toNat) pl) 132 ((X 126 2).toNat) vl) 126 2 (X 126 2 + 1)) else (up2 (up2 (up2 (up2 (up2 (cpyI (cpyI (cpyI X 130 1 130 0 29) 131 1 131 0 29) 132 1 132 0 29) 126 2 29) 130 29 kd) 131 29 pl) 132 29 vl) 126 2 ((29 : Int) + 1))
section
variable {I J K X Y Z : Nat → Nat → Int} {S S' : PS} {c T U n P R N A p r s : Nat} {kd pl vl : Int}
theorem kaI_o {a : Nat} (h : a ≠ 126) (h1 : ¬(130 ≤ a ∧ a ≤ 132)) : kaI X kd pl vl a = X a := by
  funext j
  unfold kaI
  split
  · rw [up2_a _ h, up2_a _ (by omega), up2_a _ (by omega), up2_a _ (by omega)]
  · rw [up2_a _ h, up2_a _ (by omega), up2_a _ (by omega), up2_a _ (by omega), up2_a _ h]
    unfold cpyI
    rw [up1_o _ (by omega), up1_o _ (by omega), up1_o _ (by omega)]
theorem kaI_126 {k : Nat} (h : k ≠ 2) : kaI X kd pl vl 126 k = X 126 k := by
  unfold kaI
  split
  · rw [up2_k _ h, up2_a _ (by decide), up2_a _ (by decide), up2_a _ (by decide)]
  · rw [up2_k _ h, up2_a _ (by decide), up2_a _ (by decide), up2_a _ (by decide), up2_k _ h]
    unfold cpyI
    rw [up1_o _ (by decide), up1_o _ (by decide), up1_o _ (by decide)]
theorem kaI_2 : kaI X kd pl vl 126 2 = if X 126 2 < 30 then X 126 2 + 1 else 30 := by
  unfold kaI
  split
  · exact up2_same _ _ _ _
  · exact up2_same _ _ _ _
/-- the figures of the k-th act -/
def kaV (X : Nat → Nat → Int) (a : Nat) (v : Int) (k : Nat) : Int := if X 126 2 < 30 then (if k = (X 126 2).toNat then v else X a k) else (if k < 29 then X a (k + 1) else if k = 29 then v else X a k)
theorem kaI_130 (k : Nat) : kaI X kd pl vl 130 k = kaV X 130 kd k ∧ kaI X kd pl vl 131 k = kaV X 131 pl k ∧ kaI X kd pl vl 132 k = kaV X 132 vl k := by
  unfold kaI kaV
  by_cases q : X 126 2 < 30
  · rw [if_pos q, if_pos q, if_pos q, if_pos q]
    refine ⟨?_, ?_, ?_⟩
    · rw [up2_a _ (by decide), up2_a _ (by decide), up2_a _ (by decide)]
      by_cases e : k = (X 126 2).toNat
      · rw [if_pos e, e, up2_same]
      · rw [if_neg e, up2_k _ e]
    · rw [up2_a _ (by decide), up2_a _ (by decide)]
      by_cases e : k = (X 126 2).toNat
      · rw [if_pos e, e, up2_same]
      · rw [if_neg e, up2_k _ e, up2_a _ (by decide)]
    · rw [up2_a _ (by decide)]
      by_cases e : k = (X 126 2).toNat
      · rw [if_pos e, e, up2_same]
      · rw [if_neg e, up2_k _ e, up2_a _ (by decide), up2_a _ (by decide)]
  · rw [if_neg q, if_neg q, if_neg q, if_neg q]
    have cp : ∀ (f : Nat → Int), (if 0 ≤ k ∧ k < 0 + 29 then f (1 + (k - 0)) else f k) = (if k < 29 then f (k + 1) else f k) := fun f => by
      by_cases z : k < 29
      · rw [if_pos (by omega), if_pos z, show 1 + (k - 0) = k + 1 by omega]
      · rw [if_neg (by omega), if_neg z]
    refine ⟨?_, ?_, ?_⟩
    · rw [up2_a _ (by decide), up2_a _ (by decide), up2_a _ (by decide)]
      by_cases e : k = 29
      · rw [e, up2_same, if_neg (by decide), if_pos rfl]
      · rw [up2_k _ e, up2_a _ (by decide)]
        unfold cpyI
        rw [up1_o _ (by decide), up1_o _ (by decide), up1_same]
        refine (cp (X 130)).trans ?_
        rw [if_neg e]
    · rw [up2_a _ (by decide), up2_a _ (by decide)]
      by_cases e : k = 29
      · rw [e, up2_same, if_neg (by decide), if_pos rfl]
      · rw [up2_k _ e, up2_a _ (by decide), up2_a _ (by decide)]
        unfold cpyI
        rw [up1_o _ (by decide), up1_same, up1_o _ (by decide)]
        refine (cp (X 131)).trans ?_
        rw [if_neg e]
    · rw [up2_a _ (by decide)]
      by_cases e : k = 29
      · rw [e, up2_same, if_neg (by decide), if_pos rfl]
      · rw [up2_k _ e, up2_a _ (by decide), up2_a _ (by decide), up2_a _ (by decide)]
        unfold cpyI
        rw [up1_same, up1_o _ (by decide), up1_o _ (by decide)]
        refine (cp (X 132)).trans ?_
        rw [if_neg e]
theorem kpI_o {a : Nat} (h : a ≠ 179) (h1 : a ≠ 156) : kpI X a = X a := by
  funext j
  unfold kpI
  split
  · rw [up2_a _ h1, up1_o _ h]
  · rw [up2_a _ h1, up1_o _ h]
theorem kpI_156 {k : Nat} (h : k ≠ 41) : kpI X 156 k = X 156 k := by
  unfold kpI
  split
  · rw [up2_k _ h, up1_o _ (by decide)]
  · rw [up2_k _ h, up1_o _ (by decide)]
theorem kpI_41 {a : Nat} (ha : X 156 41 = (a : Int)) (h30 : a ≤ 30) : kpI X 156 41 = if a < 30 then (a : Int) + 1 else 30 := by
  unfold kpI
  by_cases q : X 156 41 = 30
  · rw [if_pos q, up2_same, if_neg (by omega)]
  · rw [if_neg q, up2_same, if_pos (by omega), ha]
theorem kpI_179 {a : Nat} (ha : X 156 41 = (a : Int)) (h30 : a ≤ 30) (k j : Nat) (hj : j < 18) : kpI X 179 (18 * k + j) = if a < 30 then (if k = a then X 178 j else X 179 (18 * k + j)) else (if k < 29 then X 179 (18 * (k + 1) + j) else if k = 29 then X 178 j else X 179 (18 * k + j)) := by
  unfold kpI
  by_cases q : X 156 41 = 30
  · rw [if_pos q, if_neg (show ¬(a < 30) by omega), up2_a _ (by decide), up1_same]
    by_cases z : k < 29
    · rw [if_pos z, upTo_out (by omega), upTo_in (by omega), show 18 * k + j + 18 = 18 * (k + 1) + j by omega]
    · rw [if_neg z]
      by_cases z2 : k = 29
      · rw [if_pos z2, upTo_in (by omega), z2, show 18 * 29 + j - 522 = j by omega]
      · rw [if_neg z2, upTo_out (by omega), upTo_out (by omega)]
  · rw [if_neg q, if_pos (show a < 30 by omega), up2_a _ (by decide), up1_same, ha]
    by_cases z : k = a
    · rw [if_pos z, upTo_in (by omega), z, show 18 * a + j - (18 * (a : Int)).toNat = j by omega]
    · rw [if_neg z, upTo_out (by omega)]
/-- behind an act -/
theorem act_ok (hA : iA I N R) (hN : N ≤ 12) (hR : R ≤ 6) (z1 : Z 156 41 = I 156 41) (z2 : Z 179 = I 179) (z3 : Z 178 = I 178) (x2 : X 126 2 = I 126 2) (x3 : ∀ a, 130 ≤ a → a ≤ 132 → X a = I a) (k2 : K 126 2 = kaI X kd pl vl 126 2) (k3 : ∀ a, 130 ≤ a → a ≤ 132 → K a = kaI X kd pl vl a) (k9 : K 179 = kpI Z 179) (k41 : K 156 41 = kpI Z 156 41) (hact : acU N R kd pl vl (K 178) (I 178)) (hp : pnt (K 128) (K 178) N) (hr : ∀ r, r < R → K 129 r = K 178 (12 + r) ∧ 1 ≤ K 178 (12 + r) ∧ K 178 (12 + r) ≤ 99) (n1 : K 126 6 = I 126 6) (n2 : K 133 = I 133) (n3 : K 134 = I 134) (n4 : K 187 = I 187) (n5 : K 156 56 = I 156 56) : iA K N R := by
  obtain ⟨h1, h2, ⟨a, a1, a2, a3, a4⟩, m, m1, m2, m3, m4⟩ := hA
  have za : Z 156 41 = (a : Int) := by rw [z1]; exact a3
  have x2a : X 126 2 = (a : Int) := by rw [x2]; exact a2
  have e41 := kpI_41 za a1
  have kv := fun k => kaI_130 (X := X) (kd := kd) (pl := pl) (vl := vl) k
  have o : ∀ k, K 130 k = kaV X 130 kd k ∧ K 131 k = kaV X 131 pl k ∧ K 132 k = kaV X 132 vl k := fun k => by
    rw [k3 130 (by decide) (by decide), k3 131 (by decide) (by decide), k3 132 (by decide) (by decide)]
    exact kv k
  have kk : ∀ k j, j < 18 → K 179 (18 * k + j) = if a < 30 then (if k = a then I 178 j else I 179 (18 * k + j)) else (if k < 29 then I 179 (18 * (k + 1) + j) else if k = 29 then I 178 j else I 179 (18 * k + j)) := fun k j hj => by
    rw [k9, kpI_179 za a1 k j hj, z2, z3]
  refine ⟨hp, hr, ?_, m, m1, by rw [n1]; exact m2, by rw [n5]; exact m3, fun i hi => by rw [n2, n3, n4]; exact m4 i hi⟩
  by_cases q : a < 30
  · have ev : ∀ (b : Nat) (v : Int) (k : Nat), 130 ≤ b → b ≤ 132 → kaV X b v k = if k = a then v else I b k := fun b v k hb hb2 => by
      unfold kaV
      rw [if_pos (show X 126 2 < 30 by omega), show (X 126 2).toNat = a by omega, x3 b hb hb2]
    refine ⟨a + 1, by omega, by rw [k2, kaI_2, if_pos (by omega)]; omega, by rw [k41, e41, if_pos q]; omega, fun k hk => ?_⟩
    rw [(o k).1, (o k).2.1, (o k).2.2, ev 130 kd k (by decide) (by decide), ev 131 pl k (by decide) (by decide), ev 132 vl k (by decide) (by decide)]
    by_cases e : k = a
    · rw [if_pos e, if_pos e, if_pos e]
      refine acU_cg hact (fun i _ => by rw [if_neg (by omega)]) (fun i hi => ?_)
      rw [kk k i (by omega), if_pos q, if_pos e]
    · rw [if_neg e, if_neg e, if_neg e]
      refine acU_cg (a4 k (by omega)) (fun i hi => ?_) (fun i hi => ?_)
      · rw [if_pos (show k + 1 < a + 1 by omega), kk (k + 1) i (by omega), if_pos q]
        by_cases e2 : k + 1 = a
        · rw [if_pos e2, if_neg (by omega)]
        · rw [if_neg e2, if_pos (by omega)]
      · rw [kk k i (by omega), if_pos q, if_neg e]
  · have e30 : a = 30 := by omega
    subst e30
    have ev : ∀ (b : Nat) (v : Int) (k : Nat), 130 ≤ b → b ≤ 132 → k < 30 → kaV X b v k = if k < 29 then I b (k + 1) else v := fun b v k hb hb2 hk => by
      unfold kaV
      rw [if_neg (show ¬(X 126 2 < 30) by omega), x3 b hb hb2]
      by_cases z : k < 29
      · rw [if_pos z, if_pos z]
      · rw [if_neg z, if_neg z, if_pos (by omega)]
    refine ⟨30, by omega, by rw [k2, kaI_2, if_neg (by omega)]; rfl, by rw [k41, e41, if_neg (by omega)]; rfl, fun k hk => ?_⟩
    rw [(o k).1, (o k).2.1, (o k).2.2, ev 130 kd k (by decide) (by decide) hk, ev 131 pl k (by decide) (by decide) hk, ev 132 vl k (by decide) (by decide) hk]
    by_cases e : k < 29
    · rw [if_pos e, if_pos e, if_pos e]
      refine acU_cg (a4 (k + 1) (by omega)) (fun i hi => ?_) (fun i hi => ?_)
      · rw [if_pos (show k + 1 < 30 by omega), kk (k + 1) i (by omega), if_neg (by decide)]
        by_cases e2 : k + 1 < 29
        · rw [if_pos e2, if_pos (by omega)]
        · rw [if_neg e2, if_pos (by omega), if_neg (by omega)]
      · rw [kk k i (by omega), if_neg (by decide), if_pos e]
    · rw [if_neg e, if_neg e, if_neg e]
      refine acU_cg hact (fun i _ => by rw [if_neg (by omega)]) (fun i hi => ?_)
      rw [kk k i (by omega), if_neg (by decide), if_neg e, if_pos (by omega)]
end
end
