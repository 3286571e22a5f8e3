/-! ===== feed ===== -/
noncomputable section
section
variable {d : Nat} {I J K X Y Z : Nat → Nat → Int} {S S' : PS} {c T U n P R N p r s m : Nat}
theorem i2b_eq {x : Int} (h : isI x) : p_i2b x = x.bmod 256 := by
  unfold p_i2b
  rw [Int8.toInt_toInt32, Int32.toInt_toInt8, pI_eq h]
theorem toI_c {x : Int} (h : isI x) : x = if 2 * uN x < 4294967296 then (uN x : Int) else (uN x : Int) - 4294967296 := by
  have e := BitVec.toInt_eq_toNat_cond (bv x)
  rw [bv_toInt h] at e
  exact e
theorem and255 {x : Int} (h : isI x) : p_and x 255 = x % 256 := by
  have e1 := toI_c h
  have e2 := toI_c (isI_and x 255)
  have e3 : uN (p_and x 255) = uN x % 256 := by
    rw [uN_and, show uN 255 = 2 ^ 8 - 1 from rfl, Nat.and_two_pow_sub_one_eq_mod]
  have e4 := uN_lt x
  rw [e3] at e2
  rw [if_pos (by omega)] at e2
  rw [e2]
  split at e1 <;> omega
/-- one byte of both texts -/
theorem byt {x : Int} (h : isI x) : (0 ≤ p_and x 255 ∧ p_and x 255 ≤ 255) ∧ p_i2b (p_i2b x) = if p_and x 255 < 128 then p_and x 255 else p_and x 255 - 256 := by
  have e1 := and255 h
  have hb : -128 ≤ x.bmod 256 ∧ x.bmod 256 < 128 := ⟨Int.le_bmod (by decide), Int.bmod_lt (by decide)⟩
  have e2 : p_i2b (p_i2b x) = x.bmod 256 := by
    rw [i2b_eq h, i2b_eq ⟨by omega, by omega⟩]
    exact Int.bmod_bmod
  rw [e2, e1]
  refine ⟨by omega, ?_⟩
  unfold Int.bmod
  show (if x % 256 < 128 then x % 256 else x % 256 - 256) = _
  rfl
/-- texts of both, n bytes long -/
def fdR (I A B : Nat → Nat → Int) (n : Nat) : Prop := A 31 1 = (n : Int) ∧ B 156 2 = (n : Int) ∧ txR (A 33) (B 157) ∧ (∀ a, a ≠ 31 → a ≠ 33 → A a = I a) ∧ ∀ j, j ≠ 1 → A 31 j = I 31 j
theorem fd1 {A B : Nat → Nat → Int} {v sh : Int} (h : fdR I A B n) : fdR I (pb1 A v sh) (ly1 B v sh) (n + 1) := by
  obtain ⟨h1, h2, h3, h4, h5⟩ := h
  have hb := byt (isI_shr v sh)
  refine ⟨by rw [pb1_t, h1]; rfl, by rw [ly1_t, h2]; rfl, fun k => ?_, fun a a1 a2 => ?_, fun j hj => ?_⟩
  · unfold pb1 ly1
    rw [up2_a _ (show (157 : Nat) ≠ 156 by decide), up2_a _ (show (33 : Nat) ≠ 31 by decide), h1, h2, Int.toNat_natCast]
    by_cases e : k = n
    · rw [e, up2_same, up2_same]
      exact hb
    · rw [up2_k _ e, up2_k _ e]
      exact h3 k
  · unfold pb1
    funext j
    rw [up2_a _ a1, up2_a _ a2]
    rw [h4 a a1 a2]
  · unfold pb1
    rw [up2_k _ hj, up2_a _ (by decide)]
    exact h5 j hj
theorem fd4 {A B : Nat → Nat → Int} {v : Int} (h : fdR I A B n) : fdR I (pbI A v) (lyI B v) (n + 4) := fd1 (fd1 (fd1 (fd1 h)))
theorem ly1_o {B : Nat → Nat → Int} {v sh : Int} : (∀ a, a ≠ 156 → a ≠ 157 → ly1 B v sh a = B a) ∧ ∀ j, j ≠ 2 → ly1 B v sh 156 j = B 156 j := ⟨fun a h1 h2 => funext (fun j => by unfold ly1; rw [up2_a _ h1, up2_a _ h2]), fun j hj => by unfold ly1; rw [up2_k _ hj, up2_a _ (by decide)]⟩
theorem lyI_o {B : Nat → Nat → Int} {v : Int} : (∀ a, a ≠ 156 → a ≠ 157 → lyI B v a = B a) ∧ ∀ j, j ≠ 2 → lyI B v 156 j = B 156 j := ⟨fun a h1 h2 => by unfold lyI; rw [ly1_o.1 a h1 h2, ly1_o.1 a h1 h2, ly1_o.1 a h1 h2, ly1_o.1 a h1 h2], fun j hj => by unfold lyI; rw [ly1_o.2 j hj, ly1_o.2 j hj, ly1_o.2 j hj, ly1_o.2 j hj]⟩
theorem pbI_1 {A : Nat → Nat → Int} {v : Int} : pbI A v 31 1 = A 31 1 + 4 := by
  unfold pbI
  rw [pb1_t, pb1_t, pb1_t, pb1_t]
  omega
theorem lyI_2 {A : Nat → Nat → Int} {v : Int} : lyI A v 156 2 = A 156 2 + 4 := by
  unfold lyI
  rw [ly1_t, ly1_t, ly1_t, ly1_t]
  omega
theorem pu_feed {x1 x2 x3 x4 x5 : Int} (h : IV c T U n P R N I S) : outC c mX11_feed mX12_feed ecZ [vI x1, vI x2, vI x3, vI x4, vI x5] I S := by
  obtain ⟨l1, l2, hT⟩ := IV_L h
  have hN := (IV_S h).1
  have hR := (IV_R h).1
  obtain ⟨t1, t2, t3, t4⟩ := h.2.1
  have hc := c_X11_feed (d := 0) (I := I) (S := S) (x1 := x1) (x2 := x2) (x3 := x3) (x4 := x4) (x5 := x5) l1 (by omega) (fun _ => by omega) (fun _ => by rw [pbI_1]; omega) (fun _ => by rw [pbI_1, pbI_1]; omega) (fun _ => by rw [pbI_1, pbI_1, pbI_1]; omega) (fun _ => by rw [pbI_1, pbI_1, pbI_1, pbI_1]; omega)
  have mm : ∀ Y : Nat → Nat → Int, Y 156 2 = (n : Int) → Ca 1 mX12_feed [vR (some (22, 0, 156)), vI x1, vI x2, vI x3, vI x4, vI x5] (Y, S) _ _ := fun Y y2 =>
    have z2 : (up2 Y 156 0 0) 156 2 = (n : Int) := by rw [up2_k _ (by decide)]; exact y2
    c_X12_feed (d := 0) (I := Y) (S := S) (x1 := x1) (x2 := x2) (x3 := x3) (x4 := x4) (x5 := x5) l2 (by omega) (fun _ => by omega) (fun _ => by rw [lyI_2, z2]; omega) (fun _ => by rw [lyI_2, lyI_2, z2]; omega) (fun _ => by rw [lyI_2, lyI_2, lyI_2, z2]; omega) (fun _ => by rw [lyI_2, lyI_2, lyI_2, lyI_2, z2]; omega)
  by_cases w : I 31 1 + 20 ≤ 700
  · simp only [if_pos w] at hc
    refine mk_mut (T := T) (U := U) (n := n + 20) (P := P) (R := R) (N := N) (Ca.deep hc (by omega)) (fun Y hYJ => ?_)
    have f0 : fdR I I (up2 I 156 0 0) n := ⟨t2, by rw [up2_k _ (by decide)]; exact t3, by rw [show (up2 I 156 0 0) 157 = I 157 from funext (fun j => up2_a _ (by decide))]; exact t4, fun _ _ _ => rfl, fun _ _ => rfl⟩
    obtain ⟨g1, g2, g3, g4, g5⟩ := fd4 (v := x5) (fd4 (v := x4) (fd4 (v := x3) (fd4 (v := x2) (fd4 (v := x1) f0))))
    have y0 : ∀ a, a ≠ 191 → a ≠ 31 → a ≠ 33 → Y a = I a := fun a h1 h2 h3 => by rw [hYJ a h1, g4 a h2 h3]
    have y156 := y0 156 (by decide) (by decide) (by decide)
    have fY : ∀ (A B : Nat → Nat → Int) (v : Int), A 156 2 = B 156 2 → A 157 = B 157 → (lyI A v) 156 2 = (lyI B v) 156 2 ∧ (lyI A v) 157 = (lyI B v) 157 := fun A B v e1 e2 => by
      refine ⟨by rw [lyI_2, lyI_2, e1], ?_⟩
      have s1 : ∀ (A B : Nat → Nat → Int) (sh : Int), A 156 2 = B 156 2 → A 157 = B 157 → (ly1 A v sh) 156 2 = (ly1 B v sh) 156 2 ∧ (ly1 A v sh) 157 = (ly1 B v sh) 157 := fun A B sh e1 e2 => by
        refine ⟨by rw [ly1_t, ly1_t, e1], ?_⟩
        unfold ly1
        funext j
        rw [up2_a _ (show (157 : Nat) ≠ 156 by decide), up2_a _ (show (157 : Nat) ≠ 156 by decide), e1]
        by_cases q : j = (B 156 2).toNat
        · rw [q, up2_same, up2_same]
        · rw [up2_k _ q, up2_k _ q, e2]
      obtain ⟨a1, b1⟩ := s1 A B 24 e1 e2
      obtain ⟨a2, b2⟩ := s1 _ _ 16 a1 b1
      obtain ⟨a3, b3⟩ := s1 _ _ 8 a2 b2
      exact (s1 _ _ 0 a3 b3).2
    obtain ⟨p1, p2⟩ := fY (up2 Y 156 0 0) (up2 I 156 0 0) x1 (by rw [up2_k _ (by decide), up2_k _ (by decide), y156]) (funext (fun j => by rw [up2_a _ (by decide), up2_a _ (by decide), y0 157 (by decide) (by decide) (by decide)]))
    obtain ⟨p1, p2⟩ := fY _ _ x2 p1 p2
    obtain ⟨p1, p2⟩ := fY _ _ x3 p1 p2
    obtain ⟨p1, p2⟩ := fY _ _ x4 p1 p2
    obtain ⟨p1, p2⟩ := fY _ _ x5 p1 p2
    have hm := mm Y (by rw [y156]; exact t3)
    rw [y156, t3] at hm
    simp only [if_pos (show (n : Int) + 20 ≤ 700 by omega)] at hm
    obtain ⟨K, hK⟩ : ∃ K, K = lyI (lyI (lyI (lyI (lyI (up2 Y 156 0 0) x1) x2) x3) x4) x5 := ⟨_, rfl⟩
    rw [← hK] at hm p1 p2
    have k1 : ∀ a, a ≠ 156 → a ≠ 157 → K a = Y a := fun a h1 h2 => by
      rw [hK, lyI_o.1 a h1 h2, lyI_o.1 a h1 h2, lyI_o.1 a h1 h2, lyI_o.1 a h1 h2, lyI_o.1 a h1 h2]
      exact funext (fun j => up2_a _ h1)
    have k6' : ∀ j, j ≠ 2 → K 156 j = (up2 Y 156 0 0) 156 j := fun j hj => by rw [hK, lyI_o.2 j hj, lyI_o.2 j hj, lyI_o.2 j hj, lyI_o.2 j hj, lyI_o.2 j hj]
    have k6 : ∀ j, j ≠ 0 → j ≠ 2 → K 156 j = I 156 j := fun j h0 hj => by rw [k6' j hj, up2_k _ h0, y156]
    have k : ∀ a, a ≠ 191 → a ≠ 31 → a ≠ 33 → a ≠ 156 → a ≠ 157 → K a = I a := fun a h1 h2 h3 h4 h5 => by rw [k1 a h4 h5, y0 a h1 h2 h3]
    have K31 : ∀ j, j ≠ 1 → K 31 j = I 31 j := fun j hj => by rw [k1 31 (by decide) (by decide), hYJ 31 (by decide)]; exact g5 j hj
    have ev : K 156 2 = (pbI (pbI (pbI (pbI (pbI I x1) x2) x3) x4) x5) 31 1 := by rw [p1, g2, g1]
    rw [ev] at hm
    refine ⟨K, Ca.deep hm (by omega), by rw [k6' 0 (by decide), up2_same], k1 191 (by decide) (by decide), y0 0 (by decide) (by decide) (by decide), ?_⟩
    refine IV_w h ⟨fun a h1 h2 h3 h4 h5 => k a (by unfold scr at h2; omega) (by unfold mutR at h4; omega) (by unfold mutR at h4; omega) h3 (by unfold mutR at h4; omega), fun j hj => k6 j (by unfold crR at hj; omega) (by unfold crR at hj; omega), fun a ha => k a (by omega) (by omega) (by omega) (by omega) (by omega)⟩ (k 122 (by decide) (by decide) (by decide) (by decide) (by decide)) (k 123 (by decide) (by decide) (by decide) (by decide) (by decide)) ⟨by omega, ?_, ?_, ?_⟩ (iF_k h.2.2.1 (K31 15 (by decide)) (k6 4 (by decide) (by decide)) (k 155 (by decide) (by decide) (by decide) (by decide) (by decide)) (k 158 (by decide) (by decide) (by decide) (by decide) (by decide))) ?_ ?_
    · rw [k1 31 (by decide) (by decide), hYJ 31 (by decide)]; exact g1
    · rw [p1]; exact g2
    · rw [p2, k1 33 (by decide) (by decide), hYJ 33 (by decide)]; exact g3
    · have e : ∀ a, 126 ≤ a → a < 135 → K a = I a := fun a h1 h2 => k a (by omega) (by omega) (by omega) (by omega) (by omega)
      exact saR_of (IV_A h) hN hR ⟨by rw [e 126 (by decide) (by decide)], by rw [e 126 (by decide) (by decide)]⟩ (fun a h1 h2 => e a (by omega) (by omega)) (fun i _ => by rw [k 178 (by decide) (by decide) (by decide) (by decide) (by decide)]) (k 179 (by decide) (by decide) (by decide) (by decide) (by decide)) (k 187 (by decide) (by decide) (by decide) (by decide) (by decide)) (k6 41 (by decide) (by decide)) (k6 56 (by decide) (by decide))
    · obtain ⟨i1, i2⟩ := h.2.2.2.2.2.2.2.1
      have e : ∀ a, 135 ≤ a → a < 144 → K a = I a := fun a h1 h2 => k a (by omega) (by omega) (by omega) (by omega) (by omega)
      refine ⟨by rw [K31 8 (by decide), k6 59 (by decide) (by decide)]; exact i1, ?_⟩
      rw [k6 59 (by decide) (by decide)]
      rcases i2 with i2 | ⟨i2, i3⟩
      · exact Or.inl i2
      · exact Or.inr ⟨i2, saR_of i3 hN hR ⟨by rw [e 135 (by decide) (by decide)], by rw [e 135 (by decide) (by decide)]⟩ (fun a h1 h2 => e a (by omega) (by omega)) (fun i _ => by rw [k 188 (by decide) (by decide) (by decide) (by decide) (by decide)]) (k 189 (by decide) (by decide) (by decide) (by decide) (by decide)) (k 190 (by decide) (by decide) (by decide) (by decide) (by decide)) (k6 60 (by decide) (by decide)) (k6 61 (by decide) (by decide))⟩
  · simp only [if_neg w] at hc
    refine mk_ok0 h (Ca.deep hc (by omega)) fR_refl (fun Y hY hYJ => ?_)
    have y2 : Y 156 2 = (n : Int) := by rw [hYJ 156 (by decide)]; exact t3
    have hm := mm Y y2
    rw [y2] at hm
    simp only [if_neg (show ¬((n : Int) + 20 ≤ 700) by omega)] at hm
    exact ⟨_, Ca.deep hm (by omega), up2_same _ _ _ _, fR_0⟩
end
end
