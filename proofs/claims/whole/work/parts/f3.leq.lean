/-! ===== a colouring is led below by both sides alike ===== -/
noncomputable section
theorem fc_all {R : Nat} (hR : R = 1 ∨ R = 2 ∨ R = 4 ∨ R = 6) : fcB R = true := by
  rcases hR with rfl | rfl | rfl | rfl
  · exact fcB1
  · exact fcB2
  · exact fcB4
  · exact fcB6
theorem lw_tg {r m q way gs : Nat} (hr : r = 5 ∨ r = 6 ∨ r = 7) (hm : m ∈ clN r) (hq : q < 3) : lwT (r : Int) (m : Int) (q : Int) (rnA (r : Int) (m : Int) (q : Int)) (fnG (way : Int) (rcN r m q : Int)) (rcN r m q : Int) (gs : Int) = (tgN r m q (fsN way (rcN r m q) gs) : Int) := by
  have hp := pw_le hr
  have hl := cl_lt hr hm
  have hR := rc_cases hr hm hq
  unfold lwT fsN
  obtain ⟨s, h1, h2⟩ := rnO_nat (fnG (way : Int) (rcN r m q : Int)) (gs : Int) (n := rcN r m q) (by omega)
  rw [Int.toNat_natCast, Int.toNat_natCast, h2, Int.toNat_natCast]
  exact tg_nat (by omega) (by omega) hq (fun k hk => ra_nat (by omega) (by omega) hk)
/-- every switch leads to a good code again -/
theorem ldG_ok {r m : Nat} (hr : r = 5 ∨ r = 6 ∨ r = 7) (hm : m ∈ clN r) : ldG (r : Int) ((4 ^ r : Nat) : Int) (m : Int) := by
  intro q way gs hq hw hf hgs hin
  have hp := pw_le hr
  have hl := cl_lt hr hm
  have hRc : rnC (r : Int) (m : Int) (q : Int) = (rcN r m q : Int) := rc_nat (by omega) (by omega)
  rw [hRc, lw_tg hr hm hq]
  have hin := tg_in (fsN way (rcN r m q) gs) hr hm hq
  have := cl_lt hr hin
  exact ⟨⟨by omega, by omega⟩, (good_in hr this).mpr hin⟩
/-- whether what a set of runs makes has a level below -/
def lvP (r m q : Nat) (f : Nat → Int) (lvl : Int) (s : Nat) : Bool := decide (f (ixG (r : Int) (tgN r m q s)).toNat ≠ -1 ∧ f (ixG (r : Int) (tgN r m q s)).toNat < lvl)
theorem lq_eq {r m q N : Nat} {f bc : Nat → Int} {sw : Nat → Nat → Int} {at0 lvl : Int} (hr : r = 5 ∨ r = 6 ∨ r = 7) (hm : m ∈ clN r) (hq : q < 3) (hN : N = lnC r) (hsw : ∀ no j : Nat, 1 ≤ no → no < 4 → sw no j = (swE no j : Int)) (hbc : ∀ s : Nat, s < swM (rcN r m q) → bc ((at0 * 16) + (s : Int)).toNat = ixG (r : Int) (tgN r m q (4 * s))) (hf : ∀ i, i < N → -1 ≤ f i) : allB (lbR bc f (sw (lbNo (rcN r m q : Int))) at0 lvl (lbPer (rcN r m q : Int))) (lbRows (rcN r m q : Int)) = ldQ (r : Int) (m : Int) f (ixG (r : Int)) 0 lvl q := by
  have hp := pw_le hr
  have hl := cl_lt hr hm
  obtain ⟨h0, _⟩ := chkM_all hr hm
  have hRc : rnC (r : Int) (m : Int) (q : Int) = (rcN r m q : Int) := rc_nat (by omega) (by omega)
  have hR := rc_cases hr hm hq
  have hfc := fc_all hR
  have hT : ∀ s : Nat, ∃ i, i < N ∧ ixG (r : Int) (tgN r m q s) = (i : Int) := fun s => by
    obtain ⟨i, hi, e⟩ := mem_cd (tg_in s hr hm hq)
    exact ⟨i, by omega, by rw [← e]; exact ix_at hr hi⟩
  have hnr : ∀ s : Nat, lvP r m q f lvl (nrN (rcN r m q) s) = lvP r m q f lvl s := fun s => by
    unfold lvP
    rw [tg_nr (by omega) hq (fz_zero h0)]
  unfold ldQ
  rw [hRc]
  have hW : ∀ way : Nat, ldW (r : Int) (m : Int) (q : Int) f (ixG (r : Int)) 0 lvl way = (!fnB (way : Int) (rcN r m q : Int) || anyB (fun gs => fkN way (rcN r m q) gs && lvP r m q f lvl (fsN way (rcN r m q) gs)) 128) := by
    intro way
    unfold ldW lwB
    rw [hRc]
    refine congrArg (fun b => (!fnB (way : Int) (rcN r m q : Int) || b)) ?_
    refine anyB_congr (fun gs _ => ?_)
    unfold lwP fkN lvP
    rw [lw_tg hr hm hq, Int.toNat_natCast, Int.toNat_natCast]
    have : ∀ z : Int, ((96 : Int) * 0 + z).toNat = z.toNat := fun z => by congr 1; omega
    rw [this]
  rw [show ldW (r : Int) (m : Int) (q : Int) f (ixG (r : Int)) 0 lvl = fun way : Nat => (!fnB (way : Int) (rcN r m q : Int) || anyB (fun gs => fkN way (rcN r m q) gs && lvP r m q f lvl (fsN way (rcN r m q) gs)) 128) from funext hW]
  have hsM : ∀ k j : Nat, k < lbRows (rcN r m q : Int) → j < lbPer (rcN r m q : Int) → (1 ≤ lbNo (rcN r m q : Int) ∧ lbNo (rcN r m q : Int) < 4) ∧ swE (lbNo (rcN r m q : Int)) (k * lbPer (rcN r m q : Int) + j) < swM (rcN r m q) := by
    have q1 : ∀ R : Nat, (R = 1 ∨ R = 2 ∨ R = 4 ∨ R = 6) → (decide (1 ≤ lbNo (R : Int)) && decide (lbNo (R : Int) < 4) && allB (fun k => allB (fun j => decide (swE (lbNo (R : Int)) (k * lbPer (R : Int) + j) < swM R)) (lbPer (R : Int))) (lbRows (R : Int))) = true := by
      intro R hR
      rcases hR with rfl | rfl | rfl | rfl <;> decide
    have q2 := q1 _ hR
    rw [Bool.and_eq_true, Bool.and_eq_true] at q2
    intro k j hk hj
    exact ⟨⟨of_decide_eq_true q2.1.1, of_decide_eq_true q2.1.2⟩, of_decide_eq_true (allB_iff.mp (allB_iff.mp q2.2 k hk) j hj)⟩
  have hL : ∀ k j : Nat, k < lbRows (rcN r m q : Int) → j < lbPer (rcN r m q : Int) → lbT bc f at0 lvl (sw (lbNo (rcN r m q : Int)) (k * lbPer (rcN r m q : Int) + j)) = lvP r m q f lvl (4 * swE (lbNo (rcN r m q : Int)) (k * lbPer (rcN r m q : Int) + j)) := by
    intro k j hk hj
    obtain ⟨hno, hs⟩ := hsM k j hk hj
    unfold lbT lvP
    rw [hsw _ _ hno.1 hno.2, hbc _ hs]
    obtain ⟨i, hi, e⟩ := hT (4 * swE (lbNo (rcN r m q : Int)) (k * lbPer (rcN r m q : Int) + j))
    rw [e, Int.toNat_natCast]
    have := hf i hi
    exact decide_eq_decide.mpr ⟨fun q => ⟨by omega, q.2.2⟩, fun q => ⟨by omega, by omega, q.2⟩⟩
  unfold fcB at hfc
  obtain ⟨c1, c2⟩ := Bool.and_eq_true_iff.mp hfc
  cases hA : allB (lbR bc f (sw (lbNo (rcN r m q : Int))) at0 lvl (lbPer (rcN r m q : Int))) (lbRows (rcN r m q : Int)) with
  | true =>
    refine (allB_iff.mpr (fun way hway => ?_)).symm
    show (!fnB (way : Int) (rcN r m q : Int) || _) = true
    cases hfb : fnB (way : Int) (rcN r m q : Int) with
    | false => rfl
    | true =>
      have c1 := allB_iff.mp c1 way hway
      rw [hfb] at c1
      obtain ⟨k, hk, hfm⟩ := anyB_iff.mp (show anyB (fmB (rcN r m q) way) (lbRows (rcN r m q : Int)) = true from c1)
      obtain ⟨j, hj, hlv⟩ := anyB_iff.mp (allB_iff.mp hA k hk)
      rw [hL k j hk hj] at hlv
      obtain ⟨gs, hgs, hg2⟩ := anyB_iff.mp (allB_iff.mp (Bool.and_eq_true_iff.mp hfm).2 j hj)
      obtain ⟨hg3, hg4⟩ := Bool.and_eq_true_iff.mp hg2
      rw [Bool.not_true, Bool.false_or]
      refine anyB_yes hgs ?_
      show (fkN way (rcN r m q) gs && lvP r m q f lvl (fsN way (rcN r m q) gs)) = true
      rw [hg3, ← hnr, beq_iff.mp hg4, hlv]; rfl
  | false =>
    refine Eq.symm ?_
    cases hB : allB (fun way : Nat => (!fnB (way : Int) (rcN r m q : Int) || anyB (fun gs => fkN way (rcN r m q) gs && lvP r m q f lvl (fsN way (rcN r m q) gs)) 128)) (pwI 4 (((rcN r m q : Int) + 1) / 2).toNat).toNat with
    | false => rfl
    | true =>
      have : allB (lbR bc f (sw (lbNo (rcN r m q : Int))) at0 lvl (lbPer (rcN r m q : Int))) (lbRows (rcN r m q : Int)) = true := by
        refine allB_iff.mpr (fun k hk => ?_)
        obtain ⟨way, hway, hw2⟩ := anyB_iff.mp (allB_iff.mp c2 k hk)
        obtain ⟨hfb, hfm⟩ := Bool.and_eq_true_iff.mp hw2
        have hB : (!fnB (way : Int) (rcN r m q : Int) || anyB (fun gs => fkN way (rcN r m q) gs && lvP r m q f lvl (fsN way (rcN r m q) gs)) 128) = true := allB_iff.mp hB way hway
        rw [hfb, Bool.not_true, Bool.false_or] at hB
        obtain ⟨gs, hgs, hg⟩ := anyB_iff.mp hB
        obtain ⟨hg1, hg2⟩ := Bool.and_eq_true_iff.mp hg
        have h1 := allB_iff.mp (Bool.and_eq_true_iff.mp hfm).1 gs hgs
        rw [hg1] at h1
        obtain ⟨j, hj, hj2⟩ := anyB_iff.mp (show anyB (fun j => Nat.beq (nrN (rcN r m q) (fsN way (rcN r m q) gs)) (4 * swE (lbNo (rcN r m q : Int)) (k * lbPer (rcN r m q : Int) + j))) (lbPer (rcN r m q : Int)) = true from h1)
        refine anyB_yes hj ?_
        show lbT bc f at0 lvl (sw (lbNo (rcN r m q : Int)) (k * lbPer (rcN r m q : Int) + j)) = true
        rw [hL k j hk hj, ← beq_iff.mp hj2, hnr]
        exact hg2
      rw [this] at hA
      cases hA
/-- the ring's tables as they stand -/
def rgT (r : Nat) (rcn bc : Nat → Int) (sw : Nat → Nat → Int) : Prop := (∀ no j : Nat, 1 ≤ no → no < 4 → sw no j = (swE no j : Int)) ∧ ∀ c q : Nat, c < lnC r → q < 3 → rcn (3 * c + q) = (rcN r (cdN r c) q : Int) ∧ ∀ s : Nat, s < swM (rcN r (cdN r c) q) → bc (16 * (3 * c + q) + s) = ixG (r : Int) (tgN r (cdN r c) q (4 * s))
theorem led_eq {r : Nat} {rcn bc : Nat → Int} {sw : Nat → Nat → Int} {lvl : Int} {f g : Nat → Int} {c : Nat} (hr : r = 5 ∨ r = 6 ∨ r = 7) (hT : rgT r rcn bc sw) (hc : c < lnC r) (hfg : ∀ i, i < lnC r → f i = g i) (hf : ∀ i, i < lnC r → -1 ≤ f i) : ledC rcn bc sw lvl f c = ldL (r : Int) (fun i => (cdN r i : Int)) lvl g c := by
  have hm := cd_mem hc
  have hp := pw_le hr
  unfold ldL
  have e1 : ldB (r : Int) (cdN r c : Int) g (ixG (r : Int)) 0 lvl = ldB (r : Int) (cdN r c : Int) f (ixG (r : Int)) 0 lvl := by
    refine ldB_congr (ldG_ok hr hm) (by omega) (fun T h1 h2 h3 => ?_)
    obtain ⟨t, rfl⟩ := Int.eq_ofNat_of_zero_le h1
    have ht : t < 4 ^ r := by omega
    obtain ⟨i, hi, e⟩ := mem_cd ((good_in hr ht).mp h3)
    rw [Int.toNat_natCast, ← e, ix_at hr hi, show ((96 : Int) * 0 + (i : Int)).toNat = i by omega]
    exact (hfg i hi).symm
  rw [e1]
  unfold ledC ldB
  refine anyB_congr (fun q hq => ?_)
  obtain ⟨h1, h2⟩ := hT.2 c q hc hq
  have e2 : (((c : Int) * 3) + (q : Int)).toNat = 3 * c + q := by omega
  unfold lbA
  rw [e2, h1]
  exact lq_eq hr hm hq rfl hT.1 (fun s hs => by rw [show ((((c : Int) * 3) + (q : Int)) * 16 + (s : Int)).toNat = 16 * (3 * c + q) + s by omega]; exact h2 s hs) hf
theorem lvR_cg {led led' : (Nat → Int) → Nat → Bool} {rd : Int} {N : Nat} (hrd : 1 ≤ rd) (hl : ∀ f g c, c < N → (∀ i, i < N → f i = g i) → (∀ i, i < N → -1 ≤ f i) → led f c = led' g c) : ∀ {c : Nat} {f g : Nat → Int}, c ≤ N → (∀ i, i < N → f i = g i) → (∀ i, i < N → -1 ≤ f i) → (∀ i, i < N → lvR led rd c f i = lvR led' rd c g i) ∧ lvC led rd c f = lvC led' rd c g ∧ ∀ i, i < N → -1 ≤ lvR led rd c f i
  | 0, f, g, _, h, hn => ⟨h, rfl, hn⟩
  | c + 1, f, g, hc, h, hn => by
    obtain ⟨h1, h2, h3⟩ := lvR_cg hrd hl (c := c) (f := f) (g := g) (by omega) h hn
    have e1 := h1 c (by omega)
    have e2 := hl (lvR led rd c f) (lvR led' rd c g) c (by omega) h1 h3
    have u1 : lvR led rd (c + 1) f = if lvR led rd c f c = -1 ∧ led (lvR led rd c f) c = true then up1 (lvR led rd c f) c rd else lvR led rd c f := rfl
    have u2 : lvR led' rd (c + 1) g = if lvR led' rd c g c = -1 ∧ led' (lvR led' rd c g) c = true then up1 (lvR led' rd c g) c rd else lvR led' rd c g := rfl
    have u3 : lvC led rd (c + 1) f = (lvC led rd c f || decide (lvR led rd c f c = -1 ∧ led (lvR led rd c f) c = true)) := rfl
    have u4 : lvC led' rd (c + 1) g = (lvC led' rd c g || decide (lvR led' rd c g c = -1 ∧ led' (lvR led' rd c g) c = true)) := rfl
    rw [u1, u2, u3, u4, e1, e2, h2]
    refine ⟨fun i hi => ?_, rfl, fun i hi => ?_⟩
    · by_cases q : lvR led' rd c g c = -1 ∧ led' (lvR led' rd c g) c = true
      · rw [if_pos q, if_pos q]
        by_cases e : i = c
        · rw [e, up1_same, up1_same]
        · rw [up1_o _ e, up1_o _ e]; exact h1 i hi
      · rw [if_neg q, if_neg q]; exact h1 i hi
    · split
      · by_cases e : i = c
        · rw [e, up1_same]; omega
        · rw [up1_o _ e]; exact h3 i hi
      · exact h3 i hi
theorem lvF_cg {led led' : Int → (Nat → Int) → Nat → Bool} {N : Nat} (hl : ∀ rd f g c, 1 ≤ rd → c < N → (∀ i, i < N → f i = g i) → (∀ i, i < N → -1 ≤ f i) → led rd f c = led' rd g c) : ∀ {k : Nat} {rd : Int} {f g : Nat → Int}, 1 ≤ rd → (∀ i, i < N → f i = g i) → (∀ i, i < N → -1 ≤ f i) → (∀ i, i < N → lvF led N k rd f i = lvF led' N k rd g i) ∧ lvL led N k rd f = lvL led' N k rd g ∧ ∀ i, i < N → -1 ≤ lvF led N k rd f i
  | 0, _, _, _, _, h, hn => ⟨h, rfl, hn⟩
  | k + 1, rd, f, g, hrd, h, hn => by
    obtain ⟨h1, h2, h3⟩ := lvR_cg (led := led rd) (led' := led' rd) (rd := rd) (N := N) hrd (fun f g c hc e w => hl rd f g c hrd hc e w) (c := N) (Nat.le_refl N) h hn
    have u1 : lvF led N (k + 1) rd f = if lvC (led rd) rd N f = true then lvF led N k (rd + 1) (lvR (led rd) rd N f) else lvR (led rd) rd N f := rfl
    have u2 : lvF led' N (k + 1) rd g = if lvC (led' rd) rd N g = true then lvF led' N k (rd + 1) (lvR (led' rd) rd N g) else lvR (led' rd) rd N g := rfl
    have u3 : lvL led N (k + 1) rd f = if lvC (led rd) rd N f = true then lvL led N k (rd + 1) (lvR (led rd) rd N f) else rd - 1 := rfl
    have u4 : lvL led' N (k + 1) rd g = if lvC (led' rd) rd N g = true then lvL led' N k (rd + 1) (lvR (led' rd) rd N g) else rd - 1 := rfl
    rw [u1, u2, u3, u4, h2]
    obtain ⟨g1, g2, g3⟩ := lvF_cg hl (k := k) (rd := rd + 1) (by omega) h1 h3
    by_cases q : lvC (led' rd) rd N g = true
    · rw [if_pos q, if_pos q, if_pos q, if_pos q]; exact ⟨g1, g2, g3⟩
    · rw [if_neg q, if_neg q, if_neg q, if_neg q]; exact ⟨h1, rfl, h3⟩
end
