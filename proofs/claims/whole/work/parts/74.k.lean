/-! ===== charges as sums over neighbours, off the heap ===== -/
noncomputable section
/-- the charge by what is sent and the degrees round about -/
def chN (sn : Int → Int → Int → Int → Int) (f : Nat → Int) (dg : Int) : Nat → Int
  | 0 => 10 * (6 - dg)
  | k + 1 => chN sn f dg k + (sn (f k) dg (f (((k : Int) + dg - 1) % dg).toNat) (f (((k : Int) + 1) % dg).toNat) - sn dg (f k) (f (((k : Int) + dg - 1) % dg).toNat) (f (((k : Int) + 1) % dg).toNat))
theorem chN_congr {sn sn' : Int → Int → Int → Int → Int} {f f' : Nat → Int} {dg : Int} (hd : 1 ≤ dg) (hs : ∀ x y z w, sn x y z w = sn' x y z w) (hf : ∀ k : Nat, (k : Int) < dg → f k = f' k) : ∀ n : Nat, (n : Int) ≤ dg → chN sn f dg n = chN sn' f' dg n
  | 0, _ => rfl
  | k + 1, h => by
    have h1 : 0 ≤ ((k : Int) + dg - 1) % dg := Int.emod_nonneg _ (by omega)
    have h2 : ((k : Int) + dg - 1) % dg < dg := Int.emod_lt_of_pos _ (by omega)
    have h3 : 0 ≤ ((k : Int) + 1) % dg := Int.emod_nonneg _ (by omega)
    have h4 : ((k : Int) + 1) % dg < dg := Int.emod_lt_of_pos _ (by omega)
    unfold chN
    rw [chN_congr hd hs hf k (by omega), hs, hs, hf k (by omega), hf _ (show (((((k : Int) + dg - 1) % dg).toNat : Nat) : Int) < dg by omega), hf _ (show (((((k : Int) + 1) % dg).toNat : Nat) : Int) < dg by omega)]
section
variable {d : Nat} {I : Nat → Nat → Int} {S : PS}
theorem snM_up (I : Nat → Nat → Int) (f : Nat → Int) (b x y z w : Int) : ∀ n : Nat, snM (up1 I 177 f) b x y z w n = snM I b x y z w n
  | 0 => rfl
  | n + 1 => by
    unfold snM
    rw [snM_up I f b x y z w n]
    rfl
def sM (I : Nat → Nat → Int) (b x y z w : Int) : Int := snM I b x y z w ((I 156 14)).toNat
theorem chB_up (I : Nat → Nat → Int) (f : Nat → Int) (b dg : Int) : ∀ n : Nat, chB (up1 I 177 f) b dg n = chN (sM I b) f dg n
  | 0 => rfl
  | n + 1 => by
    show chB (up1 I 177 f) b dg n + chD (up1 I 177 f) b dg n = _
    rw [chB_up I f b dg n]
    unfold chD
    rw [snM_up, snM_up]
    rfl
/-- degrees of a spot's neighbours -/
def nbD (I : Nat → Nat → Int) (s : Int) (j : Nat) : Int := I 161 (10 * (I 161 (((10 * s) + 1) + (j : Int)).toNat)).toNat
/-- the charge behind of a spot -/
def mcs (I : Nat → Nat → Int) (b s : Int) : Int := chN (sM I b) (nbD I s) (I 161 (10 * s).toNat) (I 161 (10 * s).toNat).toNat
theorem mcs_up (I : Nat → Nat → Int) (f : Nat → Int) (b s : Int) : mcs (up1 I 177 f) b s = mcs I b s := by
  unfold mcs
  by_cases h : 1 ≤ (I 161 (10 * s).toNat)
  · exact chN_congr (sn := sM (up1 I 177 f) b) (f := nbD (up1 I 177 f) s) (f' := nbD I s) (dg := (I 161 (10 * s).toNat)) h (fun x y z w => snM_up I f b x y z w _) (fun k _ => rfl) ((I 161 (10 * s).toNat)).toNat (by omega)
  · have h1 : (I 161 (10 * s).toNat).toNat = 0 := by omega
    show chN (sM (up1 I 177 f) b) (nbD (up1 I 177 f) s) (I 161 (10 * s).toNat) (I 161 (10 * s).toNat).toNat = chN (sM I b) (nbD I s) (I 161 (10 * s).toNat) (I 161 (10 * s).toNat).toNat
    rw [h1]
    rfl
/-- spots and neighbours lie in their ranges -/
def mSp (I : Nat → Nat → Int) : Prop := (0 ≤ (I 156 15) ∧ (I 156 15) ≤ 12) ∧ ∀ s : Int, 0 ≤ s → s < (I 156 15) → (1 ≤ (I 161 (10 * s).toNat) ∧ (I 161 (10 * s).toNat) ≤ 9) ∧ ∀ k : Nat, (k : Int) < (I 161 (10 * s).toNat) → 0 ≤ I 161 (((10 * s) + 1) + (k : Int)).toNat ∧ I 161 (((10 * s) + 1) + (k : Int)).toNat < 12
/-- rules and amounts lie in their ranges -/
def mRl (I : Nat → Nat → Int) (b : Int) : Prop := (0 ≤ (I 156 14) ∧ (I 156 14) ≤ 6) ∧ ∀ k : Nat, (k : Int) < (I 156 14) → 0 ≤ I 178 (b + 12 + (k : Int)).toNat ∧ I 178 (b + 12 + (k : Int)).toNat ≤ 99
theorem k_X12_behind {x1 x2 : Int} (hl0 : LyX12 S) (hb : x1 = 0 ∨ x1 = 18) (hm : mSp I) (hr : mRl I x1) (hs : 0 ≤ x2 ∧ x2 < (I 156 15)) : Ca (d + 4) mX12_behind [vR (some (22, 0, 156)), vI x1, vI x2] (I, S) (.inl (some (vI (mcs I x1 x2)))) (lnI I x2, S) := by
  have h1 := hm.2 x2 hs.1 hs.2
  have h2 := hm.1
  have e : chB (lnI I x2) x1 (I 161 (10 * x2).toNat) (I 161 (10 * x2).toNat).toNat = mcs I x1 x2 := by
    unfold lnI
    rw [chB_up]
    exact chN_congr h1.1.1 (fun _ _ _ _ => rfl) (fun k hk => upTo_in (by omega)) _ (by omega)
  have h := c_X12_behind (d := d) (I := I) (S := S) (x1 := x1) (x2 := x2) hl0 (by omega) (by omega) h1.2 hb hr.1 hr.2 h1.1
  rw [e] at h
  exact h
theorem mSp_up {f : Nat → Int} (h : mSp I) : mSp (up1 I 177 f) := h
theorem mRl_up {b : Int} {f : Nat → Int} (h : mRl I b) : mRl (up1 I 177 f) b := h
theorem mcs_le {b s : Int} (hm : mSp I) (hr : mRl I b) (hs : 0 ≤ s ∧ s < (I 156 15)) : -10000 ≤ mcs I b s ∧ mcs I b s ≤ 10000 := by
  have h1 := hm.2 s hs.1 hs.2
  have e : chB (up1 I 177 (nbD I s)) b (I 161 (10 * s).toNat) (I 161 (10 * s).toNat).toNat = mcs I b s := chB_up I _ b _ _
  have := chB_le (I := up1 I 177 (nbD I s)) (b := b) (dg := (I 161 (10 * s).toNat)) hr.1 hr.2 (by omega) (I 161 (10 * s).toNat).toNat
  rw [e] at this
  omega
/-- the row of neighbours' degrees as it is left behind the first n spots -/
def scM (I : Nat → Nat → Int) : Nat → Nat → Int
  | 0 => I 177
  | k + 1 => upTo (scM I k) (nbD I k) 0 (I 161 (10 * (k : Int)).toNat).toNat
theorem lnI_sc (I : Nat → Nat → Int) (F : Nat → Int) (s : Int) : lnI (up1 I 177 F) s = up1 I 177 (upTo F (nbD I s) 0 (I 161 (10 * s).toNat).toNat) := by
  unfold lnI
  rw [up1_up1, up1_same]
  rfl
def caM (I : Nat → Nat → Int) (what : Int) : Nat → Int
  | 0 => 0
  | k + 1 => caM I what k + (if what = 0 then 10 * (6 - (I 161 (10 * (k : Int)).toNat)) else if what = 1 then mcs I 0 k else if 0 < mcs I 0 k then 1 else 0)
end
end
