/-! ===== Integer.bitCount counts bits ===== -/
noncomputable section
def uN (x : Int) : Nat := (bv x).toNat
theorem uN_lt (x : Int) : uN x < 4294967296 := (bv x).isLt
theorem uN_and (x y : Int) : uN (p_and x y) = uN x &&& uN y := by unfold uN; rw [bv_and, BitVec.toNat_and]
theorem uN_add (x y : Int) : uN (p_add x y) = (uN x + uN y) % 4294967296 := by
  have g : bv (p_add x y) = bv x + bv y := toInt_bv _
  unfold uN
  rw [g, BitVec.toNat_add]
theorem uN_sub (x y : Int) : uN (p_sub x y) = (4294967296 - uN y + uN x) % 4294967296 := by
  have g : bv (p_sub x y) = bv x - bv y := toInt_bv _
  unfold uN
  rw [g, BitVec.toNat_sub]
theorem ush_amt : ∀ n : Fin 32, (UInt32.mod ((p_I (n.val : Int)).toUInt32 &&& Int32.toUInt32 31) 32).toBitVec.toNat = n.val := by decide
theorem uN_ushr (x : Int) (n : Nat) (hn : n < 32) : uN (p_ushr x (n : Int)) = uN x / 2 ^ n := by
  have g : bv (p_ushr x (n : Int)) = bv x >>> (UInt32.mod ((p_I (n : Int)).toUInt32 &&& Int32.toUInt32 31) 32).toBitVec := toInt_bv _
  have e := ush_amt ⟨n, hn⟩
  dsimp only at e
  unfold uN
  rw [g, BitVec.ushiftRight_eq', e, BitVec.toNat_ushiftRight, Nat.shiftRight_eq_div_pow]
theorem land16 {r s q t : Nat} (hr : r < 16) (hs : s < 16) : (r + 16 * q) &&& (s + 16 * t) = (r &&& s) + 16 * (q &&& t) := by
  have h1 : ((r + 16 * q) &&& (s + 16 * t)) % 2 ^ 4 = ((r + 16 * q) % 2 ^ 4) &&& ((s + 16 * t) % 2 ^ 4) := Nat.and_mod_two_pow
  have h2 : ((r + 16 * q) &&& (s + 16 * t)) / 2 ^ 4 = ((r + 16 * q) / 2 ^ 4) &&& ((s + 16 * t) / 2 ^ 4) := Nat.and_div_two_pow
  have e1 : (r + 16 * q) % 2 ^ 4 = r := by omega
  have e2 : (s + 16 * t) % 2 ^ 4 = s := by omega
  have e3 : (r + 16 * q) / 2 ^ 4 = q := by omega
  have e4 : (s + 16 * t) / 2 ^ 4 = t := by omega
  rw [e1, e2] at h1
  rw [e3, e4] at h2
  omega
def d8 (a0 a1 a2 a3 a4 a5 a6 a7 : Nat) : Nat := a0 + 16 * (a1 + 16 * (a2 + 16 * (a3 + 16 * (a4 + 16 * (a5 + 16 * (a6 + 16 * (a7 + 16 * 0)))))))
theorem land8 {a0 a1 a2 a3 a4 a5 a6 a7 b0 b1 b2 b3 b4 b5 b6 b7 : Nat} (h0 : a0 < 16 ∧ b0 < 16) (h1 : a1 < 16 ∧ b1 < 16) (h2 : a2 < 16 ∧ b2 < 16) (h3 : a3 < 16 ∧ b3 < 16) (h4 : a4 < 16 ∧ b4 < 16) (h5 : a5 < 16 ∧ b5 < 16) (h6 : a6 < 16 ∧ b6 < 16) (h7 : a7 < 16 ∧ b7 < 16) : d8 a0 a1 a2 a3 a4 a5 a6 a7 &&& d8 b0 b1 b2 b3 b4 b5 b6 b7 = d8 (a0 &&& b0) (a1 &&& b1) (a2 &&& b2) (a3 &&& b3) (a4 &&& b4) (a5 &&& b5) (a6 &&& b6) (a7 &&& b7) := by
  unfold d8
  rw [land16 h0.1 h0.2, land16 h1.1 h1.2, land16 h2.1 h2.2, land16 h3.1 h3.2, land16 h4.1 h4.2, land16 h5.1 h5.2, land16 h6.1 h6.2, land16 h7.1 h7.2, Nat.and_zero]
/-- bits of a figure of 16 -/
def pcn (d : Nat) : Nat := (d - (d / 2 &&& 5)) % 4 + (d - (d / 2 &&& 5)) / 4
theorem m5 {d e : Nat} (hd : d < 16) (he : e < 2) : (d / 2 + 8 * e) &&& 5 = d / 2 &&& 5 := by
  have : ∀ (d : Fin 16) (e : Fin 2), (d.val / 2 + 8 * e.val) &&& 5 = d.val / 2 &&& 5 := by decide
  exact this ⟨d, hd⟩ ⟨e, he⟩
theorem m3 {d e : Nat} (hd : d < 16) (he : e < 4) : (d / 4 + 4 * e) &&& 3 = d / 4 := by
  have : ∀ (d : Fin 16) (e : Fin 4), (d.val / 4 + 4 * e.val) &&& 3 = d.val / 4 := by decide
  exact this ⟨d, hd⟩ ⟨e, he⟩
theorem m3' {d : Nat} (hd : d < 16) : d &&& 3 = d % 4 := by
  have : ∀ (d : Fin 16), d.val &&& 3 = d.val % 4 := by decide
  exact this ⟨d, hd⟩
theorem m15 {d : Nat} (hd : d < 16) : d &&& 15 = d := by
  have : ∀ (d : Fin 16), d.val &&& 15 = d.val := by decide
  exact this ⟨d, hd⟩
theorem a5_le {d : Nat} (hd : d < 16) : (d / 2 &&& 5) ≤ d := by
  have : ∀ (d : Fin 16), (d.val / 2 &&& 5) ≤ d.val := by decide
  exact this ⟨d, hd⟩
theorem pcn_bits {d : Nat} (hd : d < 16) : pcn d = d % 2 + d / 2 % 2 + d / 4 % 2 + d / 8 % 2 := by
  have : ∀ (d : Fin 16), pcn d.val = d.val % 2 + d.val / 2 % 2 + d.val / 4 % 2 + d.val / 8 % 2 := by decide
  exact this ⟨d, hd⟩
theorem bc_main {N : Nat} {d0 d1 d2 d3 d4 d5 d6 d7 : Nat} (h0 : d0 < 16) (h1 : d1 < 16) (h2 : d2 < 16) (h3 : d3 < 16) (h4 : d4 < 16) (h5 : d5 < 16) (h6 : d6 < 16) (h7 : d7 < 16) (hN : N = d8 d0 d1 d2 d3 d4 d5 d6 d7) : (4294967296 - (N / 2 ^ 1 &&& 1431655765) + N) % 4294967296 = d8 (d0 - (d0 / 2 &&& 5)) (d1 - (d1 / 2 &&& 5)) (d2 - (d2 / 2 &&& 5)) (d3 - (d3 / 2 &&& 5)) (d4 - (d4 / 2 &&& 5)) (d5 - (d5 / 2 &&& 5)) (d6 - (d6 / 2 &&& 5)) (d7 - (d7 / 2 &&& 5)) := by
  have e1 : N / 2 ^ 1 = d8 (d0 / 2 + 8 * (d1 % 2)) (d1 / 2 + 8 * (d2 % 2)) (d2 / 2 + 8 * (d3 % 2)) (d3 / 2 + 8 * (d4 % 2)) (d4 / 2 + 8 * (d5 % 2)) (d5 / 2 + 8 * (d6 % 2)) (d6 / 2 + 8 * (d7 % 2)) (d7 / 2 + 8 * 0) := by rw [hN]; unfold d8; omega
  have e2 : (1431655765 : Nat) = d8 5 5 5 5 5 5 5 5 := by decide
  have e3 : N / 2 ^ 1 &&& 1431655765 = d8 (d0 / 2 &&& 5) (d1 / 2 &&& 5) (d2 / 2 &&& 5) (d3 / 2 &&& 5) (d4 / 2 &&& 5) (d5 / 2 &&& 5) (d6 / 2 &&& 5) (d7 / 2 &&& 5) := by
    rw [e1, e2, land8 (by omega) (by omega) (by omega) (by omega) (by omega) (by omega) (by omega) (by omega), m5 h0 (by omega), m5 h1 (by omega), m5 h2 (by omega), m5 h3 (by omega), m5 h4 (by omega), m5 h5 (by omega), m5 h6 (by omega), m5 h7 (by omega)]
  rw [e3, hN]
  have a0 := a5_le h0
  have a1 := a5_le h1
  have a2 := a5_le h2
  have a3 := a5_le h3
  have a4 := a5_le h4
  have a5 := a5_le h5
  have a6 := a5_le h6
  have a7 := a5_le h7
  unfold d8
  omega
theorem bc_two {e0 e1 e2 e3 e4 e5 e6 e7 : Nat} (h0 : e0 < 16) (h1 : e1 < 16) (h2 : e2 < 16) (h3 : e3 < 16) (h4 : e4 < 16) (h5 : e5 < 16) (h6 : e6 < 16) (h7 : e7 < 16) : ((d8 e0 e1 e2 e3 e4 e5 e6 e7 &&& 858993459) + (d8 e0 e1 e2 e3 e4 e5 e6 e7 / 2 ^ 2 &&& 858993459)) % 4294967296 = d8 (e0 % 4 + e0 / 4) (e1 % 4 + e1 / 4) (e2 % 4 + e2 / 4) (e3 % 4 + e3 / 4) (e4 % 4 + e4 / 4) (e5 % 4 + e5 / 4) (e6 % 4 + e6 / 4) (e7 % 4 + e7 / 4) := by
  have g1 : d8 e0 e1 e2 e3 e4 e5 e6 e7 / 2 ^ 2 = d8 (e0 / 4 + 4 * (e1 % 4)) (e1 / 4 + 4 * (e2 % 4)) (e2 / 4 + 4 * (e3 % 4)) (e3 / 4 + 4 * (e4 % 4)) (e4 / 4 + 4 * (e5 % 4)) (e5 / 4 + 4 * (e6 % 4)) (e6 / 4 + 4 * (e7 % 4)) (e7 / 4 + 4 * 0) := by unfold d8; omega
  have g2 : (858993459 : Nat) = d8 3 3 3 3 3 3 3 3 := by decide
  rw [g1, g2, land8 (by omega) (by omega) (by omega) (by omega) (by omega) (by omega) (by omega) (by omega), land8 (by omega) (by omega) (by omega) (by omega) (by omega) (by omega) (by omega) (by omega), m3 h0 (by omega), m3 h1 (by omega), m3 h2 (by omega), m3 h3 (by omega), m3 h4 (by omega), m3 h5 (by omega), m3 h6 (by omega), m3 h7 (by omega), m3' h0, m3' h1, m3' h2, m3' h3, m3' h4, m3' h5, m3' h6, m3' h7]
  unfold d8
  omega
theorem bc_three {c0 c1 c2 c3 c4 c5 c6 c7 : Nat} (h0 : c0 ≤ 4) (h1 : c1 ≤ 4) (h2 : c2 ≤ 4) (h3 : c3 ≤ 4) (h4 : c4 ≤ 4) (h5 : c5 ≤ 4) (h6 : c6 ≤ 4) (h7 : c7 ≤ 4) : ((d8 c0 c1 c2 c3 c4 c5 c6 c7 + d8 c0 c1 c2 c3 c4 c5 c6 c7 / 2 ^ 4) % 4294967296) &&& 252645135 = d8 (c0 + c1) 0 (c2 + c3) 0 (c4 + c5) 0 (c6 + c7) 0 := by
  have g1 : (d8 c0 c1 c2 c3 c4 c5 c6 c7 + d8 c0 c1 c2 c3 c4 c5 c6 c7 / 2 ^ 4) % 4294967296 = d8 (c0 + c1) (c1 + c2) (c2 + c3) (c3 + c4) (c4 + c5) (c5 + c6) (c6 + c7) c7 := by unfold d8; omega
  have g2 : (252645135 : Nat) = d8 15 0 15 0 15 0 15 0 := by decide
  rw [g1, g2, land8 (by omega) (by omega) (by omega) (by omega) (by omega) (by omega) (by omega) (by omega), m15 (by omega), m15 (by omega), m15 (by omega), m15 (by omega), Nat.and_zero, Nat.and_zero, Nat.and_zero, Nat.and_zero]
theorem bc_five {b0 b1 b2 b3 : Nat} (h0 : b0 ≤ 8) (h1 : b1 ≤ 8) (h2 : b2 ≤ 8) (h3 : b3 ≤ 8) : ((((d8 b0 0 b1 0 b2 0 b3 0 + d8 b0 0 b1 0 b2 0 b3 0 / 2 ^ 8) % 4294967296) + ((d8 b0 0 b1 0 b2 0 b3 0 + d8 b0 0 b1 0 b2 0 b3 0 / 2 ^ 8) % 4294967296) / 2 ^ 16) % 4294967296) &&& 63 = b0 + b1 + b2 + b3 := by
  have g : ∀ n : Nat, n &&& 63 = n % 64 := fun n => Nat.and_two_pow_sub_one_eq_mod n 6
  have z : d8 b0 0 b1 0 b2 0 b3 0 = b0 + 256 * b1 + 65536 * b2 + 16777216 * b3 := by unfold d8; omega
  rw [g, z]
  have z1 : (b0 + 256 * b1 + 65536 * b2 + 16777216 * b3) / 2 ^ 8 = b1 + 256 * b2 + 65536 * b3 := by omega
  rw [z1]
  have z2 : (b0 + 256 * b1 + 65536 * b2 + 16777216 * b3 + (b1 + 256 * b2 + 65536 * b3)) % 4294967296 = (b0 + b1) + 256 * (b1 + b2) + 65536 * (b2 + b3) + 16777216 * b3 := by omega
  rw [z2]
  have z3 : ((b0 + b1) + 256 * (b1 + b2) + 65536 * (b2 + b3) + 16777216 * b3) / 2 ^ 16 = (b2 + b3) + 256 * b3 := by omega
  rw [z3]
  omega
def smN (g : Nat → Nat) : Nat → Nat
  | 0 => 0
  | n + 1 => smN g n + g n
theorem quad (N n : Nat) : smN (fun i => N / 2 ^ i % 2) (n + 4) = smN (fun i => N / 2 ^ i % 2) n + pcn (N / 2 ^ n % 16) := by
  show smN (fun i => N / 2 ^ i % 2) n + N / 2 ^ n % 2 + N / 2 ^ (n + 1) % 2 + N / 2 ^ (n + 2) % 2 + N / 2 ^ (n + 3) % 2 = _
  have e1 : N / 2 ^ (n + 1) = N / 2 ^ n / 2 := by rw [Nat.div_div_eq_div_mul, Nat.pow_add]
  have e2 : N / 2 ^ (n + 2) = N / 2 ^ n / 4 := by rw [Nat.div_div_eq_div_mul, Nat.pow_add]
  have e3 : N / 2 ^ (n + 3) = N / 2 ^ n / 8 := by rw [Nat.div_div_eq_div_mul, Nat.pow_add]
  rw [e1, e2, e3, pcn_bits (by omega)]
  generalize N / 2 ^ n = q
  omega
theorem bt_div (x : Int) {i : Nat} (hi : i < 32) : (if bt x i then (1 : Int) else 0) = ((uN x / 2 ^ i % 2 : Nat) : Int) := by
  have e : bt x i = (uN x).testBit i := rfl
  rw [e, Nat.testBit_eq_decide_div_mod_eq]
  by_cases h : uN x / 2 ^ i % 2 = 1
  · rw [h]; rfl
  · rw [decide_eq_false h]
    have : uN x / 2 ^ i % 2 = 0 := by omega
    rw [this]; rfl
theorem bcn_div (x : Int) : ∀ {n : Nat}, n ≤ 32 → bcn x n = ((smN (fun i => uN x / 2 ^ i % 2) n : Nat) : Int)
  | 0, _ => rfl
  | n + 1, h => by
    show bcn x n + _ = ((smN _ n + uN x / 2 ^ n % 2 : Nat) : Int)
    rw [bcn_div x (n := n) (by omega), bt_div x (by omega)]
    rfl
theorem f_bc (x : Int) : f_J6_bitCount_0f7a4 x = bcn x 32 := by
  obtain ⟨N, hN⟩ : ∃ N, N = uN x := ⟨_, rfl⟩
  have hlt : N < 4294967296 := by rw [hN]; exact uN_lt x
  have hd : N = d8 (N % 16) (N / 16 % 16) (N / 256 % 16) (N / 4096 % 16) (N / 65536 % 16) (N / 1048576 % 16) (N / 16777216 % 16) (N / 268435456 % 16) := by unfold d8; omega
  have hu : uN (f_J6_bitCount_0f7a4 x) = pcn (N % 16) + pcn (N / 16 % 16) + pcn (N / 256 % 16) + pcn (N / 4096 % 16) + pcn (N / 65536 % 16) + pcn (N / 1048576 % 16) + pcn (N / 16777216 % 16) + pcn (N / 268435456 % 16) := by
    obtain ⟨y1, hy1⟩ : ∃ y, y = p_sub x (p_and (p_ushr x 1) 1431655765) := ⟨_, rfl⟩
    obtain ⟨y2, hy2⟩ : ∃ y, y = p_add (p_and y1 858993459) (p_and (p_ushr y1 2) 858993459) := ⟨_, rfl⟩
    obtain ⟨y3, hy3⟩ : ∃ y, y = p_and (p_add y2 (p_ushr y2 4)) 252645135 := ⟨_, rfl⟩
    obtain ⟨y4, hy4⟩ : ∃ y, y = p_add y3 (p_ushr y3 8) := ⟨_, rfl⟩
    have hf : f_J6_bitCount_0f7a4 x = p_and (p_add y4 (p_ushr y4 16)) 63 := by rw [hy4, hy3, hy2, hy1]; rfl
    have l1 : uN 1431655765 = 1431655765 := by decide
    have l2 : uN 858993459 = 858993459 := by decide
    have l3 : uN 252645135 = 252645135 := by decide
    have l4 : uN 63 = 63 := by decide
    have lt : ∀ n : Nat, n % 16 < 16 := fun n => by omega
    have u0 : uN y1 = (4294967296 - (N / 2 ^ 1 &&& 1431655765) + N) % 4294967296 := by
      rw [hy1, uN_sub, uN_and, l1, show (1 : Int) = ((1 : Nat) : Int) from rfl, uN_ushr x 1 (by decide), ← hN]
    have u1 := u0.trans (bc_main (lt N) (lt (N / 16)) (lt (N / 256)) (lt (N / 4096)) (lt (N / 65536)) (lt (N / 1048576)) (lt (N / 16777216)) (lt (N / 268435456)) hd)
    have u2 : uN y2 = d8 (pcn (N % 16)) (pcn (N / 16 % 16)) (pcn (N / 256 % 16)) (pcn (N / 4096 % 16)) (pcn (N / 65536 % 16)) (pcn (N / 1048576 % 16)) (pcn (N / 16777216 % 16)) (pcn (N / 268435456 % 16)) := by
      rw [hy2, uN_add, uN_and, uN_and, l2, show (2 : Int) = ((2 : Nat) : Int) from rfl, uN_ushr y1 2 (by decide), u1]
      exact bc_two (by omega) (by omega) (by omega) (by omega) (by omega) (by omega) (by omega) (by omega)
    have p4 : ∀ n : Nat, n < 16 → pcn n ≤ 4 := fun n hn => by rw [pcn_bits hn]; omega
    have u3 := bc_three (p4 _ (lt N)) (p4 _ (lt (N / 16))) (p4 _ (lt (N / 256))) (p4 _ (lt (N / 4096))) (p4 _ (lt (N / 65536))) (p4 _ (lt (N / 1048576))) (p4 _ (lt (N / 16777216))) (p4 _ (lt (N / 268435456)))
    rw [← u2] at u3
    have u4 : uN y3 = ((uN y2 + uN y2 / 2 ^ 4) % 4294967296) &&& 252645135 := by
      rw [hy3, uN_and, uN_add, l3, show (4 : Int) = ((4 : Nat) : Int) from rfl, uN_ushr y2 4 (by decide)]
    have u3 := u4.trans u3
    have q := fun n => p4 (n % 16) (lt n)
    have q0 := q N
    have q1 := q (N / 16)
    have q2 := q (N / 256)
    have q3 := q (N / 4096)
    have q4 := q (N / 65536)
    have q5 := q (N / 1048576)
    have q6 := q (N / 16777216)
    have q7 := q (N / 268435456)
    rw [hf, uN_and, uN_add, l4, show (16 : Int) = ((16 : Nat) : Int) from rfl, uN_ushr y4 16 (by decide), hy4, uN_add, show (8 : Int) = ((8 : Nat) : Int) from rfl, uN_ushr y3 8 (by decide), u3, bc_five (by omega) (by omega) (by omega) (by omega)]
    omega
  have hb : bcn x 32 = ((uN (f_J6_bitCount_0f7a4 x) : Nat) : Int) := by
    rw [bcn_div x (Nat.le_refl 32), hu, ← hN]
    congr 1
    have h0 : smN (fun i => N / 2 ^ i % 2) 4 = 0 + pcn (N % 16) := by
      have := quad N 0
      rw [show N / 2 ^ 0 = N by rw [Nat.pow_zero, Nat.div_one]] at this
      exact this
    have h1 : smN (fun i => N / 2 ^ i % 2) 8 = smN (fun i => N / 2 ^ i % 2) 4 + pcn (N / 16 % 16) := quad N 4
    have h2 : smN (fun i => N / 2 ^ i % 2) 12 = smN (fun i => N / 2 ^ i % 2) 8 + pcn (N / 256 % 16) := quad N 8
    have h3 : smN (fun i => N / 2 ^ i % 2) 16 = smN (fun i => N / 2 ^ i % 2) 12 + pcn (N / 4096 % 16) := quad N 12
    have h4 : smN (fun i => N / 2 ^ i % 2) 20 = smN (fun i => N / 2 ^ i % 2) 16 + pcn (N / 65536 % 16) := quad N 16
    have h5 : smN (fun i => N / 2 ^ i % 2) 24 = smN (fun i => N / 2 ^ i % 2) 20 + pcn (N / 1048576 % 16) := quad N 20
    have h6 : smN (fun i => N / 2 ^ i % 2) 28 = smN (fun i => N / 2 ^ i % 2) 24 + pcn (N / 16777216 % 16) := quad N 24
    have h7 : smN (fun i => N / 2 ^ i % 2) 32 = smN (fun i => N / 2 ^ i % 2) 28 + pcn (N / 268435456 % 16) := quad N 28
    rw [h7, h6, h5, h4, h3, h2, h1, h0, Nat.zero_add]
  rw [hb]
  have hI : isI (f_J6_bitCount_0f7a4 x) := isI_and _ _
  have hle := bcn_le x 32
  rw [hb] at hle
  have this : (bv (f_J6_bitCount_0f7a4 x)).toNat = uN (f_J6_bitCount_0f7a4 x) := rfl
  have e := bv_toInt hI
  rw [BitVec.toInt_eq_toNat_cond, if_pos (by omega)] at e
  exact e.symm
theorem k_J6_bitCount_0f7a4 {d : Nat} {I : Nat → Nat → Int} {S : PS} {x0 : Int} : Ca d mJ6_bitCount_0f7a4 [vI x0] (I, S) (.inl (some (vI (bcn x0 32)))) (I, S) := by
  rw [← f_bc]
  exact c_J6_bitCount_0f7a4
end
