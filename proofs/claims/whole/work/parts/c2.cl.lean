noncomputable section
def allR (f : Nat → Bool) : Nat → Nat → Bool
  | 0, lo => f lo
  | k + 1, lo => allR f k lo && allR f k (lo + 2 ^ k)
theorem allR_iff {f : Nat → Bool} : ∀ {k lo : Nat}, allR f k lo = true → ∀ i, lo ≤ i → i < lo + 2 ^ k → f i = true
  | 0, lo, h, i, h1, h2 => by
    have : i = lo := by omega
    rw [this]; exact h
  | k + 1, lo, h, i, h1, h2 => by
    obtain ⟨a, b⟩ := Bool.and_eq_true_iff.mp h
    have e : 2 ^ (k + 1) = 2 ^ k + 2 ^ k := by rw [Nat.pow_succ]; omega
    by_cases q : i < lo + 2 ^ k
    · exact allR_iff a i h1 q
    · exact allR_iff b i (by omega) (by omega)
def clL : Nat → List Int
  | 5 => [70, 73, 75, 97, 98, 99, 102, 103, 109, 110]
  | 6 => [273, 274, 281, 283, 289, 290, 291, 294, 295, 301, 302, 390, 391, 393, 395, 397, 398, 401, 402, 403, 409, 411, 413, 414, 433, 434, 435, 438, 439, 441, 443]
  | 7 => [1094, 1097, 1099, 1121, 1122, 1123, 1126, 1127, 1133, 1134, 1158, 1159, 1161, 1163, 1165, 1166, 1169, 1170, 1171, 1177, 1179, 1181, 1182, 1201, 1202, 1203, 1206, 1207, 1209, 1211, 1553, 1554, 1555, 1561, 1563, 1565, 1566, 1569, 1570, 1571, 1574, 1575, 1581, 1582, 1585, 1586, 1587, 1590, 1591, 1593, 1595, 1606, 1607, 1609, 1611, 1613, 1614, 1633, 1634, 1635, 1638, 1639, 1645, 1646, 1649, 1650, 1651, 1654, 1655, 1657, 1659, 1734, 1735, 1737, 1739, 1741, 1742, 1745, 1746, 1747, 1753, 1755, 1757, 1758, 1761, 1762, 1763, 1766, 1767, 1773, 1774]
  | _ => []
def goodC (r code : Int) : Bool := isPr r code && decide ((nmS r code r.toNat).1 = code)
theorem good5 : allR (fun i => goodC 5 (i : Int) == (clL 5).contains (i : Int)) 10 0 = true := by decide +kernel
end
