/-! ===== good codes are those of the list: checked one by one ===== -/
noncomputable section
def clN : Nat → List Nat
  | 5 => [70, 73, 75, 97, 98, 99, 102, 103, 109, 110]
  | 6 => [273, 274, 281, 283, 289, 290, 291, 294, 295, 301, 302, 390, 391, 393, 395, 397, 398, 401, 402, 403, 409, 411, 413, 414, 433, 434, 435, 438, 439, 441, 443]
  | 7 => [1094, 1097, 1099, 1121, 1122, 1123, 1126, 1127, 1133, 1134, 1158, 1159, 1161, 1163, 1165, 1166, 1169, 1170, 1171, 1177, 1179, 1181, 1182, 1201, 1202, 1203, 1206, 1207, 1209, 1211, 1553, 1554, 1555, 1561, 1563, 1565, 1566, 1569, 1570, 1571, 1574, 1575, 1581, 1582, 1585, 1586, 1587, 1590, 1591, 1593, 1595, 1606, 1607, 1609, 1611, 1613, 1614, 1633, 1634, 1635, 1638, 1639, 1645, 1646, 1649, 1650, 1651, 1654, 1655, 1657, 1659, 1734, 1735, 1737, 1739, 1741, 1742, 1745, 1746, 1747, 1753, 1755, 1757, 1758, 1761, 1762, 1763, 1766, 1767, 1773, 1774]
  | _ => []
def chkA (r m : Nat) : Bool := (prN r m && Nat.beq (nmN r m r).1 m) == (clN r).contains m
theorem chkA5 : allR (chkA 5) 10 0 = true := by decide +kernel
theorem chkA6 : allR (chkA 6) 12 0 = true := by decide +kernel
theorem chkA7_0 : allR (chkA 7) 11 0 = true := by decide +kernel
theorem chkA7_1 : allR (chkA 7) 11 2048 = true := by decide +kernel
theorem chkA7_2 : allR (chkA 7) 11 4096 = true := by decide +kernel
theorem chkA7_3 : allR (chkA 7) 11 6144 = true := by decide +kernel
theorem chkA7_4 : allR (chkA 7) 11 8192 = true := by decide +kernel
theorem chkA7_5 : allR (chkA 7) 11 10240 = true := by decide +kernel
theorem chkA7_6 : allR (chkA 7) 11 12288 = true := by decide +kernel
theorem chkA7_7 : allR (chkA 7) 11 14336 = true := by decide +kernel
theorem chkA_all {r m : Nat} (hr : r = 5 ∨ r = 6 ∨ r = 7) (hm : m < 4 ^ r) : chkA r m = true := by
  rcases hr with rfl | rfl | rfl
  · have hm : m < 1024 := by simpa using hm
    exact allR_iff chkA5 m (by omega) (by omega)
  · have hm : m < 4096 := by simpa using hm
    exact allR_iff chkA6 m (by omega) (by omega)
  · have hm : m < 16384 := by simpa using hm
    by_cases h0 : m < 2048
    · exact allR_iff chkA7_0 m (by omega) (by omega)
    by_cases h1 : m < 4096
    · exact allR_iff chkA7_1 m (by omega) (by omega)
    by_cases h2 : m < 6144
    · exact allR_iff chkA7_2 m (by omega) (by omega)
    by_cases h3 : m < 8192
    · exact allR_iff chkA7_3 m (by omega) (by omega)
    by_cases h4 : m < 10240
    · exact allR_iff chkA7_4 m (by omega) (by omega)
    by_cases h5 : m < 12288
    · exact allR_iff chkA7_5 m (by omega) (by omega)
    by_cases h6 : m < 14336
    · exact allR_iff chkA7_6 m (by omega) (by omega)
    exact allR_iff chkA7_7 m (by omega) (by omega)
end
