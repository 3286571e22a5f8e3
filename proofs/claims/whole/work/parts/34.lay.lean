/-! ===== where the objects lie ===== -/
noncomputable section
abbrev PS : Type := (Nat → Nat → Rf) × (Nat → Nat × Nat) × Nat × Nat × Nat
def rc (S : PS) (a : Nat) : Nat := (S.2.1 (a + 3)).2 / 3
/-- an exception is made -/
def exS (S : PS) : PS := (S.1, S.2.1, S.2.2.1, S.2.2.2.1 + 1, S.2.2.2.2 + 6)
def LyX2 (S : PS) (a : Nat) : Prop := S.1 a 0 = some (0, 4, (a + 1))
theorem ly_X2_0 {S : PS} {a : Nat} (h : LyX2 S a) : S.1 a 0 = some (0, 4, (a + 1)) := h
def LyX7 (S : PS) (a : Nat) : Prop := S.1 a 1 = some (0, 48, (a + 1))
theorem ly_X7_1 {S : PS} {a : Nat} (h : LyX7 S a) : S.1 a 1 = some (0, 48, (a + 1)) := h
def LyX3 (S : PS) (a : Nat) : Prop := S.1 a 2 = some (0, 7, (a + 1)) ∧ S.1 a 5 = some (0, 15, (a + 2)) ∧ S.1 a 7 = some (0, 15, (a + 3)) ∧ S.1 a 8 = some (0, 4, (a + 4)) ∧ S.1 a 10 = some (1, 91, (a + 5)) ∧ S.1 a 11 = some (0, 3, (a + 6)) ∧ S.1 a 12 = some (0, 3, (a + 7)) ∧ S.1 a 13 = some (0, 3, (a + 8))
theorem ly_X3_2 {S : PS} {a : Nat} (h : LyX3 S a) : S.1 a 2 = some (0, 7, (a + 1)) := h.1
theorem ly_X3_5 {S : PS} {a : Nat} (h : LyX3 S a) : S.1 a 5 = some (0, 15, (a + 2)) := h.2.1
theorem ly_X3_7 {S : PS} {a : Nat} (h : LyX3 S a) : S.1 a 7 = some (0, 15, (a + 3)) := h.2.2.1
theorem ly_X3_8 {S : PS} {a : Nat} (h : LyX3 S a) : S.1 a 8 = some (0, 4, (a + 4)) := h.2.2.2.1
theorem ly_X3_10 {S : PS} {a : Nat} (h : LyX3 S a) : S.1 a 10 = some (1, 91, (a + 5)) := h.2.2.2.2.1
theorem ly_X3_11 {S : PS} {a : Nat} (h : LyX3 S a) : S.1 a 11 = some (0, 3, (a + 6)) := h.2.2.2.2.2.1
theorem ly_X3_12 {S : PS} {a : Nat} (h : LyX3 S a) : S.1 a 12 = some (0, 3, (a + 7)) := h.2.2.2.2.2.2.1
theorem ly_X3_13 {S : PS} {a : Nat} (h : LyX3 S a) : S.1 a 13 = some (0, 3, (a + 8)) := h.2.2.2.2.2.2.2
def LyX9 (S : PS) (a : Nat) : Prop := S.1 a 0 = some (13, 0, (a + 1)) ∧ S.1 a 1 = some (0, 6, (a + 3)) ∧ S.1 a 3 = some (0, 30, (a + 4)) ∧ S.1 a 4 = some (0, 30, (a + 5)) ∧ S.1 a 5 = some (0, 30, (a + 6)) ∧ S.1 a 7 = some (0, 8, (a + 7)) ∧ S.1 a 8 = some (0, 8, (a + 8)) ∧ LyX2 S (a + 1)
theorem ly_X9_0 {S : PS} {a : Nat} (h : LyX9 S a) : S.1 a 0 = some (13, 0, (a + 1)) := h.1
theorem ly_X9_1 {S : PS} {a : Nat} (h : LyX9 S a) : S.1 a 1 = some (0, 6, (a + 3)) := h.2.1
theorem ly_X9_3 {S : PS} {a : Nat} (h : LyX9 S a) : S.1 a 3 = some (0, 30, (a + 4)) := h.2.2.1
theorem ly_X9_4 {S : PS} {a : Nat} (h : LyX9 S a) : S.1 a 4 = some (0, 30, (a + 5)) := h.2.2.2.1
theorem ly_X9_5 {S : PS} {a : Nat} (h : LyX9 S a) : S.1 a 5 = some (0, 30, (a + 6)) := h.2.2.2.2.1
theorem ly_X9_7 {S : PS} {a : Nat} (h : LyX9 S a) : S.1 a 7 = some (0, 8, (a + 7)) := h.2.2.2.2.2.1
theorem ly_X9_8 {S : PS} {a : Nat} (h : LyX9 S a) : S.1 a 8 = some (0, 8, (a + 8)) := h.2.2.2.2.2.2.1
theorem ly_X9_p {S : PS} {a : Nat} (h : LyX9 S a) : LyX2 S (a + 1) := h.2.2.2.2.2.2.2
def LyX0 (S : PS) (a : Nat) : Prop := S.1 a 0 = some (3, 4, (a + 1)) ∧ S.1 a 2 = some (17, 0, (a + 2)) ∧ S.1 a 3 = some (0, 12, (a + 4)) ∧ S.1 a 4 = some (0, 12, (a + 5)) ∧ S.1 a 5 = some (0, 108, (a + 6)) ∧ (∀ i : Nat, i < 4 → S.1 (a + 1) i = some (14, 0, a + 7 + 9 * i) ∧ LyX3 S (a + 7 + 9 * i)) ∧ LyX7 S (a + 2)
theorem ly_X0_0 {S : PS} {a : Nat} (h : LyX0 S a) : S.1 a 0 = some (3, 4, (a + 1)) := h.1
theorem ly_X0_2 {S : PS} {a : Nat} (h : LyX0 S a) : S.1 a 2 = some (17, 0, (a + 2)) := h.2.1
theorem ly_X0_3 {S : PS} {a : Nat} (h : LyX0 S a) : S.1 a 3 = some (0, 12, (a + 4)) := h.2.2.1
theorem ly_X0_4 {S : PS} {a : Nat} (h : LyX0 S a) : S.1 a 4 = some (0, 12, (a + 5)) := h.2.2.2.1
theorem ly_X0_5 {S : PS} {a : Nat} (h : LyX0 S a) : S.1 a 5 = some (0, 108, (a + 6)) := h.2.2.2.2.1
theorem ly_X0_a {S : PS} {a : Nat} (h : LyX0 S a) {i : Nat} (hi : i < 4) : S.1 (a + 1) i = some (14, 0, a + 7 + 9 * i) := (h.2.2.2.2.2.1 i hi).1
theorem ly_X0_q {S : PS} {a : Nat} (h : LyX0 S a) {i : Nat} (hi : i < 4) : LyX3 S (a + 7 + 9 * i) := (h.2.2.2.2.2.1 i hi).2
theorem ly_X0_r {S : PS} {a : Nat} (h : LyX0 S a) : LyX7 S (a + 2) := h.2.2.2.2.2.2
def LyX6 (S : PS) (a : Nat) : Prop := S.1 a 2 = some (0, 91, (a + 1)) ∧ S.1 a 3 = some (0, 7, (a + 2)) ∧ S.1 a 4 = some (1, (3 * rc S a), (a + 3)) ∧ S.1 a 5 = some (1, (48 * rc S a), (a + 4))
theorem ly_X6_2 {S : PS} {a : Nat} (h : LyX6 S a) : S.1 a 2 = some (0, 91, (a + 1)) := h.1
theorem ly_X6_3 {S : PS} {a : Nat} (h : LyX6 S a) : S.1 a 3 = some (0, 7, (a + 2)) := h.2.1
theorem ly_X6_4 {S : PS} {a : Nat} (h : LyX6 S a) : S.1 a 4 = some (1, (3 * rc S a), (a + 3)) := h.2.2.1
theorem ly_X6_5 {S : PS} {a : Nat} (h : LyX6 S a) : S.1 a 5 = some (1, (48 * rc S a), (a + 4)) := h.2.2.2
def LyX10 (S : PS) : Prop := S.1 32 0 = some (1, 700, 33)
theorem ly_X10_0 {S : PS} (h : LyX10 S) : S.1 32 0 = some (1, 700, 33) := h
def LyX1 (S : PS) : Prop := S.1 121 0 = some (0, 594, 122) ∧ S.1 121 1 = some (0, 3, 123) ∧ S.1 121 2 = some (0, 7, 124) ∧ S.1 121 3 = some (0, 6, 125)
theorem ly_X1_0 {S : PS} (h : LyX1 S) : S.1 121 0 = some (0, 594, 122) := h.1
theorem ly_X1_1 {S : PS} (h : LyX1 S) : S.1 121 1 = some (0, 3, 123) := h.2.1
theorem ly_X1_2 {S : PS} (h : LyX1 S) : S.1 121 2 = some (0, 7, 124) := h.2.2.1
theorem ly_X1_3 {S : PS} (h : LyX1 S) : S.1 121 3 = some (0, 6, 125) := h.2.2.2
def LyX8 (S : PS) : Prop := S.1 144 0 = some (13, 0, 145) ∧ LyX2 S 145
theorem ly_X8_0 {S : PS} (h : LyX8 S) : S.1 144 0 = some (13, 0, 145) := h.1
theorem ly_X8_p {S : PS} (h : LyX8 S) : LyX2 S 145 := h.2
def LyX4 (S : PS) : Prop := S.1 147 0 = some (13, 0, 148) ∧ S.1 147 1 = some (0, 32, 150) ∧ S.1 147 2 = some (0, 8, 151) ∧ LyX2 S 148
theorem ly_X4_0 {S : PS} (h : LyX4 S) : S.1 147 0 = some (13, 0, 148) := h.1
theorem ly_X4_1 {S : PS} (h : LyX4 S) : S.1 147 1 = some (0, 32, 150) := h.2.1
theorem ly_X4_2 {S : PS} (h : LyX4 S) : S.1 147 2 = some (0, 8, 151) := h.2.2.1
theorem ly_X4_p {S : PS} (h : LyX4 S) : LyX2 S 148 := h.2.2.2
def LyX11 (S : PS) (T U : Nat) : Prop := S.1 31 0 = some (20, 0, 32) ∧ S.1 31 2 = some (11, 0, T) ∧ S.1 31 3 = some (11, 0, U) ∧ S.1 31 4 = some (4, 3, 120) ∧ S.1 31 5 = some (12, 0, 121) ∧ S.1 31 6 = some (19, 0, 126) ∧ S.1 31 7 = some (19, 0, 135) ∧ S.1 31 9 = some (18, 0, 144) ∧ S.1 31 10 = some (15, 0, 147) ∧ S.1 31 11 = some (0, 9, 152) ∧ S.1 31 12 = some (0, 8, 153) ∧ S.1 31 13 = some (0, 8, 154) ∧ S.1 31 14 = some (0, 3, 155) ∧ LyX10 S ∧ LyX0 S T ∧ LyX0 S U ∧ LyX1 S ∧ LyX9 S 126 ∧ LyX9 S 135 ∧ LyX8 S ∧ LyX4 S
theorem ly_X11_0 {S : PS} {T U : Nat} (h : LyX11 S T U) : S.1 31 0 = some (20, 0, 32) := h.1
theorem ly_X11_2 {S : PS} {T U : Nat} (h : LyX11 S T U) : S.1 31 2 = some (11, 0, T) := h.2.1
theorem ly_X11_3 {S : PS} {T U : Nat} (h : LyX11 S T U) : S.1 31 3 = some (11, 0, U) := h.2.2.1
theorem ly_X11_4 {S : PS} {T U : Nat} (h : LyX11 S T U) : S.1 31 4 = some (4, 3, 120) := h.2.2.2.1
theorem ly_X11_5 {S : PS} {T U : Nat} (h : LyX11 S T U) : S.1 31 5 = some (12, 0, 121) := h.2.2.2.2.1
theorem ly_X11_6 {S : PS} {T U : Nat} (h : LyX11 S T U) : S.1 31 6 = some (19, 0, 126) := h.2.2.2.2.2.1
theorem ly_X11_7 {S : PS} {T U : Nat} (h : LyX11 S T U) : S.1 31 7 = some (19, 0, 135) := h.2.2.2.2.2.2.1
theorem ly_X11_9 {S : PS} {T U : Nat} (h : LyX11 S T U) : S.1 31 9 = some (18, 0, 144) := h.2.2.2.2.2.2.2.1
theorem ly_X11_10 {S : PS} {T U : Nat} (h : LyX11 S T U) : S.1 31 10 = some (15, 0, 147) := h.2.2.2.2.2.2.2.2.1
theorem ly_X11_11 {S : PS} {T U : Nat} (h : LyX11 S T U) : S.1 31 11 = some (0, 9, 152) := h.2.2.2.2.2.2.2.2.2.1
theorem ly_X11_12 {S : PS} {T U : Nat} (h : LyX11 S T U) : S.1 31 12 = some (0, 8, 153) := h.2.2.2.2.2.2.2.2.2.2.1
theorem ly_X11_13 {S : PS} {T U : Nat} (h : LyX11 S T U) : S.1 31 13 = some (0, 8, 154) := h.2.2.2.2.2.2.2.2.2.2.2.1
theorem ly_X11_14 {S : PS} {T U : Nat} (h : LyX11 S T U) : S.1 31 14 = some (0, 3, 155) := h.2.2.2.2.2.2.2.2.2.2.2.2.1
theorem ly_X11_t {S : PS} {T U : Nat} (h : LyX11 S T U) : LyX10 S := h.2.2.2.2.2.2.2.2.2.2.2.2.2.1
theorem ly_X11_c {S : PS} {T U : Nat} (h : LyX11 S T U) : LyX0 S T := h.2.2.2.2.2.2.2.2.2.2.2.2.2.2.1
theorem ly_X11_d {S : PS} {T U : Nat} (h : LyX11 S T U) : LyX0 S U := h.2.2.2.2.2.2.2.2.2.2.2.2.2.2.2.1
theorem ly_X11_b {S : PS} {T U : Nat} (h : LyX11 S T U) : LyX1 S := h.2.2.2.2.2.2.2.2.2.2.2.2.2.2.2.2.1
theorem ly_X11_s {S : PS} {T U : Nat} (h : LyX11 S T U) : LyX9 S 126 := h.2.2.2.2.2.2.2.2.2.2.2.2.2.2.2.2.2.1
theorem ly_X11_k {S : PS} {T U : Nat} (h : LyX11 S T U) : LyX9 S 135 := h.2.2.2.2.2.2.2.2.2.2.2.2.2.2.2.2.2.2.1
theorem ly_X11_e {S : PS} {T U : Nat} (h : LyX11 S T U) : LyX8 S := h.2.2.2.2.2.2.2.2.2.2.2.2.2.2.2.2.2.2.2.1
theorem ly_X11_n {S : PS} {T U : Nat} (h : LyX11 S T U) : LyX4 S := h.2.2.2.2.2.2.2.2.2.2.2.2.2.2.2.2.2.2.2.2
def LyX12 (S : PS) : Prop := S.1 156 1 = some (0, 700, 157) ∧ S.1 156 5 = some (0, 3, 158) ∧ S.1 156 19 = some (0, 80, 159) ∧ S.1 156 20 = some (0, 48, 160) ∧ S.1 156 21 = some (0, 120, 161) ∧ S.1 156 22 = some (0, 80, 162) ∧ S.1 156 23 = some (0, 48, 163) ∧ S.1 156 24 = some (0, 120, 164) ∧ S.1 156 25 = some (0, 60, 165) ∧ S.1 156 26 = some (0, 60, 166) ∧ S.1 156 27 = some (0, 4, 167) ∧ S.1 156 28 = some (0, 384, 168) ∧ S.1 156 29 = some (0, 384, 169) ∧ S.1 156 30 = some (0, 384, 170) ∧ S.1 156 31 = some (0, 384, 171) ∧ S.1 156 32 = some (0, 16384, 172) ∧ S.1 156 33 = some (0, 15, 173) ∧ S.1 156 34 = some (0, 4, 174) ∧ S.1 156 35 = some (0, 7, 175) ∧ S.1 156 36 = some (0, 7, 176) ∧ S.1 156 38 = some (0, 9, 177) ∧ S.1 156 39 = some (0, 36, 178) ∧ S.1 156 40 = some (0, 540, 179) ∧ S.1 156 42 = some (0, 12, 180) ∧ S.1 156 43 = some (0, 12, 181) ∧ S.1 156 45 = some (0, 12, 182) ∧ S.1 156 46 = some (0, 625, 183) ∧ S.1 156 52 = some (0, 96, 184) ∧ S.1 156 53 = some (0, 8, 185) ∧ S.1 156 54 = some (0, 4, 186) ∧ S.1 156 57 = some (0, 16, 187) ∧ S.1 156 62 = some (0, 18, 188) ∧ S.1 156 63 = some (0, 540, 189) ∧ S.1 156 64 = some (0, 16, 190)
theorem ly_X12_1 {S : PS} (h : LyX12 S) : S.1 156 1 = some (0, 700, 157) := h.1
theorem ly_X12_5 {S : PS} (h : LyX12 S) : S.1 156 5 = some (0, 3, 158) := h.2.1
theorem ly_X12_19 {S : PS} (h : LyX12 S) : S.1 156 19 = some (0, 80, 159) := h.2.2.1
theorem ly_X12_20 {S : PS} (h : LyX12 S) : S.1 156 20 = some (0, 48, 160) := h.2.2.2.1
theorem ly_X12_21 {S : PS} (h : LyX12 S) : S.1 156 21 = some (0, 120, 161) := h.2.2.2.2.1
theorem ly_X12_22 {S : PS} (h : LyX12 S) : S.1 156 22 = some (0, 80, 162) := h.2.2.2.2.2.1
theorem ly_X12_23 {S : PS} (h : LyX12 S) : S.1 156 23 = some (0, 48, 163) := h.2.2.2.2.2.2.1
theorem ly_X12_24 {S : PS} (h : LyX12 S) : S.1 156 24 = some (0, 120, 164) := h.2.2.2.2.2.2.2.1
theorem ly_X12_25 {S : PS} (h : LyX12 S) : S.1 156 25 = some (0, 60, 165) := h.2.2.2.2.2.2.2.2.1
theorem ly_X12_26 {S : PS} (h : LyX12 S) : S.1 156 26 = some (0, 60, 166) := h.2.2.2.2.2.2.2.2.2.1
theorem ly_X12_27 {S : PS} (h : LyX12 S) : S.1 156 27 = some (0, 4, 167) := h.2.2.2.2.2.2.2.2.2.2.1
theorem ly_X12_28 {S : PS} (h : LyX12 S) : S.1 156 28 = some (0, 384, 168) := h.2.2.2.2.2.2.2.2.2.2.2.1
theorem ly_X12_29 {S : PS} (h : LyX12 S) : S.1 156 29 = some (0, 384, 169) := h.2.2.2.2.2.2.2.2.2.2.2.2.1
theorem ly_X12_30 {S : PS} (h : LyX12 S) : S.1 156 30 = some (0, 384, 170) := h.2.2.2.2.2.2.2.2.2.2.2.2.2.1
theorem ly_X12_31 {S : PS} (h : LyX12 S) : S.1 156 31 = some (0, 384, 171) := h.2.2.2.2.2.2.2.2.2.2.2.2.2.2.1
theorem ly_X12_32 {S : PS} (h : LyX12 S) : S.1 156 32 = some (0, 16384, 172) := h.2.2.2.2.2.2.2.2.2.2.2.2.2.2.2.1
theorem ly_X12_33 {S : PS} (h : LyX12 S) : S.1 156 33 = some (0, 15, 173) := h.2.2.2.2.2.2.2.2.2.2.2.2.2.2.2.2.1
theorem ly_X12_34 {S : PS} (h : LyX12 S) : S.1 156 34 = some (0, 4, 174) := h.2.2.2.2.2.2.2.2.2.2.2.2.2.2.2.2.2.1
theorem ly_X12_35 {S : PS} (h : LyX12 S) : S.1 156 35 = some (0, 7, 175) := h.2.2.2.2.2.2.2.2.2.2.2.2.2.2.2.2.2.2.1
theorem ly_X12_36 {S : PS} (h : LyX12 S) : S.1 156 36 = some (0, 7, 176) := h.2.2.2.2.2.2.2.2.2.2.2.2.2.2.2.2.2.2.2.1
theorem ly_X12_38 {S : PS} (h : LyX12 S) : S.1 156 38 = some (0, 9, 177) := h.2.2.2.2.2.2.2.2.2.2.2.2.2.2.2.2.2.2.2.2.1
theorem ly_X12_39 {S : PS} (h : LyX12 S) : S.1 156 39 = some (0, 36, 178) := h.2.2.2.2.2.2.2.2.2.2.2.2.2.2.2.2.2.2.2.2.2.1
theorem ly_X12_40 {S : PS} (h : LyX12 S) : S.1 156 40 = some (0, 540, 179) := h.2.2.2.2.2.2.2.2.2.2.2.2.2.2.2.2.2.2.2.2.2.2.1
theorem ly_X12_42 {S : PS} (h : LyX12 S) : S.1 156 42 = some (0, 12, 180) := h.2.2.2.2.2.2.2.2.2.2.2.2.2.2.2.2.2.2.2.2.2.2.2.1
theorem ly_X12_43 {S : PS} (h : LyX12 S) : S.1 156 43 = some (0, 12, 181) := h.2.2.2.2.2.2.2.2.2.2.2.2.2.2.2.2.2.2.2.2.2.2.2.2.1
theorem ly_X12_45 {S : PS} (h : LyX12 S) : S.1 156 45 = some (0, 12, 182) := h.2.2.2.2.2.2.2.2.2.2.2.2.2.2.2.2.2.2.2.2.2.2.2.2.2.1
theorem ly_X12_46 {S : PS} (h : LyX12 S) : S.1 156 46 = some (0, 625, 183) := h.2.2.2.2.2.2.2.2.2.2.2.2.2.2.2.2.2.2.2.2.2.2.2.2.2.2.1
theorem ly_X12_52 {S : PS} (h : LyX12 S) : S.1 156 52 = some (0, 96, 184) := h.2.2.2.2.2.2.2.2.2.2.2.2.2.2.2.2.2.2.2.2.2.2.2.2.2.2.2.1
theorem ly_X12_53 {S : PS} (h : LyX12 S) : S.1 156 53 = some (0, 8, 185) := h.2.2.2.2.2.2.2.2.2.2.2.2.2.2.2.2.2.2.2.2.2.2.2.2.2.2.2.2.1
theorem ly_X12_54 {S : PS} (h : LyX12 S) : S.1 156 54 = some (0, 4, 186) := h.2.2.2.2.2.2.2.2.2.2.2.2.2.2.2.2.2.2.2.2.2.2.2.2.2.2.2.2.2.1
theorem ly_X12_57 {S : PS} (h : LyX12 S) : S.1 156 57 = some (0, 16, 187) := h.2.2.2.2.2.2.2.2.2.2.2.2.2.2.2.2.2.2.2.2.2.2.2.2.2.2.2.2.2.2.1
theorem ly_X12_62 {S : PS} (h : LyX12 S) : S.1 156 62 = some (0, 18, 188) := h.2.2.2.2.2.2.2.2.2.2.2.2.2.2.2.2.2.2.2.2.2.2.2.2.2.2.2.2.2.2.2.1
theorem ly_X12_63 {S : PS} (h : LyX12 S) : S.1 156 63 = some (0, 540, 189) := h.2.2.2.2.2.2.2.2.2.2.2.2.2.2.2.2.2.2.2.2.2.2.2.2.2.2.2.2.2.2.2.2.1
theorem ly_X12_64 {S : PS} (h : LyX12 S) : S.1 156 64 = some (0, 16, 190) := h.2.2.2.2.2.2.2.2.2.2.2.2.2.2.2.2.2.2.2.2.2.2.2.2.2.2.2.2.2.2.2.2.2
end
