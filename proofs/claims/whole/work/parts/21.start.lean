/-! ===== the law's own start ===== -/
def R_law : String := "MapPiecesLaw"
def lw_P (b : Addr) (xs : List Int32) (args : Array Value) (s : State) : Prop := args = #[.ref b] ∧ s.IntsAt b xs ∧ xs.length ≤ 3072 ∧ (Jvm.Cond.and given_1 narrow_1).before args s = true
def lw_Q (_ : Array Value) (s : State) (o : Outcome) (t : State) : Prop := o = .returned (some (.int 1)) ∧ Framed s o t [] 603072 7125098
def lw_Z (below : List Frame) (a : Array Value) (s : State) : State → Prop := fun t => ∃ o, t.status = .running ∧ Ended t below o ∧ lw_Q a s o t
/-- the law's own end, with 1 on the stack, nothing written that was there before, its room as the claim has it -/
theorem lw_ret {p : Program} {l : Launch} {e : Env} {s : State} {m : MethodId} {below : List Frame} {meth : Method} {c : Code} {b : Nat} (hx : p.tables.exec = Jvm.exec) (hb : c.code = code) (hr : meth.sig.returnType = ret) (hlocks : meth.locks = false) {pc : Nat} {H : Heap} {ls : Array Slot} (hdg : decode code pc = .ok (.ireturn, 1)) : W p l e room_1 s m #[Value.ref b] below meth c H [] 603072 7125098 (lw_Z below #[Value.ref b] s) (F0 m pc ls [.int 1]) := by
  intro T hT X
  obtain ⟨fs, hret, hrun, hended, hW, hframe⟩ := X.leave (v := some (.int 1)) (hlocks := hlocks) (fun h => by rw [hr] at h; cases h)
  have hmeth' : T.vm.method? m = some meth := X.method'
  refine ⟨T.setFrames fs, ?_, .returned (some (.int 1)), hrun, hended, rfl, ⟨_, rfl⟩, hW, hframe⟩
  jvm_step X.here [X.here.top, hx, hb, hdg, hmeth', hr, ret, narrow_b1]
  (try refine ⟨rfl, ?_⟩); (try refine ⟨rfl, ?_⟩)
  first | (intro acts; rw [hret _ acts rfl rfl rfl]) | rw [hret _ _ rfl rfl rfl]
  exact Steps.refl _
/-- what holds at the law's entry: the machine, the code, the tables' words (any of lw_tbl by 'hts w (by decide +kernel)'), the script of L ints xs at the cell b, what the Statement gives of the start (any of its parts by flat_of_before) -/
def lw_At (p : Program) (s : State) (m : MethodId) (meth : Method) (c : Code) (b L : Nat) (xs : Nat → Int32) : Prop :=
  p.tables.exec = Jvm.exec ∧ c.code = code ∧ meth.sig.returnType = ret ∧ c.maxLocals = 7 ∧ s.vm.findClass R_law = some m.cls ∧ (∀ w ∈ lw_tbl, w.before #[Value.ref b] s = true) ∧ va_X b L xs s s.heap ∧ b < s.heap.size ∧ meth.locks = false ∧ (Jvm.Cond.and given_1 narrow_1).before #[Value.ref b] s = true ∧ meth.name = x.name ∧ c.exceptionTable.toList = []
noncomputable section
def st_len : List Nat := [5, 4, 4, 4, 4, 2, 4, 4, 5, 4, 4, 5, 3]
def st_byt : List (List Int32) := [[112, 105, 101, 99, 101], [106, 111, 105, 110], [114, 117, 108, 101], [115, 112, 111, 116], [102, 114, 111, 109], [116, 111], [119, 105, 116, 104], [98, 111, 116, 104], [112, 97, 105, 110, 116], [119, 97, 115, 104], [115, 119, 97, 112], [115, 104, 101, 101, 116], [111, 102, 102]]
def st_own : List (String × Nat × String) := [("MapPieces$Reader", 27, "piece"), ("MapPieces$Reader", 39, "join"), ("MapPieces$Reader", 44, "rule"), ("MapPieces$Reader", 49, "spot"), ("MapPieces$Reader", 112, "from"), ("MapPieces$Reader", 118, "to"), ("MapPieces$Reader", 120, "with"), ("MapPieces$Reader", 122, "both"), ("MapPieces$Plan", 99, "paint"), ("MapPieces$Plan", 105, "wash"), ("MapPieces$Plan", 107, "swap"), ("MapPieces$Plan", 109, "sheet"), ("MapPieces$Plan", 111, "off")]
def st_tm (i : Nat) : Term := .string (st_own.getD i ("", 0, "")).1 (st_own.getD i ("", 0, "")).2.1
def sw_tab (k : Nat) : List Int32 := if k = 1 then [0] else if k = 2 then [0, 1, 0, 2] else [0, 2, 8, 10, 0, 4, 10, 14, 0, 1, 8, 9, 0, 5, 2, 7, 0, 1, 4, 5]
def sw_len (k : Nat) : Nat := if k = 1 then 1 else if k = 2 then 4 else 20
def sw_nm (k : Nat) : String := if k = 1 then "SWITCHES_OF_1" else if k = 2 then "SWITCHES_OF_2" else "SWITCHES_OF_3"
def h0i (xs : Nat → Int32) (a j : Nat) : Int := if a = 0 then (xs j).toInt else if a ≤ 3 then ((sw_tab a).getD j 0).toInt else if a < 30 ∧ a % 2 = 1 then ((st_byt.getD ((a - 5) / 2) []).getD j 0).toInt else 0
def h0r (a j : Nat) : Rf := if 4 ≤ a ∧ a < 30 ∧ a % 2 = 0 ∧ j = 0 then some (7, st_len.getD ((a - 4) / 2) 0, a + 1) else none
def h0s (L a : Nat) : Nat × Nat := if a = 0 then (5, L) else if a ≤ 3 then (5, sw_len a) else if a < 30 then (if a % 2 = 0 then (6, st_len.getD ((a - 4) / 2) 0) else (7, st_len.getD ((a - 5) / 2) 0)) else if a = 30 then (8, 0) else (0, 0)
/-- the heap at the law's entry -/
def h0 (L : Nat) (xs : Nat → Int32) : PM := (h0i xs, h0r, h0s L, 31, 0, 0)
def ad0 (b : Nat) (adS adK adV : Nat → Nat) (q : Nat) (a : Nat) : Nat := if a = 0 then b else if a ≤ 3 then adS a else if a < 30 then (if a % 2 = 0 then adK ((a - 4) / 2) else adV ((a - 5) / 2)) else q
def X0 (b : Nat) (adS adK adV : Nat → Nat) (q L : Nat) (xs : Nat → Int32) : RX := (ad0 b adS adK adV q, h0i xs, h0r, h0s L)
def FL : List Cond := flatC (Jvm.Cond.and given_1 narrow_1)
def inL (w : Cond) : Bool := decide (w ∈ FL)
theorem inL_ok {args : Array Value} {s : State} (h : (Jvm.Cond.and given_1 narrow_1).before args s = true) {w : Cond} (hw : inL w = true) : w.before args s = true := flat_of_before _ h w (of_decide_eq_true hw)
def fStr (i : Nat) : Bool := inL (.exactly (st_tm i) "java/lang/String") && inL (.eq (.field (st_tm i) "java/lang/String" "coder" "B") (.int 0)) && inL (.arrayOf (.field (st_tm i) "java/lang/String" "value" "[B") .byte) && inL (.eq (.length (.field (st_tm i) "java/lang/String" "value" "[B")) (.int (Int32.ofNat (st_len.getD i 0)))) &&
  (List.range (st_len.getD i 0)).all (fun j => inL (.eq (.elem (.field (st_tm i) "java/lang/String" "value" "[B") (.int (Int32.ofNat j))) (.int ((st_byt.getD i []).getD j 0))))
theorem fStr_0 : fStr 0 = true := by decide +kernel
theorem fStr_1 : fStr 1 = true := by decide +kernel
theorem fStr_2 : fStr 2 = true := by decide +kernel
theorem fStr_3 : fStr 3 = true := by decide +kernel
theorem fStr_4 : fStr 4 = true := by decide +kernel
theorem fStr_5 : fStr 5 = true := by decide +kernel
theorem fStr_6 : fStr 6 = true := by decide +kernel
theorem fStr_7 : fStr 7 = true := by decide +kernel
theorem fStr_8 : fStr 8 = true := by decide +kernel
theorem fStr_9 : fStr 9 = true := by decide +kernel
theorem fStr_10 : fStr 10 = true := by decide +kernel
theorem fStr_11 : fStr 11 = true := by decide +kernel
theorem fStr_12 : fStr 12 = true := by decide +kernel
theorem fStr_ok {i : Nat} (hi : i < 13) : fStr i = true := by
  match i, hi with
  | 0, _ => exact fStr_0
  | 1, _ => exact fStr_1
  | 2, _ => exact fStr_2
  | 3, _ => exact fStr_3
  | 4, _ => exact fStr_4
  | 5, _ => exact fStr_5
  | 6, _ => exact fStr_6
  | 7, _ => exact fStr_7
  | 8, _ => exact fStr_8
  | 9, _ => exact fStr_9
  | 10, _ => exact fStr_10
  | 11, _ => exact fStr_11
  | 12, _ => exact fStr_12
  | i + 13, hi => omega
def fNe (i : Nat) : Bool := (List.range i).all (fun j => inL (.not (.eq (st_tm i) (st_tm j))) || inL (.not (.eq (st_tm j) (st_tm i))))
theorem fNe_0 : fNe 0 = true := by decide +kernel
theorem fNe_1 : fNe 1 = true := by decide +kernel
theorem fNe_2 : fNe 2 = true := by decide +kernel
theorem fNe_3 : fNe 3 = true := by decide +kernel
theorem fNe_4 : fNe 4 = true := by decide +kernel
theorem fNe_5 : fNe 5 = true := by decide +kernel
theorem fNe_6 : fNe 6 = true := by decide +kernel
theorem fNe_7 : fNe 7 = true := by decide +kernel
theorem fNe_8 : fNe 8 = true := by decide +kernel
theorem fNe_9 : fNe 9 = true := by decide +kernel
theorem fNe_10 : fNe 10 = true := by decide +kernel
theorem fNe_11 : fNe 11 = true := by decide +kernel
theorem fNe_12 : fNe 12 = true := by decide +kernel
theorem fNe_ok {i : Nat} (hi : i < 13) : fNe i = true := by
  match i, hi with
  | 0, _ => exact fNe_0
  | 1, _ => exact fNe_1
  | 2, _ => exact fNe_2
  | 3, _ => exact fNe_3
  | 4, _ => exact fNe_4
  | 5, _ => exact fNe_5
  | 6, _ => exact fNe_6
  | 7, _ => exact fNe_7
  | 8, _ => exact fNe_8
  | 9, _ => exact fNe_9
  | 10, _ => exact fNe_10
  | 11, _ => exact fNe_11
  | 12, _ => exact fNe_12
  | i + 13, hi => omega
def fSw (k : Nat) : Bool := inL (.isRef (.static "MapPieces$Ring" (sw_nm k) "[I")) && inL (.arrayOf (.static "MapPieces$Ring" (sw_nm k) "[I") .int) && inL (.eq (.length (.static "MapPieces$Ring" (sw_nm k) "[I")) (.int (Int32.ofNat (sw_len k)))) &&
  (List.range (sw_len k)).all (fun j => inL (.eq (.elem (.static "MapPieces$Ring" (sw_nm k) "[I") (.int (Int32.ofNat j))) (.int ((sw_tab k).getD j 0))))
theorem fSw_1 : fSw 1 = true := by decide +kernel
theorem fSw_2 : fSw 2 = true := by decide +kernel
theorem fSw_3 : fSw 3 = true := by decide +kernel
theorem fSw_ok {k : Nat} (h1 : 1 ≤ k) (h3 : k ≤ 3) : fSw k = true := by
  match k, h1, h3 with
  | 1, _, _ => exact fSw_1
  | 2, _, _ => exact fSw_2
  | 3, _, _ => exact fSw_3
  | k + 4, _, h => omega
end
