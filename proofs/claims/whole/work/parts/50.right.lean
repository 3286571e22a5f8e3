noncomputable section
theorem prEq {α β : Type} {a a' : α} {b b' : β} (e1 : a = a') (e2 : b = b') : (a, b) = (a', b') := by subst e1; subst e2; rfl
theorem c_X12_right_y {d : Nat} {I : Nat → Nat → Int} {S : PS} {b1 : Prop} {x2 : Int} [Decidable b1] (hl0 : LyX12 S) (h0 : I 156 0 = 0) (h2 : x2 ≠ 0) (hb : b1) : Ca d mX12_right [vR (some (22, 0, 156)), vI (if b1 then 1 else 0), vI x2] (I, S) (.inl (some (vI 1))) (I, S) :=
  Ca.of rfl rfl (b_X12_right_0 (fun c => absurd h0 c) (fun _ => b_X12_right_7 (fun _ => b_X12_right_16 (fun c => absurd h0 c) (fun _ => b_X12_right_23 (b_X12_right_28 (Or.inr rfl)))) (fun c => absurd hb (b2f c))))
theorem c_X12_right_n {d : Nat} {I : Nat → Nat → Int} {S : PS} {b1 : Prop} {x2 : Int} [Decidable b1] (hl0 : LyX12 S) (h0 : I 156 0 = 0) (h2 : x2 ≠ 0) (hb : ¬b1) : Ca d mX12_right [vR (some (22, 0, 156)), vI (if b1 then 1 else 0), vI x2] (I, S) (.inl (some (vI 0))) (up2 I 156 0 x2, S) :=
  Ca.of rfl rfl (b_X12_right_0 (fun c => absurd h0 c) (fun _ => b_X12_right_7 (fun c => absurd (b2t c) hb) (fun _ => b_X12_right_11 (b_X12_right_16 (fun _ => b_X12_right_27 (b_X12_right_28 (Or.inl rfl))) (fun c => absurd c h2)))))
end
