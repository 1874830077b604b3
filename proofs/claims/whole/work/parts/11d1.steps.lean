set_option maxRecDepth 20000 in
theorem s134 :
  (∀ (a0 : Nat) (a1 : Int32) (a2 : Int32) (a3 : Int32) (st : List Value) (M : xM) (Q : Option Value → xM → Prop), xW xSC 134 0 [.ref a0, .int a1, .int a2, .int a3] (st) M Q = xW xSC 134 1 [.ref a0, .int a1, .int a2, .int a3] (.ref a0 :: st) M Q) ∧
  (∀ (a0 : Nat) (a1 : Int32) (a2 : Int32) (a3 : Int32) (st : List Value) (M : xM) (Q : Option Value → xM → Prop), xW xSC 134 1 [.ref a0, .int a1, .int a2, .int a3] (.ref 0 :: st) M Q = xW xSC 134 4 [.ref a0, .int a1, .int a2, .int a3] (.ref 9 :: st) M Q) ∧
  (∀ (a0 : Nat) (a1 : Int32) (a2 : Int32) (a3 : Int32) (st : List Value) (M : xM) (Q : Option Value → xM → Prop), xW xSC 134 4 [.ref a0, .int a1, .int a2, .int a3] (st) M Q = xW xSC 134 5 [.ref a0, .int a1, .int a2, .int a3] (.int a1 :: st) M Q) ∧
  (∀ (a0 : Nat) (a1 : Int32) (a2 : Int32) (a3 : Int32) (y0 : Int32) (M : xM) (Q : Option Value → xM → Prop), xW xSC 134 5 [.ref a0, .int a1, .int a2, .int a3] (.int y0 :: .ref 9 :: []) M Q = xW xSC 25 0 [.ref 9, .int y0] [] M (fun v M' => xW xSC 134 8 [.ref a0, .int a1, .int a2, .int a3] (xpush v []) M' Q)) ∧
  (∀ (a0 : Nat) (a1 : Int32) (a2 : Int32) (a3 : Int32) (y0 : Int32) (st : List Value) (M : xM) (Q : Option Value → xM → Prop), xW xSC 134 8 [.ref a0, .int a1, .int a2, .int a3] (.int y0 :: st) M Q = if y0 = nI 0 then xW xSC 134 24 [.ref a0, .int a1, .int a2, .int a3] (st) M Q else xW xSC 134 11 [.ref a0, .int a1, .int a2, .int a3] (st) M Q) ∧
  (∀ (a0 : Nat) (a1 : Int32) (a2 : Int32) (a3 : Int32) (st : List Value) (M : xM) (Q : Option Value → xM → Prop), xW xSC 134 11 [.ref a0, .int a1, .int a2, .int a3] (st) M Q = xW xSC 134 12 [.ref a0, .int a1, .int a2, .int a3] (.ref a0 :: st) M Q) ∧
  (∀ (a0 : Nat) (a1 : Int32) (a2 : Int32) (a3 : Int32) (st : List Value) (M : xM) (Q : Option Value → xM → Prop), xW xSC 134 12 [.ref a0, .int a1, .int a2, .int a3] (st) M Q = xW xSC 134 13 [.ref a0, .int a1, .int a2, .int a3] (.int a2 :: st) M Q) ∧
  (∀ (a0 : Nat) (a1 : Int32) (a2 : Int32) (a3 : Int32) (st : List Value) (M : xM) (Q : Option Value → xM → Prop), xW xSC 134 13 [.ref a0, .int a1, .int a2, .int a3] (st) M Q = xW xSC 134 14 [.ref a0, .int a1, .int a2, .int a3] (.int a3 :: st) M Q) ∧
  (∀ (a0 : Nat) (a1 : Int32) (a2 : Int32) (a3 : Int32) (y0 : Int32) (y1 : Int32) (M : xM) (Q : Option Value → xM → Prop), xW xSC 134 14 [.ref a0, .int a1, .int a2, .int a3] (.int y0 :: .int y1 :: .ref 0 :: []) M Q = xW xSC 133 0 [.ref 0, .int y1, .int y0] [] M (fun v M' => xW xSC 134 17 [.ref a0, .int a1, .int a2, .int a3] (xpush v []) M' Q)) ∧
  (∀ (a0 : Nat) (a1 : Int32) (a2 : Int32) (a3 : Int32) (y0 : Int32) (st : List Value) (M : xM) (Q : Option Value → xM → Prop), xW xSC 134 17 [.ref a0, .int a1, .int a2, .int a3] (.int y0 :: st) M Q = if y0 = nI 0 then xW xSC 134 24 [.ref a0, .int a1, .int a2, .int a3] (st) M Q else xW xSC 134 20 [.ref a0, .int a1, .int a2, .int a3] (st) M Q) ∧
  (∀ (a0 : Nat) (a1 : Int32) (a2 : Int32) (a3 : Int32) (st : List Value) (M : xM) (Q : Option Value → xM → Prop), xW xSC 134 20 [.ref a0, .int a1, .int a2, .int a3] (st) M Q = xW xSC 134 21 [.ref a0, .int a1, .int a2, .int a3] (.int (nI 1) :: st) M Q) ∧
  (∀ (a0 : Nat) (a1 : Int32) (a2 : Int32) (a3 : Int32) (st : List Value) (M : xM) (Q : Option Value → xM → Prop), xW xSC 134 21 [.ref a0, .int a1, .int a2, .int a3] (st) M Q = xW xSC 134 25 [.ref a0, .int a1, .int a2, .int a3] (st) M Q) :=
  ⟨fun a0 a1 a2 a3 st M Q => xw_s rfl rfl,
  fun a0 a1 a2 a3 st M Q => xw_s rfl rfl,
  fun a0 a1 a2 a3 st M Q => xw_s rfl rfl,
  fun a0 a1 a2 a3 y0 M Q => xw_call rfl rfl rfl,
  fun a0 a1 a2 a3 y0 st M Q => xw_br (c0 := y0 = nI 0) rfl rfl,
  fun a0 a1 a2 a3 st M Q => xw_s rfl rfl,
  fun a0 a1 a2 a3 st M Q => xw_s rfl rfl,
  fun a0 a1 a2 a3 st M Q => xw_s rfl rfl,
  fun a0 a1 a2 a3 y0 y1 M Q => xw_call rfl rfl rfl,
  fun a0 a1 a2 a3 y0 st M Q => xw_br (c0 := y0 = nI 0) rfl rfl,
  fun a0 a1 a2 a3 st M Q => xw_s rfl rfl,
  fun a0 a1 a2 a3 st M Q => xw_s rfl rfl⟩
set_option maxRecDepth 20000 in
theorem h134_24 :
  (∀ (a0 : Nat) (a1 : Int32) (a2 : Int32) (a3 : Int32) (st : List Value) (M : xM) (Q : Option Value → xM → Prop), xW xSC 134 24 [.ref a0, .int a1, .int a2, .int a3] (st) M Q = xW xSC 134 25 [.ref a0, .int a1, .int a2, .int a3] (.int (nI 0) :: st) M Q) :=
  fun a0 a1 a2 a3 st M Q => xw_s rfl rfl
set_option maxRecDepth 20000 in
theorem h134_25 :
  (∀ (a0 : Nat) (a1 : Int32) (a2 : Int32) (a3 : Int32) (y0 : Int32) (M : xM) (Q : Option Value → xM → Prop), y0 = 0 ∨ y0 = 1 → xW xSC 134 25 [.ref a0, .int a1, .int a2, .int a3] ([.int y0]) M Q = Q (some (.int y0)) M) :=
  fun a0 a1 a2 a3 y0 M Q h0 => xw_retz rfl rfl h0
set_option maxRecDepth 20000 in
theorem j134 :
  (∀ (a0 : Nat) (a1 : Int32) (a2 : Int32) (a3 : Int32) (st : List Value) (M : xM) (Q : Option Value → xM → Prop), xW xSC 134 24 [.ref a0, .int a1, .int a2, .int a3] (st) M Q = xW xSC 134 25 [.ref a0, .int a1, .int a2, .int a3] (.int (nI 0) :: st) M Q) ∧
  (∀ (a0 : Nat) (a1 : Int32) (a2 : Int32) (a3 : Int32) (y0 : Int32) (M : xM) (Q : Option Value → xM → Prop), y0 = 0 ∨ y0 = 1 → xW xSC 134 25 [.ref a0, .int a1, .int a2, .int a3] ([.int y0]) M Q = Q (some (.int y0)) M) :=
  ⟨fun a0 a1 a2 a3 st M Q => xw_s rfl rfl,
  fun a0 a1 a2 a3 y0 M Q h0 => xw_retz rfl rfl h0⟩
