set_option maxRecDepth 20000 in
theorem s168 :
  (∀ (a0 : Nat) (a1 : Int32) (a2 : Int32) (a3 : Int32) (st : List Value) (M : xM) (Q : Option Value → xM → Prop), xW xSR 168 0 [.ref a0, .int a1, .int a2, .int a3] (st) M Q = xW xSR 168 1 [.ref a0, .int a1, .int a2, .int a3] (.ref a0 :: st) M Q) ∧
  (∀ (a0 : Nat) (a1 : Int32) (a2 : Int32) (a3 : Int32) (st : List Value) (M : xM) (Q : Option Value → xM → Prop), xW xSR 168 1 [.ref a0, .int a1, .int a2, .int a3] (.ref 0 :: st) M Q = xW xSR 168 4 [.ref a0, .int a1, .int a2, .int a3] (.ref 1 :: st) M Q) ∧
  (∀ (a0 : Nat) (a1 : Int32) (a2 : Int32) (a3 : Int32) (st : List Value) (M : xM) (Q : Option Value → xM → Prop), xW xSR 168 4 [.ref a0, .int a1, .int a2, .int a3] (st) M Q = xW xSR 168 6 [.ref a0, .int a1, .int a2, .int a3] (.int (nI 51) :: st) M Q) ∧
  (∀ (a0 : Nat) (a1 : Int32) (a2 : Int32) (a3 : Int32) (st : List Value) (M : xM) (Q : Option Value → xM → Prop), xW xSR 168 6 [.ref a0, .int a1, .int a2, .int a3] (st) M Q = xW xSR 168 7 [.ref a0, .int a1, .int a2, .int a3] (.int (nI 3) :: st) M Q) ∧
  (∀ (a0 : Nat) (a1 : Int32) (a2 : Int32) (a3 : Int32) (st : List Value) (M : xM) (Q : Option Value → xM → Prop), xW xSR 168 7 [.ref a0, .int a1, .int a2, .int a3] (st) M Q = xW xSR 168 8 [.ref a0, .int a1, .int a2, .int a3] (.int a1 :: st) M Q) ∧
  (∀ (a0 : Nat) (a1 : Int32) (a2 : Int32) (a3 : Int32) (y0 : Int32) (y1 : Int32) (st : List Value) (M : xM) (Q : Option Value → xM → Prop), xW xSR 168 8 [.ref a0, .int a1, .int a2, .int a3] (.int y0 :: .int y1 :: st) M Q = xW xSR 168 9 [.ref a0, .int a1, .int a2, .int a3] (.int (y1 * y0) :: st) M Q) ∧
  (∀ (a0 : Nat) (a1 : Int32) (a2 : Int32) (a3 : Int32) (y0 : Int32) (y1 : Int32) (st : List Value) (M : xM) (Q : Option Value → xM → Prop), xW xSR 168 9 [.ref a0, .int a1, .int a2, .int a3] (.int y0 :: .int y1 :: st) M Q = xW xSR 168 10 [.ref a0, .int a1, .int a2, .int a3] (.int (y1 + y0) :: st) M Q) ∧
  (∀ (a0 : Nat) (a1 : Int32) (a2 : Int32) (a3 : Int32) (st : List Value) (M : xM) (Q : Option Value → xM → Prop), xW xSR 168 10 [.ref a0, .int a1, .int a2, .int a3] (st) M Q = xW xSR 168 11 [.ref a0, .int a1, .int a2, .int a3] (.int (nI 1) :: st) M Q) ∧
  (∀ (a0 : Nat) (a1 : Int32) (a2 : Int32) (a3 : Int32) (y0 : Int32) (y1 : Int32) (st : List Value) (M : xM) (Q : Option Value → xM → Prop), xW xSR 168 11 [.ref a0, .int a1, .int a2, .int a3] (.int y0 :: .int y1 :: st) M Q = xW xSR 168 12 [.ref a0, .int a1, .int a2, .int a3] (.int (y1 + y0) :: st) M Q) ∧
  (∀ (a0 : Nat) (a1 : Int32) (a2 : Int32) (a3 : Int32) (y0 : Nat) (st : List Value) (M : xM) (Q : Option Value → xM → Prop), y0 < 156 → xW xSR 168 12 [.ref a0, .int a1, .int a2, .int a3] (.int (nI y0) :: .ref 1 :: st) M Q = xW xSR 168 13 [.ref a0, .int a1, .int a2, .int a3] (.int (M 1 y0) :: st) M Q) ∧
  (∀ (a0 : Nat) (a1 : Int32) (a2 : Int32) (a3 : Int32) (y0 : Int32) (st : List Value) (M : xM) (Q : Option Value → xM → Prop), xW xSR 168 13 [.ref a0, .int a1, .int a2, .int a3] (.int y0 :: st) M Q = if y0 = nI 0 then xW xSR 168 26 [.ref a0, .int a1, .int a2, .int a3] (st) M Q else xW xSR 168 16 [.ref a0, .int a1, .int a2, .int a3] (st) M Q) ∧
  (∀ (a0 : Nat) (a1 : Int32) (a2 : Int32) (a3 : Int32) (st : List Value) (M : xM) (Q : Option Value → xM → Prop), xW xSR 168 16 [.ref a0, .int a1, .int a2, .int a3] (st) M Q = xW xSR 168 17 [.ref a0, .int a1, .int a2, .int a3] (.ref a0 :: st) M Q) ∧
  (∀ (a0 : Nat) (a1 : Int32) (a2 : Int32) (a3 : Int32) (st : List Value) (M : xM) (Q : Option Value → xM → Prop), xW xSR 168 17 [.ref a0, .int a1, .int a2, .int a3] (st) M Q = xW xSR 168 18 [.ref a0, .int a1, .int a2, .int a3] (.int a2 :: st) M Q) ∧
  (∀ (a0 : Nat) (a1 : Int32) (a2 : Int32) (a3 : Int32) (st : List Value) (M : xM) (Q : Option Value → xM → Prop), xW xSR 168 18 [.ref a0, .int a1, .int a2, .int a3] (st) M Q = xW xSR 168 19 [.ref a0, .int a1, .int a2, .int a3] (.int a3 :: st) M Q) ∧
  (∀ (a0 : Nat) (a1 : Int32) (a2 : Int32) (a3 : Int32) (y0 : Int32) (y1 : Int32) (M : xM) (Q : Option Value → xM → Prop), xW xSR 168 19 [.ref a0, .int a1, .int a2, .int a3] (.int y0 :: .int y1 :: .ref 0 :: []) M Q = xW xSR 161 0 [.ref 0, .int y1, .int y0, .null] [] M (fun v M' => xW xSR 168 22 [.ref a0, .int a1, .int a2, .int a3] (xpush v []) M' Q)) ∧
  (∀ (a0 : Nat) (a1 : Int32) (a2 : Int32) (a3 : Int32) (st : List Value) (M : xM) (Q : Option Value → xM → Prop), xW xSR 168 22 [.ref a0, .int a1, .int a2, .int a3] (st) M Q = xW xSR 168 23 [.ref a0, .int a1, .int a2, .int a3] (.int (nI 1) :: st) M Q) ∧
  (∀ (a0 : Nat) (a1 : Int32) (a2 : Int32) (a3 : Int32) (y0 : Int32) (y1 : Int32) (st : List Value) (M : xM) (Q : Option Value → xM → Prop), xW xSR 168 23 [.ref a0, .int a1, .int a2, .int a3] (.int y0 :: .int y1 :: st) M Q = if y1 = y0 then xW xSR 168 30 [.ref a0, .int a1, .int a2, .int a3] (st) M Q else xW xSR 168 26 [.ref a0, .int a1, .int a2, .int a3] (st) M Q) ∧
  (∀ (a0 : Nat) (a1 : Int32) (a2 : Int32) (a3 : Int32) (st : List Value) (M : xM) (Q : Option Value → xM → Prop), xW xSR 168 27 [.ref a0, .int a1, .int a2, .int a3] (st) M Q = xW xSR 168 31 [.ref a0, .int a1, .int a2, .int a3] (st) M Q) ∧
  (∀ (a0 : Nat) (a1 : Int32) (a2 : Int32) (a3 : Int32) (st : List Value) (M : xM) (Q : Option Value → xM → Prop), xW xSR 168 30 [.ref a0, .int a1, .int a2, .int a3] (st) M Q = xW xSR 168 31 [.ref a0, .int a1, .int a2, .int a3] (.int (nI 0) :: st) M Q) :=
  ⟨fun a0 a1 a2 a3 st M Q => xw_s rfl rfl,
  fun a0 a1 a2 a3 st M Q => xw_s rfl rfl,
  fun a0 a1 a2 a3 st M Q => xw_s rfl rfl,
  fun a0 a1 a2 a3 st M Q => xw_s rfl rfl,
  fun a0 a1 a2 a3 st M Q => xw_s rfl rfl,
  fun a0 a1 a2 a3 y0 y1 st M Q => xw_s rfl rfl,
  fun a0 a1 a2 a3 y0 y1 st M Q => xw_s rfl rfl,
  fun a0 a1 a2 a3 st M Q => xw_s rfl rfl,
  fun a0 a1 a2 a3 y0 y1 st M Q => xw_s rfl rfl,
  fun a0 a1 a2 a3 y0 st M Q h0 => xw_ald rfl rfl rfl (by decide) h0,
  fun a0 a1 a2 a3 y0 st M Q => xw_br (c0 := y0 = nI 0) rfl rfl,
  fun a0 a1 a2 a3 st M Q => xw_s rfl rfl,
  fun a0 a1 a2 a3 st M Q => xw_s rfl rfl,
  fun a0 a1 a2 a3 st M Q => xw_s rfl rfl,
  fun a0 a1 a2 a3 y0 y1 M Q => xw_call rfl rfl rfl,
  fun a0 a1 a2 a3 st M Q => xw_s rfl rfl,
  fun a0 a1 a2 a3 y0 y1 st M Q => xw_br (c0 := y1 = y0) rfl rfl,
  fun a0 a1 a2 a3 st M Q => xw_s rfl rfl,
  fun a0 a1 a2 a3 st M Q => xw_s rfl rfl⟩
set_option maxRecDepth 20000 in
theorem h168_26 :
  (∀ (a0 : Nat) (a1 : Int32) (a2 : Int32) (a3 : Int32) (st : List Value) (M : xM) (Q : Option Value → xM → Prop), xW xSR 168 26 [.ref a0, .int a1, .int a2, .int a3] (st) M Q = xW xSR 168 27 [.ref a0, .int a1, .int a2, .int a3] (.int (nI 1) :: st) M Q) :=
  fun a0 a1 a2 a3 st M Q => xw_s rfl rfl
set_option maxRecDepth 20000 in
theorem h168_31 :
  (∀ (a0 : Nat) (a1 : Int32) (a2 : Int32) (a3 : Int32) (y0 : Int32) (M : xM) (Q : Option Value → xM → Prop), y0 = 0 ∨ y0 = 1 → xW xSR 168 31 [.ref a0, .int a1, .int a2, .int a3] ([.int y0]) M Q = Q (some (.int y0)) M) :=
  fun a0 a1 a2 a3 y0 M Q h0 => xw_retz rfl rfl h0
set_option maxRecDepth 20000 in
theorem j168 :
  (∀ (a0 : Nat) (a1 : Int32) (a2 : Int32) (a3 : Int32) (st : List Value) (M : xM) (Q : Option Value → xM → Prop), xW xSR 168 26 [.ref a0, .int a1, .int a2, .int a3] (st) M Q = xW xSR 168 27 [.ref a0, .int a1, .int a2, .int a3] (.int (nI 1) :: st) M Q) ∧
  (∀ (a0 : Nat) (a1 : Int32) (a2 : Int32) (a3 : Int32) (y0 : Int32) (M : xM) (Q : Option Value → xM → Prop), y0 = 0 ∨ y0 = 1 → xW xSR 168 31 [.ref a0, .int a1, .int a2, .int a3] ([.int y0]) M Q = Q (some (.int y0)) M) :=
  ⟨fun a0 a1 a2 a3 st M Q => xw_s rfl rfl,
  fun a0 a1 a2 a3 y0 M Q h0 => xw_retz rfl rfl h0⟩

set_option maxRecDepth 20000 in
theorem s169 :
  (∀ (a0 : Nat) (a1 : Int32) (a2 : Int32) (a3 : Int32) (a4 : Int32) (a5 : Int32) (st : List Value) (M : xM) (Q : Option Value → xM → Prop), xW xSR 169 0 [.ref a0, .int a1, .int a2, .int a3, .int a4, .int a5] (st) M Q = xW xSR 169 1 [.ref a0, .int a1, .int a2, .int a3, .int a4, .int a5] (.ref a0 :: st) M Q) ∧
  (∀ (a0 : Nat) (a1 : Int32) (a2 : Int32) (a3 : Int32) (a4 : Int32) (a5 : Int32) (st : List Value) (M : xM) (Q : Option Value → xM → Prop), xW xSR 169 1 [.ref a0, .int a1, .int a2, .int a3, .int a4, .int a5] (st) M Q = xW xSR 169 2 [.ref a0, .int a1, .int a2, .int a3, .int a4, .int a5] (.int a1 :: st) M Q) ∧
  (∀ (a0 : Nat) (a1 : Int32) (a2 : Int32) (a3 : Int32) (a4 : Int32) (a5 : Int32) (st : List Value) (M : xM) (Q : Option Value → xM → Prop), xW xSR 169 2 [.ref a0, .int a1, .int a2, .int a3, .int a4, .int a5] (st) M Q = xW xSR 169 3 [.ref a0, .int a1, .int a2, .int a3, .int a4, .int a5] (.int a2 :: st) M Q) ∧
  (∀ (a0 : Nat) (a1 : Int32) (a2 : Int32) (a3 : Int32) (a4 : Int32) (a5 : Int32) (st : List Value) (M : xM) (Q : Option Value → xM → Prop), xW xSR 169 3 [.ref a0, .int a1, .int a2, .int a3, .int a4, .int a5] (st) M Q = xW xSR 169 4 [.ref a0, .int a1, .int a2, .int a3, .int a4, .int a5] (.int a3 :: st) M Q) ∧
  (∀ (a0 : Nat) (a1 : Int32) (a2 : Int32) (a3 : Int32) (a4 : Int32) (a5 : Int32) (st : List Value) (M : xM) (Q : Option Value → xM → Prop), xW xSR 169 4 [.ref a0, .int a1, .int a2, .int a3, .int a4, .int a5] (st) M Q = xW xSR 169 6 [.ref a0, .int a1, .int a2, .int a3, .int a4, .int a5] (.int a4 :: st) M Q) ∧
  (∀ (a0 : Nat) (a1 : Int32) (a2 : Int32) (a3 : Int32) (a4 : Int32) (a5 : Int32) (y0 : Int32) (y1 : Int32) (y2 : Int32) (y3 : Int32) (M : xM) (Q : Option Value → xM → Prop), xW xSR 169 6 [.ref a0, .int a1, .int a2, .int a3, .int a4, .int a5] (.int y0 :: .int y1 :: .int y2 :: .int y3 :: .ref 0 :: []) M Q = xW xSR 164 0 [.ref 0, .int y3, .int y2, .int y1, .int y0, .null, .null, .null] [] M (fun v M' => xW xSR 169 9 [.ref a0, .int a1, .int a2, .int a3, .int a4, .int a5] (xpush v []) M' Q)) ∧
  (∀ (a0 : Nat) (a1 : Int32) (a2 : Int32) (a3 : Int32) (a4 : Int32) (a5 : Int32) (st : List Value) (M : xM) (Q : Option Value → xM → Prop), xW xSR 169 9 [.ref a0, .int a1, .int a2, .int a3, .int a4, .int a5] (st) M Q = xW xSR 169 10 [.ref a0, .int a1, .int a2, .int a3, .int a4, .int a5] (.ref a0 :: st) M Q) ∧
  (∀ (a0 : Nat) (a1 : Int32) (a2 : Int32) (a3 : Int32) (a4 : Int32) (a5 : Int32) (st : List Value) (M : xM) (Q : Option Value → xM → Prop), xW xSR 169 10 [.ref a0, .int a1, .int a2, .int a3, .int a4, .int a5] (st) M Q = xW xSR 169 11 [.ref a0, .int a1, .int a2, .int a3, .int a4, .int a5] (.int a1 :: st) M Q) ∧
  (∀ (a0 : Nat) (a1 : Int32) (a2 : Int32) (a3 : Int32) (a4 : Int32) (a5 : Int32) (st : List Value) (M : xM) (Q : Option Value → xM → Prop), xW xSR 169 11 [.ref a0, .int a1, .int a2, .int a3, .int a4, .int a5] (st) M Q = xW xSR 169 12 [.ref a0, .int a1, .int a2, .int a3, .int a4, .int a5] (.int a2 :: st) M Q) ∧
  (∀ (a0 : Nat) (a1 : Int32) (a2 : Int32) (a3 : Int32) (a4 : Int32) (a5 : Int32) (st : List Value) (M : xM) (Q : Option Value → xM → Prop), xW xSR 169 12 [.ref a0, .int a1, .int a2, .int a3, .int a4, .int a5] (st) M Q = xW xSR 169 13 [.ref a0, .int a1, .int a2, .int a3, .int a4, .int a5] (.int a3 :: st) M Q) ∧
  (∀ (a0 : Nat) (a1 : Int32) (a2 : Int32) (a3 : Int32) (a4 : Int32) (a5 : Int32) (st : List Value) (M : xM) (Q : Option Value → xM → Prop), xW xSR 169 13 [.ref a0, .int a1, .int a2, .int a3, .int a4, .int a5] (st) M Q = xW xSR 169 15 [.ref a0, .int a1, .int a2, .int a3, .int a4, .int a5] (.int a5 :: st) M Q) ∧
  (∀ (a0 : Nat) (a1 : Int32) (a2 : Int32) (a3 : Int32) (a4 : Int32) (a5 : Int32) (y0 : Int32) (y1 : Int32) (y2 : Int32) (y3 : Int32) (M : xM) (Q : Option Value → xM → Prop), xW xSR 169 15 [.ref a0, .int a1, .int a2, .int a3, .int a4, .int a5] (.int y0 :: .int y1 :: .int y2 :: .int y3 :: .ref 0 :: []) M Q = xW xSR 167 0 [.ref 0, .int y3, .int y2, .int y1, .int y0, .null, .null] [] M (fun v M' => xW xSR 169 18 [.ref a0, .int a1, .int a2, .int a3, .int a4, .int a5] (xpush v []) M' Q)) ∧
  (∀ (a0 : Nat) (a1 : Int32) (a2 : Int32) (a3 : Int32) (a4 : Int32) (a5 : Int32) (st : List Value) (M : xM) (Q : Option Value → xM → Prop), xW xSR 169 18 [.ref a0, .int a1, .int a2, .int a3, .int a4, .int a5] (st) M Q = xW xSR 169 21 [.ref a0, .int a1, .int a2, .int a3, .int a4, .int a5] (.long (lN 1000) :: st) M Q) ∧
  (∀ (a0 : Nat) (a1 : Int32) (a2 : Int32) (a3 : Int32) (a4 : Int32) (a5 : Int32) (st : List Value) (M : xM) (Q : Option Value → xM → Prop), xW xSR 169 21 [.ref a0, .int a1, .int a2, .int a3, .int a4, .int a5] (st) M Q = xW xSR 169 22 [.ref a0, .int a1, .int a2, .int a3, .int a4, .int a5] (.ref a0 :: st) M Q) ∧
  (∀ (a0 : Nat) (a1 : Int32) (a2 : Int32) (a3 : Int32) (a4 : Int32) (a5 : Int32) (st : List Value) (M : xM) (Q : Option Value → xM → Prop), xW xSR 169 22 [.ref a0, .int a1, .int a2, .int a3, .int a4, .int a5] (.ref 0 :: st) M Q = xW xSR 169 25 [.ref a0, .int a1, .int a2, .int a3, .int a4, .int a5] (.int (M 0 7) :: st) M Q) ∧
  (∀ (a0 : Nat) (a1 : Int32) (a2 : Int32) (a3 : Int32) (a4 : Int32) (a5 : Int32) (y0 : Int32) (st : List Value) (M : xM) (Q : Option Value → xM → Prop), xW xSR 169 25 [.ref a0, .int a1, .int a2, .int a3, .int a4, .int a5] (.int y0 :: st) M Q = xW xSR 169 26 [.ref a0, .int a1, .int a2, .int a3, .int a4, .int a5] (.long y0.toInt64 :: st) M Q) ∧
  (∀ (a0 : Nat) (a1 : Int32) (a2 : Int32) (a3 : Int32) (a4 : Int32) (a5 : Int32) (y0 : Int64) (y1 : Int64) (st : List Value) (M : xM) (Q : Option Value → xM → Prop), xW xSR 169 26 [.ref a0, .int a1, .int a2, .int a3, .int a4, .int a5] (.long y0 :: .long y1 :: st) M Q = xW xSR 169 27 [.ref a0, .int a1, .int a2, .int a3, .int a4, .int a5] (.long (y1 * y0) :: st) M Q) ∧
  (∀ (a0 : Nat) (a1 : Int32) (a2 : Int32) (a3 : Int32) (a4 : Int32) (a5 : Int32) (st : List Value) (M : xM) (Q : Option Value → xM → Prop), xW xSR 169 27 [.ref a0, .int a1, .int a2, .int a3, .int a4, .int a5] (st) M Q = xW xSR 169 28 [.ref a0, .int a1, .int a2, .int a3, .int a4, .int a5] (.ref a0 :: st) M Q) ∧
  (∀ (a0 : Nat) (a1 : Int32) (a2 : Int32) (a3 : Int32) (a4 : Int32) (a5 : Int32) (st : List Value) (M : xM) (Q : Option Value → xM → Prop), xW xSR 169 28 [.ref a0, .int a1, .int a2, .int a3, .int a4, .int a5] (.ref 0 :: st) M Q = xW xSR 169 31 [.ref a0, .int a1, .int a2, .int a3, .int a4, .int a5] (.int (M 0 8) :: st) M Q) ∧
  (∀ (a0 : Nat) (a1 : Int32) (a2 : Int32) (a3 : Int32) (a4 : Int32) (a5 : Int32) (y0 : Int32) (st : List Value) (M : xM) (Q : Option Value → xM → Prop), xW xSR 169 31 [.ref a0, .int a1, .int a2, .int a3, .int a4, .int a5] (.int y0 :: st) M Q = xW xSR 169 32 [.ref a0, .int a1, .int a2, .int a3, .int a4, .int a5] (.long y0.toInt64 :: st) M Q) ∧
  (∀ (a0 : Nat) (a1 : Int32) (a2 : Int32) (a3 : Int32) (a4 : Int32) (a5 : Int32) (y0 : Nat) (y1 : Int64) (st : List Value) (M : xM) (Q : Option Value → xM → Prop), 0 < y0 → y0 < 2 ^ 31 → xW xSR 169 32 [.ref a0, .int a1, .int a2, .int a3, .int a4, .int a5] (.long (lN y0) :: .long y1 :: st) M Q = xW xSR 169 33 [.ref a0, .int a1, .int a2, .int a3, .int a4, .int a5] (.long (y1 / lN y0) :: st) M Q) ∧
  (∀ (a0 : Nat) (a1 : Int32) (a2 : Int32) (a3 : Int32) (a4 : Int32) (a5 : Int32) (y0 : Int64) (st : List Value) (M : xM) (Q : Option Value → xM → Prop), xW xSR 169 33 [.ref a0, .int a1, .int a2, .int a3, .int a4, .int a5] (.long y0 :: st) M Q = xW xSR 169 34 [.ref a0, .int a1, .int a2, .int a3, .int a4, .int a5] (.int y0.toInt32 :: st) M Q) ∧
  (∀ (a0 : Nat) (a1 : Int32) (a2 : Int32) (a3 : Int32) (a4 : Int32) (a5 : Int32) (y0 : Int32) (M : xM) (Q : Option Value → xM → Prop), xW xSR 169 34 [.ref a0, .int a1, .int a2, .int a3, .int a4, .int a5] ([.int y0]) M Q = Q (some (.int y0)) M) :=
  ⟨fun a0 a1 a2 a3 a4 a5 st M Q => xw_s rfl rfl,
  fun a0 a1 a2 a3 a4 a5 st M Q => xw_s rfl rfl,
  fun a0 a1 a2 a3 a4 a5 st M Q => xw_s rfl rfl,
  fun a0 a1 a2 a3 a4 a5 st M Q => xw_s rfl rfl,
  fun a0 a1 a2 a3 a4 a5 st M Q => xw_s rfl rfl,
  fun a0 a1 a2 a3 a4 a5 y0 y1 y2 y3 M Q => xw_call rfl rfl rfl,
  fun a0 a1 a2 a3 a4 a5 st M Q => xw_s rfl rfl,
  fun a0 a1 a2 a3 a4 a5 st M Q => xw_s rfl rfl,
  fun a0 a1 a2 a3 a4 a5 st M Q => xw_s rfl rfl,
  fun a0 a1 a2 a3 a4 a5 st M Q => xw_s rfl rfl,
  fun a0 a1 a2 a3 a4 a5 st M Q => xw_s rfl rfl,
  fun a0 a1 a2 a3 a4 a5 y0 y1 y2 y3 M Q => xw_call rfl rfl rfl,
  fun a0 a1 a2 a3 a4 a5 st M Q => xw_s rfl rfl,
  fun a0 a1 a2 a3 a4 a5 st M Q => xw_s rfl rfl,
  fun a0 a1 a2 a3 a4 a5 st M Q => xw_s rfl rfl,
  fun a0 a1 a2 a3 a4 a5 y0 st M Q => xw_s rfl rfl,
  fun a0 a1 a2 a3 a4 a5 y0 y1 st M Q => xw_s rfl rfl,
  fun a0 a1 a2 a3 a4 a5 st M Q => xw_s rfl rfl,
  fun a0 a1 a2 a3 a4 a5 st M Q => xw_s rfl rfl,
  fun a0 a1 a2 a3 a4 a5 y0 st M Q => xw_s rfl rfl,
  fun a0 a1 a2 a3 a4 a5 y0 y1 st M Q h0 h1 => xw_ldiv (f := fun x y => x / y) rfl rfl (lN_ne0 h0 h1),
  fun a0 a1 a2 a3 a4 a5 y0 st M Q => xw_s rfl rfl,
  fun a0 a1 a2 a3 a4 a5 y0 M Q => xw_ret rfl rfl⟩
theorem j169 : True := trivial

set_option maxRecDepth 20000 in
theorem s170 :
  (∀ (a0 : Nat) (a1 : Int32) (a2 : Int32) (a3 : Int32) (a4 : Int32) (st : List Value) (M : xM) (Q : Option Value → xM → Prop), xW xSR 170 0 [.ref a0, .int a1, .int a2, .int a3, .int a4] (st) M Q = xW xSR 170 1 [.ref a0, .int a1, .int a2, .int a3, .int a4] (.ref a0 :: st) M Q) ∧
  (∀ (a0 : Nat) (a1 : Int32) (a2 : Int32) (a3 : Int32) (a4 : Int32) (st : List Value) (M : xM) (Q : Option Value → xM → Prop), xW xSR 170 1 [.ref a0, .int a1, .int a2, .int a3, .int a4] (st) M Q = xW xSR 170 2 [.ref a0, .int a1, .int a2, .int a3, .int a4] (.int a1 :: st) M Q) ∧
  (∀ (a0 : Nat) (a1 : Int32) (a2 : Int32) (a3 : Int32) (a4 : Int32) (y0 : Int32) (M : xM) (Q : Option Value → xM → Prop), xW xSR 170 2 [.ref a0, .int a1, .int a2, .int a3, .int a4] (.int y0 :: .ref 0 :: []) M Q = xW xSR 141 0 [.ref 0, .int y0] [] M (fun v M' => xW xSR 170 5 [.ref a0, .int a1, .int a2, .int a3, .int a4] (xpush v []) M' Q)) ∧
  (∀ (a0 : Nat) (a1 : Int32) (a2 : Int32) (a3 : Int32) (a4 : Int32) (y0 : Int32) (st : List Value) (M : xM) (Q : Option Value → xM → Prop), xW xSR 170 5 [.ref a0, .int a1, .int a2, .int a3, .int a4] (.int y0 :: st) M Q = if y0 = nI 0 then xW xSR 170 34 [.ref a0, .int a1, .int a2, .int a3, .int a4] (st) M Q else xW xSR 170 8 [.ref a0, .int a1, .int a2, .int a3, .int a4] (st) M Q) ∧
  (∀ (a0 : Nat) (a1 : Int32) (a2 : Int32) (a3 : Int32) (a4 : Int32) (st : List Value) (M : xM) (Q : Option Value → xM → Prop), xW xSR 170 8 [.ref a0, .int a1, .int a2, .int a3, .int a4] (st) M Q = xW xSR 170 9 [.ref a0, .int a1, .int a2, .int a3, .int a4] (.ref a0 :: st) M Q) ∧
  (∀ (a0 : Nat) (a1 : Int32) (a2 : Int32) (a3 : Int32) (a4 : Int32) (st : List Value) (M : xM) (Q : Option Value → xM → Prop), xW xSR 170 9 [.ref a0, .int a1, .int a2, .int a3, .int a4] (st) M Q = xW xSR 170 10 [.ref a0, .int a1, .int a2, .int a3, .int a4] (.int a2 :: st) M Q) ∧
  (∀ (a0 : Nat) (a1 : Int32) (a2 : Int32) (a3 : Int32) (a4 : Int32) (y0 : Int32) (M : xM) (Q : Option Value → xM → Prop), xW xSR 170 10 [.ref a0, .int a1, .int a2, .int a3, .int a4] (.int y0 :: .ref 0 :: []) M Q = xW xSR 140 0 [.ref 0, .int y0] [] M (fun v M' => xW xSR 170 13 [.ref a0, .int a1, .int a2, .int a3, .int a4] (xpush v []) M' Q)) ∧
  (∀ (a0 : Nat) (a1 : Int32) (a2 : Int32) (a3 : Int32) (a4 : Int32) (y0 : Int32) (st : List Value) (M : xM) (Q : Option Value → xM → Prop), xW xSR 170 13 [.ref a0, .int a1, .int a2, .int a3, .int a4] (.int y0 :: st) M Q = if y0 = nI 0 then xW xSR 170 34 [.ref a0, .int a1, .int a2, .int a3, .int a4] (st) M Q else xW xSR 170 16 [.ref a0, .int a1, .int a2, .int a3, .int a4] (st) M Q) ∧
  (∀ (a0 : Nat) (a1 : Int32) (a2 : Int32) (a3 : Int32) (a4 : Int32) (st : List Value) (M : xM) (Q : Option Value → xM → Prop), xW xSR 170 16 [.ref a0, .int a1, .int a2, .int a3, .int a4] (st) M Q = xW xSR 170 17 [.ref a0, .int a1, .int a2, .int a3, .int a4] (.int a3 :: st) M Q) ∧
  (∀ (a0 : Nat) (a1 : Int32) (a2 : Int32) (a3 : Int32) (a4 : Int32) (y0 : Int32) (M : xM) (Q : Option Value → xM → Prop), xW xSR 170 17 [.ref a0, .int a1, .int a2, .int a3, .int a4] (.int y0 :: []) M Q = xW xSR 142 0 [.int y0] [] M (fun v M' => xW xSR 170 20 [.ref a0, .int a1, .int a2, .int a3, .int a4] (xpush v []) M' Q)) ∧
  (∀ (a0 : Nat) (a1 : Int32) (a2 : Int32) (a3 : Int32) (a4 : Int32) (y0 : Int32) (st : List Value) (M : xM) (Q : Option Value → xM → Prop), xW xSR 170 20 [.ref a0, .int a1, .int a2, .int a3, .int a4] (.int y0 :: st) M Q = if y0 = nI 0 then xW xSR 170 34 [.ref a0, .int a1, .int a2, .int a3, .int a4] (st) M Q else xW xSR 170 23 [.ref a0, .int a1, .int a2, .int a3, .int a4] (st) M Q) ∧
  (∀ (a0 : Nat) (a1 : Int32) (a2 : Int32) (a3 : Int32) (a4 : Int32) (st : List Value) (M : xM) (Q : Option Value → xM → Prop), xW xSR 170 23 [.ref a0, .int a1, .int a2, .int a3, .int a4] (st) M Q = xW xSR 170 25 [.ref a0, .int a1, .int a2, .int a3, .int a4] (.int a4 :: st) M Q) ∧
  (∀ (a0 : Nat) (a1 : Int32) (a2 : Int32) (a3 : Int32) (a4 : Int32) (y0 : Int32) (st : List Value) (M : xM) (Q : Option Value → xM → Prop), xW xSR 170 25 [.ref a0, .int a1, .int a2, .int a3, .int a4] (.int y0 :: st) M Q = xW xSR 170 26 [.ref a0, .int a1, .int a2, .int a3, .int a4] (.long y0.toInt64 :: st) M Q) ∧
  (∀ (a0 : Nat) (a1 : Int32) (a2 : Int32) (a3 : Int32) (a4 : Int32) (st : List Value) (M : xM) (Q : Option Value → xM → Prop), xW xSR 170 26 [.ref a0, .int a1, .int a2, .int a3, .int a4] (st) M Q = xW xSR 170 27 [.ref a0, .int a1, .int a2, .int a3, .int a4] (.long (lN 0) :: st) M Q) ∧
  (∀ (a0 : Nat) (a1 : Int32) (a2 : Int32) (a3 : Int32) (a4 : Int32) (st : List Value) (M : xM) (Q : Option Value → xM → Prop), xW xSR 170 27 [.ref a0, .int a1, .int a2, .int a3, .int a4] (st) M Q = xW xSR 170 28 [.ref a0, .int a1, .int a2, .int a3, .int a4] (.long (lN 1) :: st) M Q) ∧
  (∀ (a0 : Nat) (a1 : Int32) (a2 : Int32) (a3 : Int32) (a4 : Int32) (y0 : Int64) (y1 : Int64) (y2 : Int64) (M : xM) (Q : Option Value → xM → Prop), xW xSR 170 28 [.ref a0, .int a1, .int a2, .int a3, .int a4] (.long y0 :: .long y1 :: .long y2 :: []) M Q = xW xSR 135 0 [.long y2, .null, .long y1, .null, .long y0, .null] [] M (fun v M' => xW xSR 170 31 [.ref a0, .int a1, .int a2, .int a3, .int a4] (xpush v []) M' Q)) ∧
  (∀ (a0 : Nat) (a1 : Int32) (a2 : Int32) (a3 : Int32) (a4 : Int32) (y0 : Int32) (st : List Value) (M : xM) (Q : Option Value → xM → Prop), xW xSR 170 31 [.ref a0, .int a1, .int a2, .int a3, .int a4] (.int y0 :: st) M Q = if y0 = nI 0 then xW xSR 170 34 [.ref a0, .int a1, .int a2, .int a3, .int a4] (st) M Q else xW xSR 170 36 [.ref a0, .int a1, .int a2, .int a3, .int a4] (st) M Q) ∧
  (∀ (a0 : Nat) (a1 : Int32) (a2 : Int32) (a3 : Int32) (a4 : Int32) (y0 : Int32) (M : xM) (Q : Option Value → xM → Prop), xW xSR 170 35 [.ref a0, .int a1, .int a2, .int a3, .int a4] ([.int y0]) M Q = Q (some (.int y0)) M) ∧
  (∀ (a0 : Nat) (a1 : Int32) (a2 : Int32) (a3 : Int32) (a4 : Int32) (st : List Value) (M : xM) (Q : Option Value → xM → Prop), xW xSR 170 36 [.ref a0, .int a1, .int a2, .int a3, .int a4] (st) M Q = xW xSR 170 37 [.ref a0, .int a1, .int a2, .int a3, .int a4] (.ref a0 :: st) M Q) ∧
  (∀ (a0 : Nat) (a1 : Int32) (a2 : Int32) (a3 : Int32) (a4 : Int32) (st : List Value) (M : xM) (Q : Option Value → xM → Prop), xW xSR 170 37 [.ref a0, .int a1, .int a2, .int a3, .int a4] (st) M Q = xW xSR 170 38 [.ref a0, .int a1, .int a2, .int a3, .int a4] (.int a1 :: st) M Q) ∧
  (∀ (a0 : Nat) (a1 : Int32) (a2 : Int32) (a3 : Int32) (a4 : Int32) (st : List Value) (M : xM) (Q : Option Value → xM → Prop), xW xSR 170 38 [.ref a0, .int a1, .int a2, .int a3, .int a4] (st) M Q = xW xSR 170 39 [.ref a0, .int a1, .int a2, .int a3, .int a4] (.int a2 :: st) M Q) ∧
  (∀ (a0 : Nat) (a1 : Int32) (a2 : Int32) (a3 : Int32) (a4 : Int32) (st : List Value) (M : xM) (Q : Option Value → xM → Prop), xW xSR 170 39 [.ref a0, .int a1, .int a2, .int a3, .int a4] (st) M Q = xW xSR 170 40 [.ref a0, .int a1, .int a2, .int a3, .int a4] (.int a3 :: st) M Q) ∧
  (∀ (a0 : Nat) (a1 : Int32) (a2 : Int32) (a3 : Int32) (a4 : Int32) (y0 : Int32) (y1 : Int32) (y2 : Int32) (M : xM) (Q : Option Value → xM → Prop), xW xSR 170 40 [.ref a0, .int a1, .int a2, .int a3, .int a4] (.int y0 :: .int y1 :: .int y2 :: .ref 0 :: []) M Q = xW xSR 168 0 [.ref 0, .int y2, .int y1, .int y0] [] M (fun v M' => xW xSR 170 43 [.ref a0, .int a1, .int a2, .int a3, .int a4] (xpush v []) M' Q)) ∧
  (∀ (a0 : Nat) (a1 : Int32) (a2 : Int32) (a3 : Int32) (a4 : Int32) (y0 : Int32) (st : List Value) (M : xM) (Q : Option Value → xM → Prop), xW xSR 170 43 [.ref a0, .int a1, .int a2, .int a3, .int a4] (.int y0 :: st) M Q = if y0 = nI 0 then xW xSR 170 46 [.ref a0, .int a1, .int a2, .int a3, .int a4] (st) M Q else xW xSR 170 49 [.ref a0, .int a1, .int a2, .int a3, .int a4] (st) M Q) ∧
  (∀ (a0 : Nat) (a1 : Int32) (a2 : Int32) (a3 : Int32) (a4 : Int32) (st : List Value) (M : xM) (Q : Option Value → xM → Prop), xW xSR 170 46 [.ref a0, .int a1, .int a2, .int a3, .int a4] (st) M Q = xW xSR 170 48 [.ref a0, .int a1, .int a2, .int a3, .int a4] (.int (-4) :: st) M Q) ∧
  (∀ (a0 : Nat) (a1 : Int32) (a2 : Int32) (a3 : Int32) (a4 : Int32) (y0 : Int32) (M : xM) (Q : Option Value → xM → Prop), xW xSR 170 48 [.ref a0, .int a1, .int a2, .int a3, .int a4] ([.int y0]) M Q = Q (some (.int y0)) M) ∧
  (∀ (a0 : Nat) (a1 : Int32) (a2 : Int32) (a3 : Int32) (a4 : Int32) (st : List Value) (M : xM) (Q : Option Value → xM → Prop), xW xSR 170 49 [.ref a0, .int a1, .int a2, .int a3, .int a4] (st) M Q = xW xSR 170 50 [.ref a0, .int a1, .int a2, .int a3, .int a4] (.ref a0 :: st) M Q) ∧
  (∀ (a0 : Nat) (a1 : Int32) (a2 : Int32) (a3 : Int32) (a4 : Int32) (st : List Value) (M : xM) (Q : Option Value → xM → Prop), xW xSR 170 50 [.ref a0, .int a1, .int a2, .int a3, .int a4] (st) M Q = xW xSR 170 51 [.ref a0, .int a1, .int a2, .int a3, .int a4] (.int a1 :: st) M Q) ∧
  (∀ (a0 : Nat) (a1 : Int32) (a2 : Int32) (a3 : Int32) (a4 : Int32) (st : List Value) (M : xM) (Q : Option Value → xM → Prop), xW xSR 170 51 [.ref a0, .int a1, .int a2, .int a3, .int a4] (st) M Q = xW xSR 170 52 [.ref a0, .int a1, .int a2, .int a3, .int a4] (.int a2 :: st) M Q) ∧
  (∀ (a0 : Nat) (a1 : Int32) (a2 : Int32) (a3 : Int32) (a4 : Int32) (st : List Value) (M : xM) (Q : Option Value → xM → Prop), xW xSR 170 52 [.ref a0, .int a1, .int a2, .int a3, .int a4] (st) M Q = xW xSR 170 53 [.ref a0, .int a1, .int a2, .int a3, .int a4] (.int a3 :: st) M Q) ∧
  (∀ (a0 : Nat) (a1 : Int32) (a2 : Int32) (a3 : Int32) (a4 : Int32) (st : List Value) (M : xM) (Q : Option Value → xM → Prop), xW xSR 170 53 [.ref a0, .int a1, .int a2, .int a3, .int a4] (st) M Q = xW xSR 170 54 [.ref a0, .int a1, .int a2, .int a3, .int a4] (.ref a0 :: st) M Q) ∧
  (∀ (a0 : Nat) (a1 : Int32) (a2 : Int32) (a3 : Int32) (a4 : Int32) (st : List Value) (M : xM) (Q : Option Value → xM → Prop), xW xSR 170 54 [.ref a0, .int a1, .int a2, .int a3, .int a4] (.ref 0 :: st) M Q = xW xSR 170 57 [.ref a0, .int a1, .int a2, .int a3, .int a4] (.ref 1 :: st) M Q) ∧
  (∀ (a0 : Nat) (a1 : Int32) (a2 : Int32) (a3 : Int32) (a4 : Int32) (st : List Value) (M : xM) (Q : Option Value → xM → Prop), xW xSR 170 57 [.ref a0, .int a1, .int a2, .int a3, .int a4] (st) M Q = xW xSR 170 59 [.ref a0, .int a1, .int a2, .int a3, .int a4] (.int (nI 51) :: st) M Q) ∧
  (∀ (a0 : Nat) (a1 : Int32) (a2 : Int32) (a3 : Int32) (a4 : Int32) (st : List Value) (M : xM) (Q : Option Value → xM → Prop), xW xSR 170 59 [.ref a0, .int a1, .int a2, .int a3, .int a4] (st) M Q = xW xSR 170 60 [.ref a0, .int a1, .int a2, .int a3, .int a4] (.int (nI 3) :: st) M Q) ∧
  (∀ (a0 : Nat) (a1 : Int32) (a2 : Int32) (a3 : Int32) (a4 : Int32) (st : List Value) (M : xM) (Q : Option Value → xM → Prop), xW xSR 170 60 [.ref a0, .int a1, .int a2, .int a3, .int a4] (st) M Q = xW xSR 170 61 [.ref a0, .int a1, .int a2, .int a3, .int a4] (.int a1 :: st) M Q) ∧
  (∀ (a0 : Nat) (a1 : Int32) (a2 : Int32) (a3 : Int32) (a4 : Int32) (y0 : Int32) (y1 : Int32) (st : List Value) (M : xM) (Q : Option Value → xM → Prop), xW xSR 170 61 [.ref a0, .int a1, .int a2, .int a3, .int a4] (.int y0 :: .int y1 :: st) M Q = xW xSR 170 62 [.ref a0, .int a1, .int a2, .int a3, .int a4] (.int (y1 * y0) :: st) M Q) ∧
  (∀ (a0 : Nat) (a1 : Int32) (a2 : Int32) (a3 : Int32) (a4 : Int32) (y0 : Int32) (y1 : Int32) (st : List Value) (M : xM) (Q : Option Value → xM → Prop), xW xSR 170 62 [.ref a0, .int a1, .int a2, .int a3, .int a4] (.int y0 :: .int y1 :: st) M Q = xW xSR 170 63 [.ref a0, .int a1, .int a2, .int a3, .int a4] (.int (y1 + y0) :: st) M Q) ∧
  (∀ (a0 : Nat) (a1 : Int32) (a2 : Int32) (a3 : Int32) (a4 : Int32) (st : List Value) (M : xM) (Q : Option Value → xM → Prop), xW xSR 170 63 [.ref a0, .int a1, .int a2, .int a3, .int a4] (st) M Q = xW xSR 170 64 [.ref a0, .int a1, .int a2, .int a3, .int a4] (.int (nI 2) :: st) M Q) ∧
  (∀ (a0 : Nat) (a1 : Int32) (a2 : Int32) (a3 : Int32) (a4 : Int32) (y0 : Int32) (y1 : Int32) (st : List Value) (M : xM) (Q : Option Value → xM → Prop), xW xSR 170 64 [.ref a0, .int a1, .int a2, .int a3, .int a4] (.int y0 :: .int y1 :: st) M Q = xW xSR 170 65 [.ref a0, .int a1, .int a2, .int a3, .int a4] (.int (y1 + y0) :: st) M Q) ∧
  (∀ (a0 : Nat) (a1 : Int32) (a2 : Int32) (a3 : Int32) (a4 : Int32) (y0 : Nat) (st : List Value) (M : xM) (Q : Option Value → xM → Prop), y0 < 156 → xW xSR 170 65 [.ref a0, .int a1, .int a2, .int a3, .int a4] (.int (nI y0) :: .ref 1 :: st) M Q = xW xSR 170 66 [.ref a0, .int a1, .int a2, .int a3, .int a4] (.int (M 1 y0) :: st) M Q) ∧
  (∀ (a0 : Nat) (a1 : Int32) (a2 : Int32) (a3 : Int32) (a4 : Int32) (st : List Value) (M : xM) (Q : Option Value → xM → Prop), xW xSR 170 66 [.ref a0, .int a1, .int a2, .int a3, .int a4] (st) M Q = xW xSR 170 67 [.ref a0, .int a1, .int a2, .int a3, .int a4] (.ref a0 :: st) M Q) ∧
  (∀ (a0 : Nat) (a1 : Int32) (a2 : Int32) (a3 : Int32) (a4 : Int32) (st : List Value) (M : xM) (Q : Option Value → xM → Prop), xW xSR 170 67 [.ref a0, .int a1, .int a2, .int a3, .int a4] (.ref 0 :: st) M Q = xW xSR 170 70 [.ref a0, .int a1, .int a2, .int a3, .int a4] (.ref 1 :: st) M Q) ∧
  (∀ (a0 : Nat) (a1 : Int32) (a2 : Int32) (a3 : Int32) (a4 : Int32) (st : List Value) (M : xM) (Q : Option Value → xM → Prop), xW xSR 170 70 [.ref a0, .int a1, .int a2, .int a3, .int a4] (st) M Q = xW xSR 170 72 [.ref a0, .int a1, .int a2, .int a3, .int a4] (.int (nI 51) :: st) M Q) ∧
  (∀ (a0 : Nat) (a1 : Int32) (a2 : Int32) (a3 : Int32) (a4 : Int32) (st : List Value) (M : xM) (Q : Option Value → xM → Prop), xW xSR 170 72 [.ref a0, .int a1, .int a2, .int a3, .int a4] (st) M Q = xW xSR 170 73 [.ref a0, .int a1, .int a2, .int a3, .int a4] (.int (nI 3) :: st) M Q) ∧
  (∀ (a0 : Nat) (a1 : Int32) (a2 : Int32) (a3 : Int32) (a4 : Int32) (st : List Value) (M : xM) (Q : Option Value → xM → Prop), xW xSR 170 73 [.ref a0, .int a1, .int a2, .int a3, .int a4] (st) M Q = xW xSR 170 74 [.ref a0, .int a1, .int a2, .int a3, .int a4] (.int a1 :: st) M Q) ∧
  (∀ (a0 : Nat) (a1 : Int32) (a2 : Int32) (a3 : Int32) (a4 : Int32) (y0 : Int32) (y1 : Int32) (st : List Value) (M : xM) (Q : Option Value → xM → Prop), xW xSR 170 74 [.ref a0, .int a1, .int a2, .int a3, .int a4] (.int y0 :: .int y1 :: st) M Q = xW xSR 170 75 [.ref a0, .int a1, .int a2, .int a3, .int a4] (.int (y1 * y0) :: st) M Q) ∧
  (∀ (a0 : Nat) (a1 : Int32) (a2 : Int32) (a3 : Int32) (a4 : Int32) (y0 : Int32) (y1 : Int32) (st : List Value) (M : xM) (Q : Option Value → xM → Prop), xW xSR 170 75 [.ref a0, .int a1, .int a2, .int a3, .int a4] (.int y0 :: .int y1 :: st) M Q = xW xSR 170 76 [.ref a0, .int a1, .int a2, .int a3, .int a4] (.int (y1 + y0) :: st) M Q) ∧
  (∀ (a0 : Nat) (a1 : Int32) (a2 : Int32) (a3 : Int32) (a4 : Int32) (st : List Value) (M : xM) (Q : Option Value → xM → Prop), xW xSR 170 76 [.ref a0, .int a1, .int a2, .int a3, .int a4] (st) M Q = xW xSR 170 77 [.ref a0, .int a1, .int a2, .int a3, .int a4] (.int (nI 1) :: st) M Q) ∧
  (∀ (a0 : Nat) (a1 : Int32) (a2 : Int32) (a3 : Int32) (a4 : Int32) (y0 : Int32) (y1 : Int32) (st : List Value) (M : xM) (Q : Option Value → xM → Prop), xW xSR 170 77 [.ref a0, .int a1, .int a2, .int a3, .int a4] (.int y0 :: .int y1 :: st) M Q = xW xSR 170 78 [.ref a0, .int a1, .int a2, .int a3, .int a4] (.int (y1 + y0) :: st) M Q) ∧
  (∀ (a0 : Nat) (a1 : Int32) (a2 : Int32) (a3 : Int32) (a4 : Int32) (y0 : Nat) (st : List Value) (M : xM) (Q : Option Value → xM → Prop), y0 < 156 → xW xSR 170 78 [.ref a0, .int a1, .int a2, .int a3, .int a4] (.int (nI y0) :: .ref 1 :: st) M Q = xW xSR 170 79 [.ref a0, .int a1, .int a2, .int a3, .int a4] (.int (M 1 y0) :: st) M Q) ∧
  (∀ (a0 : Nat) (a1 : Int32) (a2 : Int32) (a3 : Int32) (a4 : Int32) (st : List Value) (M : xM) (Q : Option Value → xM → Prop), xW xSR 170 79 [.ref a0, .int a1, .int a2, .int a3, .int a4] (st) M Q = xW xSR 170 80 [.ref a0, .int a1, .int a2, .int a3, .int a4] (.int (nI 1) :: st) M Q) ∧
  (∀ (a0 : Nat) (a1 : Int32) (a2 : Int32) (a3 : Int32) (a4 : Int32) (y0 : Int32) (y1 : Int32) (st : List Value) (M : xM) (Q : Option Value → xM → Prop), xW xSR 170 80 [.ref a0, .int a1, .int a2, .int a3, .int a4] (.int y0 :: .int y1 :: st) M Q = if y1 = y0 then xW xSR 170 83 [.ref a0, .int a1, .int a2, .int a3, .int a4] (st) M Q else xW xSR 170 87 [.ref a0, .int a1, .int a2, .int a3, .int a4] (st) M Q) ∧
  (∀ (a0 : Nat) (a1 : Int32) (a2 : Int32) (a3 : Int32) (a4 : Int32) (st : List Value) (M : xM) (Q : Option Value → xM → Prop), xW xSR 170 83 [.ref a0, .int a1, .int a2, .int a3, .int a4] (st) M Q = xW xSR 170 84 [.ref a0, .int a1, .int a2, .int a3, .int a4] (.int (nI 1) :: st) M Q) ∧
  (∀ (a0 : Nat) (a1 : Int32) (a2 : Int32) (a3 : Int32) (a4 : Int32) (st : List Value) (M : xM) (Q : Option Value → xM → Prop), xW xSR 170 84 [.ref a0, .int a1, .int a2, .int a3, .int a4] (st) M Q = xW xSR 170 88 [.ref a0, .int a1, .int a2, .int a3, .int a4] (st) M Q) ∧
  (∀ (a0 : Nat) (a1 : Int32) (a2 : Int32) (a3 : Int32) (a4 : Int32) (st : List Value) (M : xM) (Q : Option Value → xM → Prop), xW xSR 170 87 [.ref a0, .int a1, .int a2, .int a3, .int a4] (st) M Q = xW xSR 170 88 [.ref a0, .int a1, .int a2, .int a3, .int a4] (.int (nI 0) :: st) M Q) ∧
  (∀ (a0 : Nat) (a1 : Int32) (a2 : Int32) (a3 : Int32) (a4 : Int32) (y0 : Int32) (st : List Value) (M : xM) (Q : Option Value → xM → Prop), xW xSR 170 91 [.ref a0, .int a1, .int a2, .int a3, .int a4] (.int y0 :: st) M Q = xW xSR 170 92 [.ref a0, .int a1, .int a2, .int a3, .int a4] (st) M Q) ∧
  (∀ (a0 : Nat) (a1 : Int32) (a2 : Int32) (a3 : Int32) (a4 : Int32) (st : List Value) (M : xM) (Q : Option Value → xM → Prop), xW xSR 170 92 [.ref a0, .int a1, .int a2, .int a3, .int a4] (st) M Q = xW xSR 170 94 [.ref a0, .int a1, .int a2, .int a3, .int a4] (.int a4 :: st) M Q) ∧
  (∀ (a0 : Nat) (a1 : Int32) (a2 : Int32) (a3 : Int32) (a4 : Int32) (y0 : Int32) (st : List Value) (M : xM) (Q : Option Value → xM → Prop), xW xSR 170 94 [.ref a0, .int a1, .int a2, .int a3, .int a4] (.int y0 :: st) M Q = if y0 = nI 0 then xW xSR 170 97 [.ref a0, .int a1, .int a2, .int a3, .int a4] (st) M Q else xW xSR 170 104 [.ref a0, .int a1, .int a2, .int a3, .int a4] (st) M Q) ∧
  (∀ (a0 : Nat) (a1 : Int32) (a2 : Int32) (a3 : Int32) (a4 : Int32) (st : List Value) (M : xM) (Q : Option Value → xM → Prop), xW xSR 170 97 [.ref a0, .int a1, .int a2, .int a3, .int a4] (st) M Q = xW xSR 170 98 [.ref a0, .int a1, .int a2, .int a3, .int a4] (.ref a0 :: st) M Q) ∧
  (∀ (a0 : Nat) (a1 : Int32) (a2 : Int32) (a3 : Int32) (a4 : Int32) (st : List Value) (M : xM) (Q : Option Value → xM → Prop), xW xSR 170 98 [.ref a0, .int a1, .int a2, .int a3, .int a4] (.ref 0 :: st) M Q = xW xSR 170 101 [.ref a0, .int a1, .int a2, .int a3, .int a4] (.int (M 0 7) :: st) M Q) ∧
  (∀ (a0 : Nat) (a1 : Int32) (a2 : Int32) (a3 : Int32) (a4 : Int32) (st : List Value) (M : xM) (Q : Option Value → xM → Prop), xW xSR 170 101 [.ref a0, .int a1, .int a2, .int a3, .int a4] (st) M Q = xW xSR 170 108 [.ref a0, .int a1, .int a2, .int a3, .int a4] (st) M Q) ∧
  (∀ (a0 : Nat) (a1 : Int32) (a2 : Int32) (a3 : Int32) (a4 : Int32) (st : List Value) (M : xM) (Q : Option Value → xM → Prop), xW xSR 170 104 [.ref a0, .int a1, .int a2, .int a3, .int a4] (st) M Q = xW xSR 170 105 [.ref a0, .int a1, .int a2, .int a3, .int a4] (.ref a0 :: st) M Q) ∧
  (∀ (a0 : Nat) (a1 : Int32) (a2 : Int32) (a3 : Int32) (a4 : Int32) (st : List Value) (M : xM) (Q : Option Value → xM → Prop), xW xSR 170 105 [.ref a0, .int a1, .int a2, .int a3, .int a4] (.ref 0 :: st) M Q = xW xSR 170 108 [.ref a0, .int a1, .int a2, .int a3, .int a4] (.int (M 0 8) :: st) M Q) :=
  ⟨fun a0 a1 a2 a3 a4 st M Q => xw_s rfl rfl,
  fun a0 a1 a2 a3 a4 st M Q => xw_s rfl rfl,
  fun a0 a1 a2 a3 a4 y0 M Q => xw_call rfl rfl rfl,
  fun a0 a1 a2 a3 a4 y0 st M Q => xw_br (c0 := y0 = nI 0) rfl rfl,
  fun a0 a1 a2 a3 a4 st M Q => xw_s rfl rfl,
  fun a0 a1 a2 a3 a4 st M Q => xw_s rfl rfl,
  fun a0 a1 a2 a3 a4 y0 M Q => xw_call rfl rfl rfl,
  fun a0 a1 a2 a3 a4 y0 st M Q => xw_br (c0 := y0 = nI 0) rfl rfl,
  fun a0 a1 a2 a3 a4 st M Q => xw_s rfl rfl,
  fun a0 a1 a2 a3 a4 y0 M Q => xw_call rfl rfl rfl,
  fun a0 a1 a2 a3 a4 y0 st M Q => xw_br (c0 := y0 = nI 0) rfl rfl,
  fun a0 a1 a2 a3 a4 st M Q => xw_s rfl rfl,
  fun a0 a1 a2 a3 a4 y0 st M Q => xw_s rfl rfl,
  fun a0 a1 a2 a3 a4 st M Q => xw_s rfl rfl,
  fun a0 a1 a2 a3 a4 st M Q => xw_s rfl rfl,
  fun a0 a1 a2 a3 a4 y0 y1 y2 M Q => xw_call rfl rfl rfl,
  fun a0 a1 a2 a3 a4 y0 st M Q => xw_brn (c0 := y0 ≠ nI 0) (c1 := y0 = nI 0) rfl rfl (Iff.rfl),
  fun a0 a1 a2 a3 a4 y0 M Q => xw_ret rfl rfl,
  fun a0 a1 a2 a3 a4 st M Q => xw_s rfl rfl,
  fun a0 a1 a2 a3 a4 st M Q => xw_s rfl rfl,
  fun a0 a1 a2 a3 a4 st M Q => xw_s rfl rfl,
  fun a0 a1 a2 a3 a4 st M Q => xw_s rfl rfl,
  fun a0 a1 a2 a3 a4 y0 y1 y2 M Q => xw_call rfl rfl rfl,
  fun a0 a1 a2 a3 a4 y0 st M Q => xw_brn (c0 := y0 ≠ nI 0) (c1 := y0 = nI 0) rfl rfl (Iff.rfl),
  fun a0 a1 a2 a3 a4 st M Q => xw_s rfl rfl,
  fun a0 a1 a2 a3 a4 y0 M Q => xw_ret rfl rfl,
  fun a0 a1 a2 a3 a4 st M Q => xw_s rfl rfl,
  fun a0 a1 a2 a3 a4 st M Q => xw_s rfl rfl,
  fun a0 a1 a2 a3 a4 st M Q => xw_s rfl rfl,
  fun a0 a1 a2 a3 a4 st M Q => xw_s rfl rfl,
  fun a0 a1 a2 a3 a4 st M Q => xw_s rfl rfl,
  fun a0 a1 a2 a3 a4 st M Q => xw_s rfl rfl,
  fun a0 a1 a2 a3 a4 st M Q => xw_s rfl rfl,
  fun a0 a1 a2 a3 a4 st M Q => xw_s rfl rfl,
  fun a0 a1 a2 a3 a4 st M Q => xw_s rfl rfl,
  fun a0 a1 a2 a3 a4 y0 y1 st M Q => xw_s rfl rfl,
  fun a0 a1 a2 a3 a4 y0 y1 st M Q => xw_s rfl rfl,
  fun a0 a1 a2 a3 a4 st M Q => xw_s rfl rfl,
  fun a0 a1 a2 a3 a4 y0 y1 st M Q => xw_s rfl rfl,
  fun a0 a1 a2 a3 a4 y0 st M Q h0 => xw_ald rfl rfl rfl (by decide) h0,
  fun a0 a1 a2 a3 a4 st M Q => xw_s rfl rfl,
  fun a0 a1 a2 a3 a4 st M Q => xw_s rfl rfl,
  fun a0 a1 a2 a3 a4 st M Q => xw_s rfl rfl,
  fun a0 a1 a2 a3 a4 st M Q => xw_s rfl rfl,
  fun a0 a1 a2 a3 a4 st M Q => xw_s rfl rfl,
  fun a0 a1 a2 a3 a4 y0 y1 st M Q => xw_s rfl rfl,
  fun a0 a1 a2 a3 a4 y0 y1 st M Q => xw_s rfl rfl,
  fun a0 a1 a2 a3 a4 st M Q => xw_s rfl rfl,
  fun a0 a1 a2 a3 a4 y0 y1 st M Q => xw_s rfl rfl,
  fun a0 a1 a2 a3 a4 y0 st M Q h0 => xw_ald rfl rfl rfl (by decide) h0,
  fun a0 a1 a2 a3 a4 st M Q => xw_s rfl rfl,
  fun a0 a1 a2 a3 a4 y0 y1 st M Q => xw_brn (c0 := y1 ≠ y0) (c1 := y1 = y0) rfl rfl (Iff.rfl),
  fun a0 a1 a2 a3 a4 st M Q => xw_s rfl rfl,
  fun a0 a1 a2 a3 a4 st M Q => xw_s rfl rfl,
  fun a0 a1 a2 a3 a4 st M Q => xw_s rfl rfl,
  fun a0 a1 a2 a3 a4 y0 st M Q => xw_s rfl rfl,
  fun a0 a1 a2 a3 a4 st M Q => xw_s rfl rfl,
  fun a0 a1 a2 a3 a4 y0 st M Q => xw_brn (c0 := y0 ≠ nI 0) (c1 := y0 = nI 0) rfl rfl (Iff.rfl),
  fun a0 a1 a2 a3 a4 st M Q => xw_s rfl rfl,
  fun a0 a1 a2 a3 a4 st M Q => xw_s rfl rfl,
  fun a0 a1 a2 a3 a4 st M Q => xw_s rfl rfl,
  fun a0 a1 a2 a3 a4 st M Q => xw_s rfl rfl,
  fun a0 a1 a2 a3 a4 st M Q => xw_s rfl rfl⟩
set_option maxRecDepth 20000 in
theorem h170_34 :
  (∀ (a0 : Nat) (a1 : Int32) (a2 : Int32) (a3 : Int32) (a4 : Int32) (st : List Value) (M : xM) (Q : Option Value → xM → Prop), xW xSR 170 34 [.ref a0, .int a1, .int a2, .int a3, .int a4] (st) M Q = xW xSR 170 35 [.ref a0, .int a1, .int a2, .int a3, .int a4] (.int (-1) :: st) M Q) :=
  fun a0 a1 a2 a3 a4 st M Q => xw_s rfl rfl
set_option maxRecDepth 20000 in
theorem h170_88 :
  (∀ (a0 : Nat) (a1 : Int32) (a2 : Int32) (a3 : Int32) (a4 : Int32) (y0 : Int32) (y1 : Int32) (y2 : Int32) (y3 : Int32) (y4 : Int32) (M : xM) (Q : Option Value → xM → Prop), xW xSR 170 88 [.ref a0, .int a1, .int a2, .int a3, .int a4] (.int y0 :: .int y1 :: .int y2 :: .int y3 :: .int y4 :: .ref 0 :: []) M Q = xW xSR 169 0 [.ref 0, .int y4, .int y3, .int y2, .int y1, .int y0] [] M (fun v M' => xW xSR 170 91 [.ref a0, .int a1, .int a2, .int a3, .int a4] (xpush v []) M' Q)) :=
  fun a0 a1 a2 a3 a4 y0 y1 y2 y3 y4 M Q => xw_call rfl rfl rfl
set_option maxRecDepth 20000 in
theorem h170_108 :
  (∀ (a0 : Nat) (a1 : Int32) (a2 : Int32) (a3 : Int32) (a4 : Int32) (y0 : Int32) (M : xM) (Q : Option Value → xM → Prop), xW xSR 170 108 [.ref a0, .int a1, .int a2, .int a3, .int a4] ([.int y0]) M Q = Q (some (.int y0)) M) :=
  fun a0 a1 a2 a3 a4 y0 M Q => xw_ret rfl rfl
set_option maxRecDepth 20000 in
theorem j170 :
  (∀ (a0 : Nat) (a1 : Int32) (a2 : Int32) (a3 : Int32) (a4 : Int32) (st : List Value) (M : xM) (Q : Option Value → xM → Prop), xW xSR 170 34 [.ref a0, .int a1, .int a2, .int a3, .int a4] (st) M Q = xW xSR 170 35 [.ref a0, .int a1, .int a2, .int a3, .int a4] (.int (-1) :: st) M Q) ∧
  (∀ (a0 : Nat) (a1 : Int32) (a2 : Int32) (a3 : Int32) (a4 : Int32) (y0 : Int32) (y1 : Int32) (y2 : Int32) (y3 : Int32) (y4 : Int32) (M : xM) (Q : Option Value → xM → Prop), xW xSR 170 88 [.ref a0, .int a1, .int a2, .int a3, .int a4] (.int y0 :: .int y1 :: .int y2 :: .int y3 :: .int y4 :: .ref 0 :: []) M Q = xW xSR 169 0 [.ref 0, .int y4, .int y3, .int y2, .int y1, .int y0] [] M (fun v M' => xW xSR 170 91 [.ref a0, .int a1, .int a2, .int a3, .int a4] (xpush v []) M' Q)) ∧
  (∀ (a0 : Nat) (a1 : Int32) (a2 : Int32) (a3 : Int32) (a4 : Int32) (y0 : Int32) (M : xM) (Q : Option Value → xM → Prop), xW xSR 170 108 [.ref a0, .int a1, .int a2, .int a3, .int a4] ([.int y0]) M Q = Q (some (.int y0)) M) :=
  ⟨fun a0 a1 a2 a3 a4 st M Q => xw_s rfl rfl,
  fun a0 a1 a2 a3 a4 y0 y1 y2 y3 y4 M Q => xw_call rfl rfl rfl,
  fun a0 a1 a2 a3 a4 y0 M Q => xw_ret rfl rfl⟩

set_option maxRecDepth 20000 in
theorem s171 :
  (∀ (a0 : Nat) (a1 : Int32) (a2 : Int32) (st : List Value) (M : xM) (Q : Option Value → xM → Prop), xW xSR 171 0 [.ref a0, .int a1, .int a2] (st) M Q = xW xSR 171 1 [.ref a0, .int a1, .int a2] (.ref a0 :: st) M Q) ∧
  (∀ (a0 : Nat) (a1 : Int32) (a2 : Int32) (st : List Value) (M : xM) (Q : Option Value → xM → Prop), xW xSR 171 1 [.ref a0, .int a1, .int a2] (.ref 0 :: st) M Q = xW xSR 171 4 [.ref a0, .int a1, .int a2] (.ref 1 :: st) M Q) ∧
  (∀ (a0 : Nat) (a1 : Int32) (a2 : Int32) (st : List Value) (M : xM) (Q : Option Value → xM → Prop), xW xSR 171 4 [.ref a0, .int a1, .int a2] (st) M Q = xW xSR 171 5 [.ref a0, .int a1, .int a2] (.int (nI 3) :: st) M Q) ∧
  (∀ (a0 : Nat) (a1 : Int32) (a2 : Int32) (st : List Value) (M : xM) (Q : Option Value → xM → Prop), xW xSR 171 5 [.ref a0, .int a1, .int a2] (st) M Q = xW xSR 171 7 [.ref a0, .int a1, .int a2] (.int (nI 6) :: st) M Q) ∧
  (∀ (a0 : Nat) (a1 : Int32) (a2 : Int32) (st : List Value) (M : xM) (Q : Option Value → xM → Prop), xW xSR 171 7 [.ref a0, .int a1, .int a2] (st) M Q = xW xSR 171 8 [.ref a0, .int a1, .int a2] (.int a1 :: st) M Q) ∧
  (∀ (a0 : Nat) (a1 : Int32) (a2 : Int32) (y0 : Int32) (y1 : Int32) (st : List Value) (M : xM) (Q : Option Value → xM → Prop), xW xSR 171 8 [.ref a0, .int a1, .int a2] (.int y0 :: .int y1 :: st) M Q = xW xSR 171 9 [.ref a0, .int a1, .int a2] (.int (y1 * y0) :: st) M Q) ∧
  (∀ (a0 : Nat) (a1 : Int32) (a2 : Int32) (y0 : Int32) (y1 : Int32) (st : List Value) (M : xM) (Q : Option Value → xM → Prop), xW xSR 171 9 [.ref a0, .int a1, .int a2] (.int y0 :: .int y1 :: st) M Q = xW xSR 171 10 [.ref a0, .int a1, .int a2] (.int (y1 + y0) :: st) M Q) ∧
  (∀ (a0 : Nat) (a1 : Int32) (a2 : Int32) (y0 : Nat) (st : List Value) (M : xM) (Q : Option Value → xM → Prop), y0 < 156 → xW xSR 171 10 [.ref a0, .int a1, .int a2] (.int (nI y0) :: .ref 1 :: st) M Q = xW xSR 171 11 [.ref a0, .int a1, .int a2] (.int (M 1 y0) :: st) M Q) ∧
  (∀ (a0 : Nat) (a1 : Int32) (a2 : Int32) (st : List Value) (M : xM) (Q : Option Value → xM → Prop), xW xSR 171 11 [.ref a0, .int a1, .int a2] (st) M Q = xW xSR 171 12 [.ref a0, .int a1, .int a2] (.int a2 :: st) M Q) ∧
  (∀ (a0 : Nat) (a1 : Int32) (a2 : Int32) (y0 : Int32) (y1 : Int32) (st : List Value) (M : xM) (Q : Option Value → xM → Prop), xW xSR 171 12 [.ref a0, .int a1, .int a2] (.int y0 :: .int y1 :: st) M Q = if y1 = y0 then xW xSR 171 15 [.ref a0, .int a1, .int a2] (st) M Q else xW xSR 171 19 [.ref a0, .int a1, .int a2] (st) M Q) ∧
  (∀ (a0 : Nat) (a1 : Int32) (a2 : Int32) (st : List Value) (M : xM) (Q : Option Value → xM → Prop), xW xSR 171 15 [.ref a0, .int a1, .int a2] (st) M Q = xW xSR 171 16 [.ref a0, .int a1, .int a2] (.int (nI 0) :: st) M Q) ∧
  (∀ (a0 : Nat) (a1 : Int32) (a2 : Int32) (st : List Value) (M : xM) (Q : Option Value → xM → Prop), xW xSR 171 16 [.ref a0, .int a1, .int a2] (st) M Q = xW xSR 171 41 [.ref a0, .int a1, .int a2] (st) M Q) ∧
  (∀ (a0 : Nat) (a1 : Int32) (a2 : Int32) (st : List Value) (M : xM) (Q : Option Value → xM → Prop), xW xSR 171 19 [.ref a0, .int a1, .int a2] (st) M Q = xW xSR 171 20 [.ref a0, .int a1, .int a2] (.ref a0 :: st) M Q) ∧
  (∀ (a0 : Nat) (a1 : Int32) (a2 : Int32) (st : List Value) (M : xM) (Q : Option Value → xM → Prop), xW xSR 171 20 [.ref a0, .int a1, .int a2] (.ref 0 :: st) M Q = xW xSR 171 23 [.ref a0, .int a1, .int a2] (.ref 1 :: st) M Q) ∧
  (∀ (a0 : Nat) (a1 : Int32) (a2 : Int32) (st : List Value) (M : xM) (Q : Option Value → xM → Prop), xW xSR 171 23 [.ref a0, .int a1, .int a2] (st) M Q = xW xSR 171 24 [.ref a0, .int a1, .int a2] (.int (nI 3) :: st) M Q) ∧
  (∀ (a0 : Nat) (a1 : Int32) (a2 : Int32) (st : List Value) (M : xM) (Q : Option Value → xM → Prop), xW xSR 171 24 [.ref a0, .int a1, .int a2] (st) M Q = xW xSR 171 26 [.ref a0, .int a1, .int a2] (.int (nI 6) :: st) M Q) ∧
  (∀ (a0 : Nat) (a1 : Int32) (a2 : Int32) (st : List Value) (M : xM) (Q : Option Value → xM → Prop), xW xSR 171 26 [.ref a0, .int a1, .int a2] (st) M Q = xW xSR 171 27 [.ref a0, .int a1, .int a2] (.int a1 :: st) M Q) ∧
  (∀ (a0 : Nat) (a1 : Int32) (a2 : Int32) (y0 : Int32) (y1 : Int32) (st : List Value) (M : xM) (Q : Option Value → xM → Prop), xW xSR 171 27 [.ref a0, .int a1, .int a2] (.int y0 :: .int y1 :: st) M Q = xW xSR 171 28 [.ref a0, .int a1, .int a2] (.int (y1 * y0) :: st) M Q) ∧
  (∀ (a0 : Nat) (a1 : Int32) (a2 : Int32) (y0 : Int32) (y1 : Int32) (st : List Value) (M : xM) (Q : Option Value → xM → Prop), xW xSR 171 28 [.ref a0, .int a1, .int a2] (.int y0 :: .int y1 :: st) M Q = xW xSR 171 29 [.ref a0, .int a1, .int a2] (.int (y1 + y0) :: st) M Q) ∧
  (∀ (a0 : Nat) (a1 : Int32) (a2 : Int32) (st : List Value) (M : xM) (Q : Option Value → xM → Prop), xW xSR 171 29 [.ref a0, .int a1, .int a2] (st) M Q = xW xSR 171 30 [.ref a0, .int a1, .int a2] (.int (nI 1) :: st) M Q) ∧
  (∀ (a0 : Nat) (a1 : Int32) (a2 : Int32) (y0 : Int32) (y1 : Int32) (st : List Value) (M : xM) (Q : Option Value → xM → Prop), xW xSR 171 30 [.ref a0, .int a1, .int a2] (.int y0 :: .int y1 :: st) M Q = xW xSR 171 31 [.ref a0, .int a1, .int a2] (.int (y1 + y0) :: st) M Q) ∧
  (∀ (a0 : Nat) (a1 : Int32) (a2 : Int32) (y0 : Nat) (st : List Value) (M : xM) (Q : Option Value → xM → Prop), y0 < 156 → xW xSR 171 31 [.ref a0, .int a1, .int a2] (.int (nI y0) :: .ref 1 :: st) M Q = xW xSR 171 32 [.ref a0, .int a1, .int a2] (.int (M 1 y0) :: st) M Q) ∧
  (∀ (a0 : Nat) (a1 : Int32) (a2 : Int32) (st : List Value) (M : xM) (Q : Option Value → xM → Prop), xW xSR 171 32 [.ref a0, .int a1, .int a2] (st) M Q = xW xSR 171 33 [.ref a0, .int a1, .int a2] (.int a2 :: st) M Q) ∧
  (∀ (a0 : Nat) (a1 : Int32) (a2 : Int32) (y0 : Int32) (y1 : Int32) (st : List Value) (M : xM) (Q : Option Value → xM → Prop), xW xSR 171 33 [.ref a0, .int a1, .int a2] (.int y0 :: .int y1 :: st) M Q = if y1 = y0 then xW xSR 171 36 [.ref a0, .int a1, .int a2] (st) M Q else xW xSR 171 40 [.ref a0, .int a1, .int a2] (st) M Q) ∧
  (∀ (a0 : Nat) (a1 : Int32) (a2 : Int32) (st : List Value) (M : xM) (Q : Option Value → xM → Prop), xW xSR 171 36 [.ref a0, .int a1, .int a2] (st) M Q = xW xSR 171 37 [.ref a0, .int a1, .int a2] (.int (nI 1) :: st) M Q) ∧
  (∀ (a0 : Nat) (a1 : Int32) (a2 : Int32) (st : List Value) (M : xM) (Q : Option Value → xM → Prop), xW xSR 171 37 [.ref a0, .int a1, .int a2] (st) M Q = xW xSR 171 41 [.ref a0, .int a1, .int a2] (st) M Q) ∧
  (∀ (a0 : Nat) (a1 : Int32) (a2 : Int32) (st : List Value) (M : xM) (Q : Option Value → xM → Prop), xW xSR 171 40 [.ref a0, .int a1, .int a2] (st) M Q = xW xSR 171 41 [.ref a0, .int a1, .int a2] (.int (-1) :: st) M Q) :=
  ⟨fun a0 a1 a2 st M Q => xw_s rfl rfl,
  fun a0 a1 a2 st M Q => xw_s rfl rfl,
  fun a0 a1 a2 st M Q => xw_s rfl rfl,
  fun a0 a1 a2 st M Q => xw_s rfl rfl,
  fun a0 a1 a2 st M Q => xw_s rfl rfl,
  fun a0 a1 a2 y0 y1 st M Q => xw_s rfl rfl,
  fun a0 a1 a2 y0 y1 st M Q => xw_s rfl rfl,
  fun a0 a1 a2 y0 st M Q h0 => xw_ald rfl rfl rfl (by decide) h0,
  fun a0 a1 a2 st M Q => xw_s rfl rfl,
  fun a0 a1 a2 y0 y1 st M Q => xw_brn (c0 := y1 ≠ y0) (c1 := y1 = y0) rfl rfl (Iff.rfl),
  fun a0 a1 a2 st M Q => xw_s rfl rfl,
  fun a0 a1 a2 st M Q => xw_s rfl rfl,
  fun a0 a1 a2 st M Q => xw_s rfl rfl,
  fun a0 a1 a2 st M Q => xw_s rfl rfl,
  fun a0 a1 a2 st M Q => xw_s rfl rfl,
  fun a0 a1 a2 st M Q => xw_s rfl rfl,
  fun a0 a1 a2 st M Q => xw_s rfl rfl,
  fun a0 a1 a2 y0 y1 st M Q => xw_s rfl rfl,
  fun a0 a1 a2 y0 y1 st M Q => xw_s rfl rfl,
  fun a0 a1 a2 st M Q => xw_s rfl rfl,
  fun a0 a1 a2 y0 y1 st M Q => xw_s rfl rfl,
  fun a0 a1 a2 y0 st M Q h0 => xw_ald rfl rfl rfl (by decide) h0,
  fun a0 a1 a2 st M Q => xw_s rfl rfl,
  fun a0 a1 a2 y0 y1 st M Q => xw_brn (c0 := y1 ≠ y0) (c1 := y1 = y0) rfl rfl (Iff.rfl),
  fun a0 a1 a2 st M Q => xw_s rfl rfl,
  fun a0 a1 a2 st M Q => xw_s rfl rfl,
  fun a0 a1 a2 st M Q => xw_s rfl rfl⟩
set_option maxRecDepth 20000 in
theorem h171_41 :
  (∀ (a0 : Nat) (a1 : Int32) (a2 : Int32) (y0 : Int32) (M : xM) (Q : Option Value → xM → Prop), xW xSR 171 41 [.ref a0, .int a1, .int a2] ([.int y0]) M Q = Q (some (.int y0)) M) :=
  fun a0 a1 a2 y0 M Q => xw_ret rfl rfl
set_option maxRecDepth 20000 in
theorem j171 :
  (∀ (a0 : Nat) (a1 : Int32) (a2 : Int32) (y0 : Int32) (M : xM) (Q : Option Value → xM → Prop), xW xSR 171 41 [.ref a0, .int a1, .int a2] ([.int y0]) M Q = Q (some (.int y0)) M) :=
  fun a0 a1 a2 y0 M Q => xw_ret rfl rfl

set_option maxRecDepth 20000 in
theorem s172 :
  (∀ (a0 : Nat) (a1 : Int32) (a2 : Int32) (a3 : Int32) (a4 : Value) (st : List Value) (M : xM) (Q : Option Value → xM → Prop), xW xSR 172 0 [.ref a0, .int a1, .int a2, .int a3, a4] (st) M Q = xW xSR 172 1 [.ref a0, .int a1, .int a2, .int a3, a4] (.ref a0 :: st) M Q) ∧
  (∀ (a0 : Nat) (a1 : Int32) (a2 : Int32) (a3 : Int32) (a4 : Value) (st : List Value) (M : xM) (Q : Option Value → xM → Prop), xW xSR 172 1 [.ref a0, .int a1, .int a2, .int a3, a4] (.ref 0 :: st) M Q = xW xSR 172 4 [.ref a0, .int a1, .int a2, .int a3, a4] (.int (M 0 10) :: st) M Q) ∧
  (∀ (a0 : Nat) (a1 : Int32) (a2 : Int32) (a3 : Int32) (a4 : Value) (st : List Value) (M : xM) (Q : Option Value → xM → Prop), xW xSR 172 4 [.ref a0, .int a1, .int a2, .int a3, a4] (st) M Q = xW xSR 172 6 [.ref a0, .int a1, .int a2, .int a3, a4] (.int (nI 8) :: st) M Q) ∧
  (∀ (a0 : Nat) (a1 : Int32) (a2 : Int32) (a3 : Int32) (a4 : Value) (y0 : Int32) (y1 : Int32) (st : List Value) (M : xM) (Q : Option Value → xM → Prop), xW xSR 172 6 [.ref a0, .int a1, .int a2, .int a3, a4] (.int y0 :: .int y1 :: st) M Q = if y1 = y0 then xW xSR 172 9 [.ref a0, .int a1, .int a2, .int a3, a4] (st) M Q else xW xSR 172 49 [.ref a0, .int a1, .int a2, .int a3, a4] (st) M Q) ∧
  (∀ (a0 : Nat) (a1 : Int32) (a2 : Int32) (a3 : Int32) (a4 : Value) (st : List Value) (M : xM) (Q : Option Value → xM → Prop), xW xSR 172 9 [.ref a0, .int a1, .int a2, .int a3, a4] (st) M Q = xW xSR 172 11 [.ref a0, .int a1, .int a2, .int a3, a4] (.int (nI 6) :: st) M Q) ∧
  (∀ (a0 : Nat) (a1 : Int32) (a2 : Int32) (a3 : Int32) (a4 : Value) (y0 : Int32) (st : List Value) (M : xM) (Q : Option Value → xM → Prop), xW xSR 172 11 [.ref a0, .int a1, .int a2, .int a3, a4] (.int y0 :: st) M Q = xW xSR 172 13 [.ref a0, .int a1, .int a2, .int a3, .int y0] (st) M Q) ∧
  (∀ (a0 : Nat) (a1 : Int32) (a2 : Int32) (a3 : Int32) (a4 : Int32) (st : List Value) (M : xM) (Q : Option Value → xM → Prop), xW xSR 172 15 [.ref a0, .int a1, .int a2, .int a3, .int a4] (st) M Q = xW xSR 172 17 [.ref a0, .int a1, .int a2, .int a3, .int a4] (.int (nI 48) :: st) M Q) ∧
  (∀ (a0 : Nat) (a1 : Int32) (a2 : Int32) (a3 : Int32) (a4 : Int32) (y0 : Int32) (y1 : Int32) (st : List Value) (M : xM) (Q : Option Value → xM → Prop), xW xSR 172 17 [.ref a0, .int a1, .int a2, .int a3, .int a4] (.int y0 :: .int y1 :: st) M Q = if y1 < y0 then xW xSR 172 20 [.ref a0, .int a1, .int a2, .int a3, .int a4] (st) M Q else xW xSR 172 43 [.ref a0, .int a1, .int a2, .int a3, .int a4] (st) M Q) ∧
  (∀ (a0 : Nat) (a1 : Int32) (a2 : Int32) (a3 : Int32) (a4 : Int32) (st : List Value) (M : xM) (Q : Option Value → xM → Prop), xW xSR 172 20 [.ref a0, .int a1, .int a2, .int a3, .int a4] (st) M Q = xW xSR 172 21 [.ref a0, .int a1, .int a2, .int a3, .int a4] (.ref a0 :: st) M Q) ∧
  (∀ (a0 : Nat) (a1 : Int32) (a2 : Int32) (a3 : Int32) (a4 : Int32) (st : List Value) (M : xM) (Q : Option Value → xM → Prop), xW xSR 172 21 [.ref a0, .int a1, .int a2, .int a3, .int a4] (.ref 0 :: st) M Q = xW xSR 172 24 [.ref a0, .int a1, .int a2, .int a3, .int a4] (.ref 6 :: st) M Q) ∧
  (∀ (a0 : Nat) (a1 : Int32) (a2 : Int32) (a3 : Int32) (a4 : Int32) (st : List Value) (M : xM) (Q : Option Value → xM → Prop), xW xSR 172 24 [.ref a0, .int a1, .int a2, .int a3, .int a4] (st) M Q = xW xSR 172 26 [.ref a0, .int a1, .int a2, .int a3, .int a4] (.int a4 :: st) M Q) ∧
  (∀ (a0 : Nat) (a1 : Int32) (a2 : Int32) (a3 : Int32) (a4 : Int32) (st : List Value) (M : xM) (Q : Option Value → xM → Prop), xW xSR 172 26 [.ref a0, .int a1, .int a2, .int a3, .int a4] (st) M Q = xW xSR 172 28 [.ref a0, .int a1, .int a2, .int a3, .int a4] (.int (nI 6) :: st) M Q) ∧
  (∀ (a0 : Nat) (a1 : Int32) (a2 : Int32) (a3 : Int32) (a4 : Int32) (y0 : Int32) (y1 : Int32) (st : List Value) (M : xM) (Q : Option Value → xM → Prop), xW xSR 172 28 [.ref a0, .int a1, .int a2, .int a3, .int a4] (.int y0 :: .int y1 :: st) M Q = xW xSR 172 29 [.ref a0, .int a1, .int a2, .int a3, .int a4] (.int (y1 - y0) :: st) M Q) ∧
  (∀ (a0 : Nat) (a1 : Int32) (a2 : Int32) (a3 : Int32) (a4 : Int32) (st : List Value) (M : xM) (Q : Option Value → xM → Prop), xW xSR 172 29 [.ref a0, .int a1, .int a2, .int a3, .int a4] (st) M Q = xW xSR 172 30 [.ref a0, .int a1, .int a2, .int a3, .int a4] (.ref a0 :: st) M Q) ∧
  (∀ (a0 : Nat) (a1 : Int32) (a2 : Int32) (a3 : Int32) (a4 : Int32) (st : List Value) (M : xM) (Q : Option Value → xM → Prop), xW xSR 172 30 [.ref a0, .int a1, .int a2, .int a3, .int a4] (.ref 0 :: st) M Q = xW xSR 172 33 [.ref a0, .int a1, .int a2, .int a3, .int a4] (.ref 6 :: st) M Q) ∧
  (∀ (a0 : Nat) (a1 : Int32) (a2 : Int32) (a3 : Int32) (a4 : Int32) (st : List Value) (M : xM) (Q : Option Value → xM → Prop), xW xSR 172 33 [.ref a0, .int a1, .int a2, .int a3, .int a4] (st) M Q = xW xSR 172 35 [.ref a0, .int a1, .int a2, .int a3, .int a4] (.int a4 :: st) M Q) ∧
  (∀ (a0 : Nat) (a1 : Int32) (a2 : Int32) (a3 : Int32) (a4 : Int32) (y0 : Nat) (st : List Value) (M : xM) (Q : Option Value → xM → Prop), y0 < 48 → xW xSR 172 35 [.ref a0, .int a1, .int a2, .int a3, .int a4] (.int (nI y0) :: .ref 6 :: st) M Q = xW xSR 172 36 [.ref a0, .int a1, .int a2, .int a3, .int a4] (.int (M 6 y0) :: st) M Q) ∧
  (∀ (a0 : Nat) (a1 : Int32) (a2 : Int32) (a3 : Int32) (a4 : Int32) (y0 : Int32) (y1 : Nat) (st : List Value) (M : xM) (Q : Option Value → xM → Prop), y1 < 48 → xW xSR 172 36 [.ref a0, .int a1, .int a2, .int a3, .int a4] (.int y0 :: .int (nI y1) :: .ref 6 :: st) M Q = xW xSR 172 37 [.ref a0, .int a1, .int a2, .int a3, .int a4] (st) (xup M 6 y1 y0) Q) ∧
  (∀ (a0 : Nat) (a1 : Int32) (a2 : Int32) (a3 : Int32) (a4 : Int32) (st : List Value) (M : xM) (Q : Option Value → xM → Prop), xW xSR 172 37 [.ref a0, .int a1, .int a2, .int a3, .int a4] (st) M Q = xW xSR 172 40 [.ref a0, .int a1, .int a2, .int a3, .int (a4 + nI 1)] (st) M Q) ∧
  (∀ (a0 : Nat) (a1 : Int32) (a2 : Int32) (a3 : Int32) (a4 : Int32) (st : List Value) (M : xM) (Q : Option Value → xM → Prop), xW xSR 172 40 [.ref a0, .int a1, .int a2, .int a3, .int a4] (st) M Q = xW xSR 172 13 [.ref a0, .int a1, .int a2, .int a3, .int a4] (st) M Q) ∧
  (∀ (a0 : Nat) (a1 : Int32) (a2 : Int32) (a3 : Int32) (a4 : Int32) (st : List Value) (M : xM) (Q : Option Value → xM → Prop), xW xSR 172 43 [.ref a0, .int a1, .int a2, .int a3, .int a4] (st) M Q = xW xSR 172 44 [.ref a0, .int a1, .int a2, .int a3, .int a4] (.ref a0 :: st) M Q) ∧
  (∀ (a0 : Nat) (a1 : Int32) (a2 : Int32) (a3 : Int32) (a4 : Int32) (st : List Value) (M : xM) (Q : Option Value → xM → Prop), xW xSR 172 44 [.ref a0, .int a1, .int a2, .int a3, .int a4] (st) M Q = xW xSR 172 46 [.ref a0, .int a1, .int a2, .int a3, .int a4] (.int (nI 7) :: st) M Q) ∧
  (∀ (a0 : Nat) (a1 : Int32) (a2 : Int32) (a3 : Int32) (a4 : Int32) (y0 : Int32) (st : List Value) (M : xM) (Q : Option Value → xM → Prop), xW xSR 172 46 [.ref a0, .int a1, .int a2, .int a3, .int a4] (.int y0 :: .ref 0 :: st) M Q = xW xSR 172 49 [.ref a0, .int a1, .int a2, .int a3, .int a4] (st) (xup M 0 10 y0) Q) ∧
  (∀ (a0 : Nat) (a1 : Int32) (a2 : Int32) (a3 : Int32) (a4 : Value) (st : List Value) (M : xM) (Q : Option Value → xM → Prop), xW xSR 172 51 [.ref a0, .int a1, .int a2, .int a3, a4] (st) M Q = xW xSR 172 52 [.ref a0, .int a1, .int a2, .int a3, a4] (.ref a0 :: st) M Q) ∧
  (∀ (a0 : Nat) (a1 : Int32) (a2 : Int32) (a3 : Int32) (a4 : Value) (st : List Value) (M : xM) (Q : Option Value → xM → Prop), xW xSR 172 52 [.ref a0, .int a1, .int a2, .int a3, a4] (.ref 0 :: st) M Q = xW xSR 172 55 [.ref a0, .int a1, .int a2, .int a3, a4] (.int (M 0 10) :: st) M Q) ∧
  (∀ (a0 : Nat) (a1 : Int32) (a2 : Int32) (a3 : Int32) (a4 : Value) (y0 : Int32) (y1 : Int32) (st : List Value) (M : xM) (Q : Option Value → xM → Prop), xW xSR 172 55 [.ref a0, .int a1, .int a2, .int a3, a4] (.int y0 :: .int y1 :: st) M Q = xW xSR 172 56 [.ref a0, .int a1, .int a2, .int a3, a4] (.int (y1 * y0) :: st) M Q) ∧
  (∀ (a0 : Nat) (a1 : Int32) (a2 : Int32) (a3 : Int32) (a4 : Value) (y0 : Int32) (st : List Value) (M : xM) (Q : Option Value → xM → Prop), xW xSR 172 56 [.ref a0, .int a1, .int a2, .int a3, a4] (.int y0 :: st) M Q = xW xSR 172 58 [.ref a0, .int a1, .int a2, .int a3, .int y0] (st) M Q) ∧
  (∀ (a0 : Nat) (a1 : Int32) (a2 : Int32) (a3 : Int32) (a4 : Int32) (st : List Value) (M : xM) (Q : Option Value → xM → Prop), xW xSR 172 58 [.ref a0, .int a1, .int a2, .int a3, .int a4] (st) M Q = xW xSR 172 59 [.ref a0, .int a1, .int a2, .int a3, .int a4] (.ref a0 :: st) M Q) ∧
  (∀ (a0 : Nat) (a1 : Int32) (a2 : Int32) (a3 : Int32) (a4 : Int32) (st : List Value) (M : xM) (Q : Option Value → xM → Prop), xW xSR 172 59 [.ref a0, .int a1, .int a2, .int a3, .int a4] (.ref 0 :: st) M Q = xW xSR 172 62 [.ref a0, .int a1, .int a2, .int a3, .int a4] (.ref 6 :: st) M Q) ∧
  (∀ (a0 : Nat) (a1 : Int32) (a2 : Int32) (a3 : Int32) (a4 : Int32) (st : List Value) (M : xM) (Q : Option Value → xM → Prop), xW xSR 172 62 [.ref a0, .int a1, .int a2, .int a3, .int a4] (st) M Q = xW xSR 172 64 [.ref a0, .int a1, .int a2, .int a3, .int a4] (.int a4 :: st) M Q) ∧
  (∀ (a0 : Nat) (a1 : Int32) (a2 : Int32) (a3 : Int32) (a4 : Int32) (st : List Value) (M : xM) (Q : Option Value → xM → Prop), xW xSR 172 64 [.ref a0, .int a1, .int a2, .int a3, .int a4] (st) M Q = xW xSR 172 65 [.ref a0, .int a1, .int a2, .int a3, .int a4] (.int a1 :: st) M Q) ∧
  (∀ (a0 : Nat) (a1 : Int32) (a2 : Int32) (a3 : Int32) (a4 : Int32) (y0 : Int32) (y1 : Nat) (st : List Value) (M : xM) (Q : Option Value → xM → Prop), y1 < 48 → xW xSR 172 65 [.ref a0, .int a1, .int a2, .int a3, .int a4] (.int y0 :: .int (nI y1) :: .ref 6 :: st) M Q = xW xSR 172 66 [.ref a0, .int a1, .int a2, .int a3, .int a4] (st) (xup M 6 y1 y0) Q) ∧
  (∀ (a0 : Nat) (a1 : Int32) (a2 : Int32) (a3 : Int32) (a4 : Int32) (st : List Value) (M : xM) (Q : Option Value → xM → Prop), xW xSR 172 66 [.ref a0, .int a1, .int a2, .int a3, .int a4] (st) M Q = xW xSR 172 67 [.ref a0, .int a1, .int a2, .int a3, .int a4] (.ref a0 :: st) M Q) ∧
  (∀ (a0 : Nat) (a1 : Int32) (a2 : Int32) (a3 : Int32) (a4 : Int32) (st : List Value) (M : xM) (Q : Option Value → xM → Prop), xW xSR 172 67 [.ref a0, .int a1, .int a2, .int a3, .int a4] (.ref 0 :: st) M Q = xW xSR 172 70 [.ref a0, .int a1, .int a2, .int a3, .int a4] (.ref 6 :: st) M Q) ∧
  (∀ (a0 : Nat) (a1 : Int32) (a2 : Int32) (a3 : Int32) (a4 : Int32) (st : List Value) (M : xM) (Q : Option Value → xM → Prop), xW xSR 172 70 [.ref a0, .int a1, .int a2, .int a3, .int a4] (st) M Q = xW xSR 172 72 [.ref a0, .int a1, .int a2, .int a3, .int a4] (.int a4 :: st) M Q) ∧
  (∀ (a0 : Nat) (a1 : Int32) (a2 : Int32) (a3 : Int32) (a4 : Int32) (st : List Value) (M : xM) (Q : Option Value → xM → Prop), xW xSR 172 72 [.ref a0, .int a1, .int a2, .int a3, .int a4] (st) M Q = xW xSR 172 73 [.ref a0, .int a1, .int a2, .int a3, .int a4] (.int (nI 1) :: st) M Q) ∧
  (∀ (a0 : Nat) (a1 : Int32) (a2 : Int32) (a3 : Int32) (a4 : Int32) (y0 : Int32) (y1 : Int32) (st : List Value) (M : xM) (Q : Option Value → xM → Prop), xW xSR 172 73 [.ref a0, .int a1, .int a2, .int a3, .int a4] (.int y0 :: .int y1 :: st) M Q = xW xSR 172 74 [.ref a0, .int a1, .int a2, .int a3, .int a4] (.int (y1 + y0) :: st) M Q) ∧
  (∀ (a0 : Nat) (a1 : Int32) (a2 : Int32) (a3 : Int32) (a4 : Int32) (st : List Value) (M : xM) (Q : Option Value → xM → Prop), xW xSR 172 74 [.ref a0, .int a1, .int a2, .int a3, .int a4] (st) M Q = xW xSR 172 75 [.ref a0, .int a1, .int a2, .int a3, .int a4] (.ref a0 :: st) M Q) ∧
  (∀ (a0 : Nat) (a1 : Int32) (a2 : Int32) (a3 : Int32) (a4 : Int32) (st : List Value) (M : xM) (Q : Option Value → xM → Prop), xW xSR 172 75 [.ref a0, .int a1, .int a2, .int a3, .int a4] (.ref 0 :: st) M Q = xW xSR 172 78 [.ref a0, .int a1, .int a2, .int a3, .int a4] (.ref 1 :: st) M Q) ∧
  (∀ (a0 : Nat) (a1 : Int32) (a2 : Int32) (a3 : Int32) (a4 : Int32) (st : List Value) (M : xM) (Q : Option Value → xM → Prop), xW xSR 172 78 [.ref a0, .int a1, .int a2, .int a3, .int a4] (st) M Q = xW xSR 172 79 [.ref a0, .int a1, .int a2, .int a3, .int a4] (.int a1 :: st) M Q) ∧
  (∀ (a0 : Nat) (a1 : Int32) (a2 : Int32) (a3 : Int32) (a4 : Int32) (y0 : Nat) (st : List Value) (M : xM) (Q : Option Value → xM → Prop), y0 < 156 → xW xSR 172 79 [.ref a0, .int a1, .int a2, .int a3, .int a4] (.int (nI y0) :: .ref 1 :: st) M Q = xW xSR 172 80 [.ref a0, .int a1, .int a2, .int a3, .int a4] (.int (M 1 y0) :: st) M Q) ∧
  (∀ (a0 : Nat) (a1 : Int32) (a2 : Int32) (a3 : Int32) (a4 : Int32) (y0 : Int32) (y1 : Nat) (st : List Value) (M : xM) (Q : Option Value → xM → Prop), y1 < 48 → xW xSR 172 80 [.ref a0, .int a1, .int a2, .int a3, .int a4] (.int y0 :: .int (nI y1) :: .ref 6 :: st) M Q = xW xSR 172 81 [.ref a0, .int a1, .int a2, .int a3, .int a4] (st) (xup M 6 y1 y0) Q) ∧
  (∀ (a0 : Nat) (a1 : Int32) (a2 : Int32) (a3 : Int32) (a4 : Int32) (st : List Value) (M : xM) (Q : Option Value → xM → Prop), xW xSR 172 81 [.ref a0, .int a1, .int a2, .int a3, .int a4] (st) M Q = xW xSR 172 82 [.ref a0, .int a1, .int a2, .int a3, .int a4] (.ref a0 :: st) M Q) ∧
  (∀ (a0 : Nat) (a1 : Int32) (a2 : Int32) (a3 : Int32) (a4 : Int32) (st : List Value) (M : xM) (Q : Option Value → xM → Prop), xW xSR 172 82 [.ref a0, .int a1, .int a2, .int a3, .int a4] (.ref 0 :: st) M Q = xW xSR 172 85 [.ref a0, .int a1, .int a2, .int a3, .int a4] (.ref 6 :: st) M Q) ∧
  (∀ (a0 : Nat) (a1 : Int32) (a2 : Int32) (a3 : Int32) (a4 : Int32) (st : List Value) (M : xM) (Q : Option Value → xM → Prop), xW xSR 172 85 [.ref a0, .int a1, .int a2, .int a3, .int a4] (st) M Q = xW xSR 172 87 [.ref a0, .int a1, .int a2, .int a3, .int a4] (.int a4 :: st) M Q) ∧
  (∀ (a0 : Nat) (a1 : Int32) (a2 : Int32) (a3 : Int32) (a4 : Int32) (st : List Value) (M : xM) (Q : Option Value → xM → Prop), xW xSR 172 87 [.ref a0, .int a1, .int a2, .int a3, .int a4] (st) M Q = xW xSR 172 88 [.ref a0, .int a1, .int a2, .int a3, .int a4] (.int (nI 2) :: st) M Q) ∧
  (∀ (a0 : Nat) (a1 : Int32) (a2 : Int32) (a3 : Int32) (a4 : Int32) (y0 : Int32) (y1 : Int32) (st : List Value) (M : xM) (Q : Option Value → xM → Prop), xW xSR 172 88 [.ref a0, .int a1, .int a2, .int a3, .int a4] (.int y0 :: .int y1 :: st) M Q = xW xSR 172 89 [.ref a0, .int a1, .int a2, .int a3, .int a4] (.int (y1 + y0) :: st) M Q) ∧
  (∀ (a0 : Nat) (a1 : Int32) (a2 : Int32) (a3 : Int32) (a4 : Int32) (st : List Value) (M : xM) (Q : Option Value → xM → Prop), xW xSR 172 89 [.ref a0, .int a1, .int a2, .int a3, .int a4] (st) M Q = xW xSR 172 90 [.ref a0, .int a1, .int a2, .int a3, .int a4] (.int a2 :: st) M Q) ∧
  (∀ (a0 : Nat) (a1 : Int32) (a2 : Int32) (a3 : Int32) (a4 : Int32) (y0 : Int32) (y1 : Nat) (st : List Value) (M : xM) (Q : Option Value → xM → Prop), y1 < 48 → xW xSR 172 90 [.ref a0, .int a1, .int a2, .int a3, .int a4] (.int y0 :: .int (nI y1) :: .ref 6 :: st) M Q = xW xSR 172 91 [.ref a0, .int a1, .int a2, .int a3, .int a4] (st) (xup M 6 y1 y0) Q) ∧
  (∀ (a0 : Nat) (a1 : Int32) (a2 : Int32) (a3 : Int32) (a4 : Int32) (st : List Value) (M : xM) (Q : Option Value → xM → Prop), xW xSR 172 91 [.ref a0, .int a1, .int a2, .int a3, .int a4] (st) M Q = xW xSR 172 92 [.ref a0, .int a1, .int a2, .int a3, .int a4] (.ref a0 :: st) M Q) ∧
  (∀ (a0 : Nat) (a1 : Int32) (a2 : Int32) (a3 : Int32) (a4 : Int32) (st : List Value) (M : xM) (Q : Option Value → xM → Prop), xW xSR 172 92 [.ref a0, .int a1, .int a2, .int a3, .int a4] (.ref 0 :: st) M Q = xW xSR 172 95 [.ref a0, .int a1, .int a2, .int a3, .int a4] (.ref 6 :: st) M Q) ∧
  (∀ (a0 : Nat) (a1 : Int32) (a2 : Int32) (a3 : Int32) (a4 : Int32) (st : List Value) (M : xM) (Q : Option Value → xM → Prop), xW xSR 172 95 [.ref a0, .int a1, .int a2, .int a3, .int a4] (st) M Q = xW xSR 172 97 [.ref a0, .int a1, .int a2, .int a3, .int a4] (.int a4 :: st) M Q) ∧
  (∀ (a0 : Nat) (a1 : Int32) (a2 : Int32) (a3 : Int32) (a4 : Int32) (st : List Value) (M : xM) (Q : Option Value → xM → Prop), xW xSR 172 97 [.ref a0, .int a1, .int a2, .int a3, .int a4] (st) M Q = xW xSR 172 98 [.ref a0, .int a1, .int a2, .int a3, .int a4] (.int (nI 3) :: st) M Q) ∧
  (∀ (a0 : Nat) (a1 : Int32) (a2 : Int32) (a3 : Int32) (a4 : Int32) (y0 : Int32) (y1 : Int32) (st : List Value) (M : xM) (Q : Option Value → xM → Prop), xW xSR 172 98 [.ref a0, .int a1, .int a2, .int a3, .int a4] (.int y0 :: .int y1 :: st) M Q = xW xSR 172 99 [.ref a0, .int a1, .int a2, .int a3, .int a4] (.int (y1 + y0) :: st) M Q) ∧
  (∀ (a0 : Nat) (a1 : Int32) (a2 : Int32) (a3 : Int32) (a4 : Int32) (st : List Value) (M : xM) (Q : Option Value → xM → Prop), xW xSR 172 99 [.ref a0, .int a1, .int a2, .int a3, .int a4] (st) M Q = xW xSR 172 100 [.ref a0, .int a1, .int a2, .int a3, .int a4] (.ref a0 :: st) M Q) ∧
  (∀ (a0 : Nat) (a1 : Int32) (a2 : Int32) (a3 : Int32) (a4 : Int32) (st : List Value) (M : xM) (Q : Option Value → xM → Prop), xW xSR 172 100 [.ref a0, .int a1, .int a2, .int a3, .int a4] (.ref 0 :: st) M Q = xW xSR 172 103 [.ref a0, .int a1, .int a2, .int a3, .int a4] (.ref 1 :: st) M Q) ∧
  (∀ (a0 : Nat) (a1 : Int32) (a2 : Int32) (a3 : Int32) (a4 : Int32) (st : List Value) (M : xM) (Q : Option Value → xM → Prop), xW xSR 172 103 [.ref a0, .int a1, .int a2, .int a3, .int a4] (st) M Q = xW xSR 172 104 [.ref a0, .int a1, .int a2, .int a3, .int a4] (.int a2 :: st) M Q) ∧
  (∀ (a0 : Nat) (a1 : Int32) (a2 : Int32) (a3 : Int32) (a4 : Int32) (y0 : Nat) (st : List Value) (M : xM) (Q : Option Value → xM → Prop), y0 < 156 → xW xSR 172 104 [.ref a0, .int a1, .int a2, .int a3, .int a4] (.int (nI y0) :: .ref 1 :: st) M Q = xW xSR 172 105 [.ref a0, .int a1, .int a2, .int a3, .int a4] (.int (M 1 y0) :: st) M Q) ∧
  (∀ (a0 : Nat) (a1 : Int32) (a2 : Int32) (a3 : Int32) (a4 : Int32) (y0 : Int32) (y1 : Nat) (st : List Value) (M : xM) (Q : Option Value → xM → Prop), y1 < 48 → xW xSR 172 105 [.ref a0, .int a1, .int a2, .int a3, .int a4] (.int y0 :: .int (nI y1) :: .ref 6 :: st) M Q = xW xSR 172 106 [.ref a0, .int a1, .int a2, .int a3, .int a4] (st) (xup M 6 y1 y0) Q) ∧
  (∀ (a0 : Nat) (a1 : Int32) (a2 : Int32) (a3 : Int32) (a4 : Int32) (st : List Value) (M : xM) (Q : Option Value → xM → Prop), xW xSR 172 106 [.ref a0, .int a1, .int a2, .int a3, .int a4] (st) M Q = xW xSR 172 107 [.ref a0, .int a1, .int a2, .int a3, .int a4] (.ref a0 :: st) M Q) ∧
  (∀ (a0 : Nat) (a1 : Int32) (a2 : Int32) (a3 : Int32) (a4 : Int32) (st : List Value) (M : xM) (Q : Option Value → xM → Prop), xW xSR 172 107 [.ref a0, .int a1, .int a2, .int a3, .int a4] (.ref 0 :: st) M Q = xW xSR 172 110 [.ref a0, .int a1, .int a2, .int a3, .int a4] (.ref 6 :: st) M Q) ∧
  (∀ (a0 : Nat) (a1 : Int32) (a2 : Int32) (a3 : Int32) (a4 : Int32) (st : List Value) (M : xM) (Q : Option Value → xM → Prop), xW xSR 172 110 [.ref a0, .int a1, .int a2, .int a3, .int a4] (st) M Q = xW xSR 172 112 [.ref a0, .int a1, .int a2, .int a3, .int a4] (.int a4 :: st) M Q) ∧
  (∀ (a0 : Nat) (a1 : Int32) (a2 : Int32) (a3 : Int32) (a4 : Int32) (st : List Value) (M : xM) (Q : Option Value → xM → Prop), xW xSR 172 112 [.ref a0, .int a1, .int a2, .int a3, .int a4] (st) M Q = xW xSR 172 113 [.ref a0, .int a1, .int a2, .int a3, .int a4] (.int (nI 4) :: st) M Q) ∧
  (∀ (a0 : Nat) (a1 : Int32) (a2 : Int32) (a3 : Int32) (a4 : Int32) (y0 : Int32) (y1 : Int32) (st : List Value) (M : xM) (Q : Option Value → xM → Prop), xW xSR 172 113 [.ref a0, .int a1, .int a2, .int a3, .int a4] (.int y0 :: .int y1 :: st) M Q = xW xSR 172 114 [.ref a0, .int a1, .int a2, .int a3, .int a4] (.int (y1 + y0) :: st) M Q) ∧
  (∀ (a0 : Nat) (a1 : Int32) (a2 : Int32) (a3 : Int32) (a4 : Int32) (st : List Value) (M : xM) (Q : Option Value → xM → Prop), xW xSR 172 114 [.ref a0, .int a1, .int a2, .int a3, .int a4] (st) M Q = xW xSR 172 115 [.ref a0, .int a1, .int a2, .int a3, .int a4] (.int a3 :: st) M Q) ∧
  (∀ (a0 : Nat) (a1 : Int32) (a2 : Int32) (a3 : Int32) (a4 : Int32) (y0 : Int32) (y1 : Nat) (st : List Value) (M : xM) (Q : Option Value → xM → Prop), y1 < 48 → xW xSR 172 115 [.ref a0, .int a1, .int a2, .int a3, .int a4] (.int y0 :: .int (nI y1) :: .ref 6 :: st) M Q = xW xSR 172 116 [.ref a0, .int a1, .int a2, .int a3, .int a4] (st) (xup M 6 y1 y0) Q) ∧
  (∀ (a0 : Nat) (a1 : Int32) (a2 : Int32) (a3 : Int32) (a4 : Int32) (st : List Value) (M : xM) (Q : Option Value → xM → Prop), xW xSR 172 116 [.ref a0, .int a1, .int a2, .int a3, .int a4] (st) M Q = xW xSR 172 117 [.ref a0, .int a1, .int a2, .int a3, .int a4] (.ref a0 :: st) M Q) ∧
  (∀ (a0 : Nat) (a1 : Int32) (a2 : Int32) (a3 : Int32) (a4 : Int32) (st : List Value) (M : xM) (Q : Option Value → xM → Prop), xW xSR 172 117 [.ref a0, .int a1, .int a2, .int a3, .int a4] (.ref 0 :: st) M Q = xW xSR 172 120 [.ref a0, .int a1, .int a2, .int a3, .int a4] (.ref 6 :: st) M Q) ∧
  (∀ (a0 : Nat) (a1 : Int32) (a2 : Int32) (a3 : Int32) (a4 : Int32) (st : List Value) (M : xM) (Q : Option Value → xM → Prop), xW xSR 172 120 [.ref a0, .int a1, .int a2, .int a3, .int a4] (st) M Q = xW xSR 172 122 [.ref a0, .int a1, .int a2, .int a3, .int a4] (.int a4 :: st) M Q) ∧
  (∀ (a0 : Nat) (a1 : Int32) (a2 : Int32) (a3 : Int32) (a4 : Int32) (st : List Value) (M : xM) (Q : Option Value → xM → Prop), xW xSR 172 122 [.ref a0, .int a1, .int a2, .int a3, .int a4] (st) M Q = xW xSR 172 123 [.ref a0, .int a1, .int a2, .int a3, .int a4] (.int (nI 5) :: st) M Q) ∧
  (∀ (a0 : Nat) (a1 : Int32) (a2 : Int32) (a3 : Int32) (a4 : Int32) (y0 : Int32) (y1 : Int32) (st : List Value) (M : xM) (Q : Option Value → xM → Prop), xW xSR 172 123 [.ref a0, .int a1, .int a2, .int a3, .int a4] (.int y0 :: .int y1 :: st) M Q = xW xSR 172 124 [.ref a0, .int a1, .int a2, .int a3, .int a4] (.int (y1 + y0) :: st) M Q) ∧
  (∀ (a0 : Nat) (a1 : Int32) (a2 : Int32) (a3 : Int32) (a4 : Int32) (st : List Value) (M : xM) (Q : Option Value → xM → Prop), xW xSR 172 124 [.ref a0, .int a1, .int a2, .int a3, .int a4] (st) M Q = xW xSR 172 125 [.ref a0, .int a1, .int a2, .int a3, .int a4] (.ref a0 :: st) M Q) ∧
  (∀ (a0 : Nat) (a1 : Int32) (a2 : Int32) (a3 : Int32) (a4 : Int32) (st : List Value) (M : xM) (Q : Option Value → xM → Prop), xW xSR 172 125 [.ref a0, .int a1, .int a2, .int a3, .int a4] (.ref 0 :: st) M Q = xW xSR 172 128 [.ref a0, .int a1, .int a2, .int a3, .int a4] (.ref 1 :: st) M Q) ∧
  (∀ (a0 : Nat) (a1 : Int32) (a2 : Int32) (a3 : Int32) (a4 : Int32) (st : List Value) (M : xM) (Q : Option Value → xM → Prop), xW xSR 172 128 [.ref a0, .int a1, .int a2, .int a3, .int a4] (st) M Q = xW xSR 172 129 [.ref a0, .int a1, .int a2, .int a3, .int a4] (.int a3 :: st) M Q) ∧
  (∀ (a0 : Nat) (a1 : Int32) (a2 : Int32) (a3 : Int32) (a4 : Int32) (y0 : Nat) (st : List Value) (M : xM) (Q : Option Value → xM → Prop), y0 < 156 → xW xSR 172 129 [.ref a0, .int a1, .int a2, .int a3, .int a4] (.int (nI y0) :: .ref 1 :: st) M Q = xW xSR 172 130 [.ref a0, .int a1, .int a2, .int a3, .int a4] (.int (M 1 y0) :: st) M Q) ∧
  (∀ (a0 : Nat) (a1 : Int32) (a2 : Int32) (a3 : Int32) (a4 : Int32) (y0 : Int32) (y1 : Nat) (st : List Value) (M : xM) (Q : Option Value → xM → Prop), y1 < 48 → xW xSR 172 130 [.ref a0, .int a1, .int a2, .int a3, .int a4] (.int y0 :: .int (nI y1) :: .ref 6 :: st) M Q = xW xSR 172 131 [.ref a0, .int a1, .int a2, .int a3, .int a4] (st) (xup M 6 y1 y0) Q) ∧
  (∀ (a0 : Nat) (a1 : Int32) (a2 : Int32) (a3 : Int32) (a4 : Int32) (st : List Value) (M : xM) (Q : Option Value → xM → Prop), xW xSR 172 131 [.ref a0, .int a1, .int a2, .int a3, .int a4] (st) M Q = xW xSR 172 132 [.ref a0, .int a1, .int a2, .int a3, .int a4] (.ref a0 :: st) M Q) ∧
  (∀ (a0 : Nat) (a1 : Int32) (a2 : Int32) (a3 : Int32) (a4 : Int32) (y0 : Nat) (st : List Value) (M : xM) (Q : Option Value → xM → Prop), xW xSR 172 132 [.ref a0, .int a1, .int a2, .int a3, .int a4] (.ref y0 :: st) M Q = xW xSR 172 133 [.ref a0, .int a1, .int a2, .int a3, .int a4] (.ref y0 :: .ref y0 :: st) M Q) ∧
  (∀ (a0 : Nat) (a1 : Int32) (a2 : Int32) (a3 : Int32) (a4 : Int32) (st : List Value) (M : xM) (Q : Option Value → xM → Prop), xW xSR 172 133 [.ref a0, .int a1, .int a2, .int a3, .int a4] (.ref 0 :: st) M Q = xW xSR 172 136 [.ref a0, .int a1, .int a2, .int a3, .int a4] (.int (M 0 10) :: st) M Q) ∧
  (∀ (a0 : Nat) (a1 : Int32) (a2 : Int32) (a3 : Int32) (a4 : Int32) (st : List Value) (M : xM) (Q : Option Value → xM → Prop), xW xSR 172 136 [.ref a0, .int a1, .int a2, .int a3, .int a4] (st) M Q = xW xSR 172 137 [.ref a0, .int a1, .int a2, .int a3, .int a4] (.int (nI 1) :: st) M Q) ∧
  (∀ (a0 : Nat) (a1 : Int32) (a2 : Int32) (a3 : Int32) (a4 : Int32) (y0 : Int32) (y1 : Int32) (st : List Value) (M : xM) (Q : Option Value → xM → Prop), xW xSR 172 137 [.ref a0, .int a1, .int a2, .int a3, .int a4] (.int y0 :: .int y1 :: st) M Q = xW xSR 172 138 [.ref a0, .int a1, .int a2, .int a3, .int a4] (.int (y1 + y0) :: st) M Q) ∧
  (∀ (a0 : Nat) (a1 : Int32) (a2 : Int32) (a3 : Int32) (a4 : Int32) (y0 : Int32) (st : List Value) (M : xM) (Q : Option Value → xM → Prop), xW xSR 172 138 [.ref a0, .int a1, .int a2, .int a3, .int a4] (.int y0 :: .ref 0 :: st) M Q = xW xSR 172 141 [.ref a0, .int a1, .int a2, .int a3, .int a4] (st) (xup M 0 10 y0) Q) ∧
  (∀ (a0 : Nat) (a1 : Int32) (a2 : Int32) (a3 : Int32) (a4 : Int32) (M : xM) (Q : Option Value → xM → Prop), xW xSR 172 141 [.ref a0, .int a1, .int a2, .int a3, .int a4] ([]) M Q = Q none M) :=
  ⟨fun a0 a1 a2 a3 a4 st M Q => xw_s rfl rfl,
  fun a0 a1 a2 a3 a4 st M Q => xw_s rfl rfl,
  fun a0 a1 a2 a3 a4 st M Q => xw_s rfl rfl,
  fun a0 a1 a2 a3 a4 y0 y1 st M Q => xw_brn (c0 := y1 ≠ y0) (c1 := y1 = y0) rfl rfl (Iff.rfl),
  fun a0 a1 a2 a3 a4 st M Q => xw_s rfl rfl,
  fun a0 a1 a2 a3 a4 y0 st M Q => xw_s rfl rfl,
  fun a0 a1 a2 a3 a4 st M Q => xw_s rfl rfl,
  fun a0 a1 a2 a3 a4 y0 y1 st M Q => xw_brn (c0 := y0 ≤ y1) (c1 := y1 < y0) rfl rfl (xge _ _),
  fun a0 a1 a2 a3 a4 st M Q => xw_s rfl rfl,
  fun a0 a1 a2 a3 a4 st M Q => xw_s rfl rfl,
  fun a0 a1 a2 a3 a4 st M Q => xw_s rfl rfl,
  fun a0 a1 a2 a3 a4 st M Q => xw_s rfl rfl,
  fun a0 a1 a2 a3 a4 y0 y1 st M Q => xw_s rfl rfl,
  fun a0 a1 a2 a3 a4 st M Q => xw_s rfl rfl,
  fun a0 a1 a2 a3 a4 st M Q => xw_s rfl rfl,
  fun a0 a1 a2 a3 a4 st M Q => xw_s rfl rfl,
  fun a0 a1 a2 a3 a4 y0 st M Q h0 => xw_ald rfl rfl rfl (by decide) h0,
  fun a0 a1 a2 a3 a4 y0 y1 st M Q h0 => xw_ast (f := fun x => x) rfl rfl rfl (by decide) h0,
  fun a0 a1 a2 a3 a4 st M Q => xw_s rfl rfl,
  fun a0 a1 a2 a3 a4 st M Q => xw_s rfl rfl,
  fun a0 a1 a2 a3 a4 st M Q => xw_s rfl rfl,
  fun a0 a1 a2 a3 a4 st M Q => xw_s rfl rfl,
  fun a0 a1 a2 a3 a4 y0 st M Q => xw_s rfl rfl,
  fun a0 a1 a2 a3 a4 st M Q => xw_s rfl rfl,
  fun a0 a1 a2 a3 a4 st M Q => xw_s rfl rfl,
  fun a0 a1 a2 a3 a4 y0 y1 st M Q => xw_s rfl rfl,
  fun a0 a1 a2 a3 a4 y0 st M Q => xw_s rfl rfl,
  fun a0 a1 a2 a3 a4 st M Q => xw_s rfl rfl,
  fun a0 a1 a2 a3 a4 st M Q => xw_s rfl rfl,
  fun a0 a1 a2 a3 a4 st M Q => xw_s rfl rfl,
  fun a0 a1 a2 a3 a4 st M Q => xw_s rfl rfl,
  fun a0 a1 a2 a3 a4 y0 y1 st M Q h0 => xw_ast (f := fun x => x) rfl rfl rfl (by decide) h0,
  fun a0 a1 a2 a3 a4 st M Q => xw_s rfl rfl,
  fun a0 a1 a2 a3 a4 st M Q => xw_s rfl rfl,
  fun a0 a1 a2 a3 a4 st M Q => xw_s rfl rfl,
  fun a0 a1 a2 a3 a4 st M Q => xw_s rfl rfl,
  fun a0 a1 a2 a3 a4 y0 y1 st M Q => xw_s rfl rfl,
  fun a0 a1 a2 a3 a4 st M Q => xw_s rfl rfl,
  fun a0 a1 a2 a3 a4 st M Q => xw_s rfl rfl,
  fun a0 a1 a2 a3 a4 st M Q => xw_s rfl rfl,
  fun a0 a1 a2 a3 a4 y0 st M Q h0 => xw_ald rfl rfl rfl (by decide) h0,
  fun a0 a1 a2 a3 a4 y0 y1 st M Q h0 => xw_ast (f := fun x => x) rfl rfl rfl (by decide) h0,
  fun a0 a1 a2 a3 a4 st M Q => xw_s rfl rfl,
  fun a0 a1 a2 a3 a4 st M Q => xw_s rfl rfl,
  fun a0 a1 a2 a3 a4 st M Q => xw_s rfl rfl,
  fun a0 a1 a2 a3 a4 st M Q => xw_s rfl rfl,
  fun a0 a1 a2 a3 a4 y0 y1 st M Q => xw_s rfl rfl,
  fun a0 a1 a2 a3 a4 st M Q => xw_s rfl rfl,
  fun a0 a1 a2 a3 a4 y0 y1 st M Q h0 => xw_ast (f := fun x => x) rfl rfl rfl (by decide) h0,
  fun a0 a1 a2 a3 a4 st M Q => xw_s rfl rfl,
  fun a0 a1 a2 a3 a4 st M Q => xw_s rfl rfl,
  fun a0 a1 a2 a3 a4 st M Q => xw_s rfl rfl,
  fun a0 a1 a2 a3 a4 st M Q => xw_s rfl rfl,
  fun a0 a1 a2 a3 a4 y0 y1 st M Q => xw_s rfl rfl,
  fun a0 a1 a2 a3 a4 st M Q => xw_s rfl rfl,
  fun a0 a1 a2 a3 a4 st M Q => xw_s rfl rfl,
  fun a0 a1 a2 a3 a4 st M Q => xw_s rfl rfl,
  fun a0 a1 a2 a3 a4 y0 st M Q h0 => xw_ald rfl rfl rfl (by decide) h0,
  fun a0 a1 a2 a3 a4 y0 y1 st M Q h0 => xw_ast (f := fun x => x) rfl rfl rfl (by decide) h0,
  fun a0 a1 a2 a3 a4 st M Q => xw_s rfl rfl,
  fun a0 a1 a2 a3 a4 st M Q => xw_s rfl rfl,
  fun a0 a1 a2 a3 a4 st M Q => xw_s rfl rfl,
  fun a0 a1 a2 a3 a4 st M Q => xw_s rfl rfl,
  fun a0 a1 a2 a3 a4 y0 y1 st M Q => xw_s rfl rfl,
  fun a0 a1 a2 a3 a4 st M Q => xw_s rfl rfl,
  fun a0 a1 a2 a3 a4 y0 y1 st M Q h0 => xw_ast (f := fun x => x) rfl rfl rfl (by decide) h0,
  fun a0 a1 a2 a3 a4 st M Q => xw_s rfl rfl,
  fun a0 a1 a2 a3 a4 st M Q => xw_s rfl rfl,
  fun a0 a1 a2 a3 a4 st M Q => xw_s rfl rfl,
  fun a0 a1 a2 a3 a4 st M Q => xw_s rfl rfl,
  fun a0 a1 a2 a3 a4 y0 y1 st M Q => xw_s rfl rfl,
  fun a0 a1 a2 a3 a4 st M Q => xw_s rfl rfl,
  fun a0 a1 a2 a3 a4 st M Q => xw_s rfl rfl,
  fun a0 a1 a2 a3 a4 st M Q => xw_s rfl rfl,
  fun a0 a1 a2 a3 a4 y0 st M Q h0 => xw_ald rfl rfl rfl (by decide) h0,
  fun a0 a1 a2 a3 a4 y0 y1 st M Q h0 => xw_ast (f := fun x => x) rfl rfl rfl (by decide) h0,
  fun a0 a1 a2 a3 a4 st M Q => xw_s rfl rfl,
  fun a0 a1 a2 a3 a4 y0 st M Q => xw_s rfl rfl,
  fun a0 a1 a2 a3 a4 st M Q => xw_s rfl rfl,
  fun a0 a1 a2 a3 a4 st M Q => xw_s rfl rfl,
  fun a0 a1 a2 a3 a4 y0 y1 st M Q => xw_s rfl rfl,
  fun a0 a1 a2 a3 a4 y0 st M Q => xw_s rfl rfl,
  fun a0 a1 a2 a3 a4 M Q => xw_retv rfl rfl⟩
set_option maxRecDepth 20000 in
theorem h172_13 :
  (∀ (a0 : Nat) (a1 : Int32) (a2 : Int32) (a3 : Int32) (a4 : Int32) (st : List Value) (M : xM) (Q : Option Value → xM → Prop), xW xSR 172 13 [.ref a0, .int a1, .int a2, .int a3, .int a4] (st) M Q = xW xSR 172 15 [.ref a0, .int a1, .int a2, .int a3, .int a4] (.int a4 :: st) M Q) :=
  fun a0 a1 a2 a3 a4 st M Q => xw_s rfl rfl
set_option maxRecDepth 20000 in
theorem h172_49 :
  (∀ (a0 : Nat) (a1 : Int32) (a2 : Int32) (a3 : Int32) (a4 : Value) (st : List Value) (M : xM) (Q : Option Value → xM → Prop), xW xSR 172 49 [.ref a0, .int a1, .int a2, .int a3, a4] (st) M Q = xW xSR 172 51 [.ref a0, .int a1, .int a2, .int a3, a4] (.int (nI 6) :: st) M Q) :=
  fun a0 a1 a2 a3 a4 st M Q => xw_s rfl rfl
set_option maxRecDepth 20000 in
theorem j172 :
  (∀ (a0 : Nat) (a1 : Int32) (a2 : Int32) (a3 : Int32) (a4 : Value) (st : List Value) (M : xM) (Q : Option Value → xM → Prop), xW xSR 172 49 [.ref a0, .int a1, .int a2, .int a3, a4] (st) M Q = xW xSR 172 51 [.ref a0, .int a1, .int a2, .int a3, a4] (.int (nI 6) :: st) M Q) :=
  fun a0 a1 a2 a3 a4 st M Q => xw_s rfl rfl

set_option maxRecDepth 20000 in
theorem s173 :
  (∀ (a0 : Nat) (a1 : Int32) (a2 : Int32) (a3 : Int32) (a4 : Value) (a5 : Value) (st : List Value) (M : xM) (Q : Option Value → xM → Prop), xW xSR 173 0 [.ref a0, .int a1, .int a2, .int a3, a4, a5] (st) M Q = xW xSR 173 2 [.ref a0, .int a1, .int a2, .int a3, a4, a5] (.int (nI 51) :: st) M Q) ∧
  (∀ (a0 : Nat) (a1 : Int32) (a2 : Int32) (a3 : Int32) (a4 : Value) (a5 : Value) (st : List Value) (M : xM) (Q : Option Value → xM → Prop), xW xSR 173 2 [.ref a0, .int a1, .int a2, .int a3, a4, a5] (st) M Q = xW xSR 173 3 [.ref a0, .int a1, .int a2, .int a3, a4, a5] (.int (nI 3) :: st) M Q) ∧
  (∀ (a0 : Nat) (a1 : Int32) (a2 : Int32) (a3 : Int32) (a4 : Value) (a5 : Value) (st : List Value) (M : xM) (Q : Option Value → xM → Prop), xW xSR 173 3 [.ref a0, .int a1, .int a2, .int a3, a4, a5] (st) M Q = xW xSR 173 4 [.ref a0, .int a1, .int a2, .int a3, a4, a5] (.int a1 :: st) M Q) ∧
  (∀ (a0 : Nat) (a1 : Int32) (a2 : Int32) (a3 : Int32) (a4 : Value) (a5 : Value) (y0 : Int32) (y1 : Int32) (st : List Value) (M : xM) (Q : Option Value → xM → Prop), xW xSR 173 4 [.ref a0, .int a1, .int a2, .int a3, a4, a5] (.int y0 :: .int y1 :: st) M Q = xW xSR 173 5 [.ref a0, .int a1, .int a2, .int a3, a4, a5] (.int (y1 * y0) :: st) M Q) ∧
  (∀ (a0 : Nat) (a1 : Int32) (a2 : Int32) (a3 : Int32) (a4 : Value) (a5 : Value) (y0 : Int32) (y1 : Int32) (st : List Value) (M : xM) (Q : Option Value → xM → Prop), xW xSR 173 5 [.ref a0, .int a1, .int a2, .int a3, a4, a5] (.int y0 :: .int y1 :: st) M Q = xW xSR 173 6 [.ref a0, .int a1, .int a2, .int a3, a4, a5] (.int (y1 + y0) :: st) M Q) ∧
  (∀ (a0 : Nat) (a1 : Int32) (a2 : Int32) (a3 : Int32) (a4 : Value) (a5 : Value) (y0 : Int32) (st : List Value) (M : xM) (Q : Option Value → xM → Prop), xW xSR 173 6 [.ref a0, .int a1, .int a2, .int a3, a4, a5] (.int y0 :: st) M Q = xW xSR 173 8 [.ref a0, .int a1, .int a2, .int a3, .int y0, a5] (st) M Q) ∧
  (∀ (a0 : Nat) (a1 : Int32) (a2 : Int32) (a3 : Int32) (a4 : Int32) (a5 : Value) (st : List Value) (M : xM) (Q : Option Value → xM → Prop), xW xSR 173 8 [.ref a0, .int a1, .int a2, .int a3, .int a4, a5] (st) M Q = xW xSR 173 9 [.ref a0, .int a1, .int a2, .int a3, .int a4, a5] (.ref a0 :: st) M Q) ∧
  (∀ (a0 : Nat) (a1 : Int32) (a2 : Int32) (a3 : Int32) (a4 : Int32) (a5 : Value) (st : List Value) (M : xM) (Q : Option Value → xM → Prop), xW xSR 173 9 [.ref a0, .int a1, .int a2, .int a3, .int a4, a5] (.ref 0 :: st) M Q = xW xSR 173 12 [.ref a0, .int a1, .int a2, .int a3, .int a4, a5] (.ref 1 :: st) M Q) ∧
  (∀ (a0 : Nat) (a1 : Int32) (a2 : Int32) (a3 : Int32) (a4 : Int32) (a5 : Value) (st : List Value) (M : xM) (Q : Option Value → xM → Prop), xW xSR 173 12 [.ref a0, .int a1, .int a2, .int a3, .int a4, a5] (st) M Q = xW xSR 173 14 [.ref a0, .int a1, .int a2, .int a3, .int a4, a5] (.int a4 :: st) M Q) ∧
  (∀ (a0 : Nat) (a1 : Int32) (a2 : Int32) (a3 : Int32) (a4 : Int32) (a5 : Value) (st : List Value) (M : xM) (Q : Option Value → xM → Prop), xW xSR 173 14 [.ref a0, .int a1, .int a2, .int a3, .int a4, a5] (st) M Q = xW xSR 173 15 [.ref a0, .int a1, .int a2, .int a3, .int a4, a5] (.ref a0 :: st) M Q) ∧
  (∀ (a0 : Nat) (a1 : Int32) (a2 : Int32) (a3 : Int32) (a4 : Int32) (a5 : Value) (st : List Value) (M : xM) (Q : Option Value → xM → Prop), xW xSR 173 15 [.ref a0, .int a1, .int a2, .int a3, .int a4, a5] (.ref 0 :: st) M Q = xW xSR 173 18 [.ref a0, .int a1, .int a2, .int a3, .int a4, a5] (.ref 1 :: st) M Q) ∧
  (∀ (a0 : Nat) (a1 : Int32) (a2 : Int32) (a3 : Int32) (a4 : Int32) (a5 : Value) (st : List Value) (M : xM) (Q : Option Value → xM → Prop), xW xSR 173 18 [.ref a0, .int a1, .int a2, .int a3, .int a4, a5] (st) M Q = xW xSR 173 19 [.ref a0, .int a1, .int a2, .int a3, .int a4, a5] (.int (nI 3) :: st) M Q) ∧
  (∀ (a0 : Nat) (a1 : Int32) (a2 : Int32) (a3 : Int32) (a4 : Int32) (a5 : Value) (st : List Value) (M : xM) (Q : Option Value → xM → Prop), xW xSR 173 19 [.ref a0, .int a1, .int a2, .int a3, .int a4, a5] (st) M Q = xW xSR 173 21 [.ref a0, .int a1, .int a2, .int a3, .int a4, a5] (.int (nI 6) :: st) M Q) ∧
  (∀ (a0 : Nat) (a1 : Int32) (a2 : Int32) (a3 : Int32) (a4 : Int32) (a5 : Value) (st : List Value) (M : xM) (Q : Option Value → xM → Prop), xW xSR 173 21 [.ref a0, .int a1, .int a2, .int a3, .int a4, a5] (st) M Q = xW xSR 173 22 [.ref a0, .int a1, .int a2, .int a3, .int a4, a5] (.int a2 :: st) M Q) ∧
  (∀ (a0 : Nat) (a1 : Int32) (a2 : Int32) (a3 : Int32) (a4 : Int32) (a5 : Value) (y0 : Int32) (y1 : Int32) (st : List Value) (M : xM) (Q : Option Value → xM → Prop), xW xSR 173 22 [.ref a0, .int a1, .int a2, .int a3, .int a4, a5] (.int y0 :: .int y1 :: st) M Q = xW xSR 173 23 [.ref a0, .int a1, .int a2, .int a3, .int a4, a5] (.int (y1 * y0) :: st) M Q) ∧
  (∀ (a0 : Nat) (a1 : Int32) (a2 : Int32) (a3 : Int32) (a4 : Int32) (a5 : Value) (y0 : Int32) (y1 : Int32) (st : List Value) (M : xM) (Q : Option Value → xM → Prop), xW xSR 173 23 [.ref a0, .int a1, .int a2, .int a3, .int a4, a5] (.int y0 :: .int y1 :: st) M Q = xW xSR 173 24 [.ref a0, .int a1, .int a2, .int a3, .int a4, a5] (.int (y1 + y0) :: st) M Q) ∧
  (∀ (a0 : Nat) (a1 : Int32) (a2 : Int32) (a3 : Int32) (a4 : Int32) (a5 : Value) (st : List Value) (M : xM) (Q : Option Value → xM → Prop), xW xSR 173 24 [.ref a0, .int a1, .int a2, .int a3, .int a4, a5] (st) M Q = xW xSR 173 25 [.ref a0, .int a1, .int a2, .int a3, .int a4, a5] (.int (nI 1) :: st) M Q) ∧
  (∀ (a0 : Nat) (a1 : Int32) (a2 : Int32) (a3 : Int32) (a4 : Int32) (a5 : Value) (y0 : Int32) (y1 : Int32) (st : List Value) (M : xM) (Q : Option Value → xM → Prop), xW xSR 173 25 [.ref a0, .int a1, .int a2, .int a3, .int a4, a5] (.int y0 :: .int y1 :: st) M Q = xW xSR 173 26 [.ref a0, .int a1, .int a2, .int a3, .int a4, a5] (.int (y1 + y0) :: st) M Q) ∧
  (∀ (a0 : Nat) (a1 : Int32) (a2 : Int32) (a3 : Int32) (a4 : Int32) (a5 : Value) (st : List Value) (M : xM) (Q : Option Value → xM → Prop), xW xSR 173 26 [.ref a0, .int a1, .int a2, .int a3, .int a4, a5] (st) M Q = xW xSR 173 27 [.ref a0, .int a1, .int a2, .int a3, .int a4, a5] (.int a3 :: st) M Q) ∧
  (∀ (a0 : Nat) (a1 : Int32) (a2 : Int32) (a3 : Int32) (a4 : Int32) (a5 : Value) (y0 : Int32) (y1 : Int32) (st : List Value) (M : xM) (Q : Option Value → xM → Prop), xW xSR 173 27 [.ref a0, .int a1, .int a2, .int a3, .int a4, a5] (.int y0 :: .int y1 :: st) M Q = xW xSR 173 28 [.ref a0, .int a1, .int a2, .int a3, .int a4, a5] (.int (y1 - y0) :: st) M Q) ∧
  (∀ (a0 : Nat) (a1 : Int32) (a2 : Int32) (a3 : Int32) (a4 : Int32) (a5 : Value) (y0 : Nat) (st : List Value) (M : xM) (Q : Option Value → xM → Prop), y0 < 156 → xW xSR 173 28 [.ref a0, .int a1, .int a2, .int a3, .int a4, a5] (.int (nI y0) :: .ref 1 :: st) M Q = xW xSR 173 29 [.ref a0, .int a1, .int a2, .int a3, .int a4, a5] (.int (M 1 y0) :: st) M Q) ∧
  (∀ (a0 : Nat) (a1 : Int32) (a2 : Int32) (a3 : Int32) (a4 : Int32) (a5 : Value) (y0 : Int32) (y1 : Nat) (st : List Value) (M : xM) (Q : Option Value → xM → Prop), y1 < 156 → xW xSR 173 29 [.ref a0, .int a1, .int a2, .int a3, .int a4, a5] (.int y0 :: .int (nI y1) :: .ref 1 :: st) M Q = xW xSR 173 30 [.ref a0, .int a1, .int a2, .int a3, .int a4, a5] (st) (xup M 1 y1 y0) Q) ∧
  (∀ (a0 : Nat) (a1 : Int32) (a2 : Int32) (a3 : Int32) (a4 : Int32) (a5 : Value) (st : List Value) (M : xM) (Q : Option Value → xM → Prop), xW xSR 173 30 [.ref a0, .int a1, .int a2, .int a3, .int a4, a5] (st) M Q = xW xSR 173 31 [.ref a0, .int a1, .int a2, .int a3, .int a4, a5] (.int a1 :: st) M Q) ∧
  (∀ (a0 : Nat) (a1 : Int32) (a2 : Int32) (a3 : Int32) (a4 : Int32) (a5 : Value) (st : List Value) (M : xM) (Q : Option Value → xM → Prop), xW xSR 173 31 [.ref a0, .int a1, .int a2, .int a3, .int a4, a5] (st) M Q = xW xSR 173 32 [.ref a0, .int a1, .int a2, .int a3, .int a4, a5] (.int a2 :: st) M Q) ∧
  (∀ (a0 : Nat) (a1 : Int32) (a2 : Int32) (a3 : Int32) (a4 : Int32) (a5 : Value) (st : List Value) (M : xM) (Q : Option Value → xM → Prop), xW xSR 173 32 [.ref a0, .int a1, .int a2, .int a3, .int a4, a5] (st) M Q = xW xSR 173 33 [.ref a0, .int a1, .int a2, .int a3, .int a4, a5] (.int a3 :: st) M Q) ∧
  (∀ (a0 : Nat) (a1 : Int32) (a2 : Int32) (a3 : Int32) (a4 : Int32) (a5 : Value) (y0 : Int32) (y1 : Int32) (y2 : Int32) (M : xM) (Q : Option Value → xM → Prop), xW xSR 173 33 [.ref a0, .int a1, .int a2, .int a3, .int a4, a5] (.int y0 :: .int y1 :: .int y2 :: []) M Q = xW xSR 158 0 [.int y2, .int y1, .int y0] [] M (fun v M' => xW xSR 173 36 [.ref a0, .int a1, .int a2, .int a3, .int a4, a5] (xpush v []) M' Q)) ∧
  (∀ (a0 : Nat) (a1 : Int32) (a2 : Int32) (a3 : Int32) (a4 : Int32) (a5 : Value) (y0 : Int32) (st : List Value) (M : xM) (Q : Option Value → xM → Prop), xW xSR 173 36 [.ref a0, .int a1, .int a2, .int a3, .int a4, a5] (.int y0 :: st) M Q = xW xSR 173 38 [.ref a0, .int a1, .int a2, .int a3, .int a4, .int y0] (st) M Q) ∧
  (∀ (a0 : Nat) (a1 : Int32) (a2 : Int32) (a3 : Int32) (a4 : Int32) (a5 : Int32) (st : List Value) (M : xM) (Q : Option Value → xM → Prop), xW xSR 173 38 [.ref a0, .int a1, .int a2, .int a3, .int a4, .int a5] (st) M Q = xW xSR 173 39 [.ref a0, .int a1, .int a2, .int a3, .int a4, .int a5] (.ref a0 :: st) M Q) ∧
  (∀ (a0 : Nat) (a1 : Int32) (a2 : Int32) (a3 : Int32) (a4 : Int32) (a5 : Int32) (st : List Value) (M : xM) (Q : Option Value → xM → Prop), xW xSR 173 39 [.ref a0, .int a1, .int a2, .int a3, .int a4, .int a5] (.ref 0 :: st) M Q = xW xSR 173 42 [.ref a0, .int a1, .int a2, .int a3, .int a4, .int a5] (.ref 1 :: st) M Q) ∧
  (∀ (a0 : Nat) (a1 : Int32) (a2 : Int32) (a3 : Int32) (a4 : Int32) (a5 : Int32) (st : List Value) (M : xM) (Q : Option Value → xM → Prop), xW xSR 173 42 [.ref a0, .int a1, .int a2, .int a3, .int a4, .int a5] (st) M Q = xW xSR 173 44 [.ref a0, .int a1, .int a2, .int a3, .int a4, .int a5] (.int a5 :: st) M Q) ∧
  (∀ (a0 : Nat) (a1 : Int32) (a2 : Int32) (a3 : Int32) (a4 : Int32) (a5 : Int32) (st : List Value) (M : xM) (Q : Option Value → xM → Prop), xW xSR 173 44 [.ref a0, .int a1, .int a2, .int a3, .int a4, .int a5] (st) M Q = xW xSR 173 45 [.ref a0, .int a1, .int a2, .int a3, .int a4, .int a5] (.ref a0 :: st) M Q) ∧
  (∀ (a0 : Nat) (a1 : Int32) (a2 : Int32) (a3 : Int32) (a4 : Int32) (a5 : Int32) (st : List Value) (M : xM) (Q : Option Value → xM → Prop), xW xSR 173 45 [.ref a0, .int a1, .int a2, .int a3, .int a4, .int a5] (.ref 0 :: st) M Q = xW xSR 173 48 [.ref a0, .int a1, .int a2, .int a3, .int a4, .int a5] (.ref 1 :: st) M Q) ∧
  (∀ (a0 : Nat) (a1 : Int32) (a2 : Int32) (a3 : Int32) (a4 : Int32) (a5 : Int32) (st : List Value) (M : xM) (Q : Option Value → xM → Prop), xW xSR 173 48 [.ref a0, .int a1, .int a2, .int a3, .int a4, .int a5] (st) M Q = xW xSR 173 50 [.ref a0, .int a1, .int a2, .int a3, .int a4, .int a5] (.int a5 :: st) M Q) ∧
  (∀ (a0 : Nat) (a1 : Int32) (a2 : Int32) (a3 : Int32) (a4 : Int32) (a5 : Int32) (y0 : Nat) (st : List Value) (M : xM) (Q : Option Value → xM → Prop), y0 < 156 → xW xSR 173 50 [.ref a0, .int a1, .int a2, .int a3, .int a4, .int a5] (.int (nI y0) :: .ref 1 :: st) M Q = xW xSR 173 51 [.ref a0, .int a1, .int a2, .int a3, .int a4, .int a5] (.int (M 1 y0) :: st) M Q) ∧
  (∀ (a0 : Nat) (a1 : Int32) (a2 : Int32) (a3 : Int32) (a4 : Int32) (a5 : Int32) (st : List Value) (M : xM) (Q : Option Value → xM → Prop), xW xSR 173 51 [.ref a0, .int a1, .int a2, .int a3, .int a4, .int a5] (st) M Q = xW xSR 173 53 [.ref a0, .int a1, .int a2, .int a3, .int a4, .int a5] (.int (nI 99) :: st) M Q) ∧
  (∀ (a0 : Nat) (a1 : Int32) (a2 : Int32) (a3 : Int32) (a4 : Int32) (a5 : Int32) (y0 : Int32) (y1 : Int32) (st : List Value) (M : xM) (Q : Option Value → xM → Prop), xW xSR 173 53 [.ref a0, .int a1, .int a2, .int a3, .int a4, .int a5] (.int y0 :: .int y1 :: st) M Q = if y1 < y0 then xW xSR 173 56 [.ref a0, .int a1, .int a2, .int a3, .int a4, .int a5] (st) M Q else xW xSR 173 68 [.ref a0, .int a1, .int a2, .int a3, .int a4, .int a5] (st) M Q) ∧
  (∀ (a0 : Nat) (a1 : Int32) (a2 : Int32) (a3 : Int32) (a4 : Int32) (a5 : Int32) (st : List Value) (M : xM) (Q : Option Value → xM → Prop), xW xSR 173 56 [.ref a0, .int a1, .int a2, .int a3, .int a4, .int a5] (st) M Q = xW xSR 173 57 [.ref a0, .int a1, .int a2, .int a3, .int a4, .int a5] (.ref a0 :: st) M Q) ∧
  (∀ (a0 : Nat) (a1 : Int32) (a2 : Int32) (a3 : Int32) (a4 : Int32) (a5 : Int32) (st : List Value) (M : xM) (Q : Option Value → xM → Prop), xW xSR 173 57 [.ref a0, .int a1, .int a2, .int a3, .int a4, .int a5] (.ref 0 :: st) M Q = xW xSR 173 60 [.ref a0, .int a1, .int a2, .int a3, .int a4, .int a5] (.ref 1 :: st) M Q) ∧
  (∀ (a0 : Nat) (a1 : Int32) (a2 : Int32) (a3 : Int32) (a4 : Int32) (a5 : Int32) (st : List Value) (M : xM) (Q : Option Value → xM → Prop), xW xSR 173 60 [.ref a0, .int a1, .int a2, .int a3, .int a4, .int a5] (st) M Q = xW xSR 173 62 [.ref a0, .int a1, .int a2, .int a3, .int a4, .int a5] (.int a5 :: st) M Q) ∧
  (∀ (a0 : Nat) (a1 : Int32) (a2 : Int32) (a3 : Int32) (a4 : Int32) (a5 : Int32) (y0 : Nat) (st : List Value) (M : xM) (Q : Option Value → xM → Prop), y0 < 156 → xW xSR 173 62 [.ref a0, .int a1, .int a2, .int a3, .int a4, .int a5] (.int (nI y0) :: .ref 1 :: st) M Q = xW xSR 173 63 [.ref a0, .int a1, .int a2, .int a3, .int a4, .int a5] (.int (M 1 y0) :: st) M Q) ∧
  (∀ (a0 : Nat) (a1 : Int32) (a2 : Int32) (a3 : Int32) (a4 : Int32) (a5 : Int32) (st : List Value) (M : xM) (Q : Option Value → xM → Prop), xW xSR 173 63 [.ref a0, .int a1, .int a2, .int a3, .int a4, .int a5] (st) M Q = xW xSR 173 64 [.ref a0, .int a1, .int a2, .int a3, .int a4, .int a5] (.int (nI 1) :: st) M Q) ∧
  (∀ (a0 : Nat) (a1 : Int32) (a2 : Int32) (a3 : Int32) (a4 : Int32) (a5 : Int32) (y0 : Int32) (y1 : Int32) (st : List Value) (M : xM) (Q : Option Value → xM → Prop), xW xSR 173 64 [.ref a0, .int a1, .int a2, .int a3, .int a4, .int a5] (.int y0 :: .int y1 :: st) M Q = xW xSR 173 65 [.ref a0, .int a1, .int a2, .int a3, .int a4, .int a5] (.int (y1 + y0) :: st) M Q) ∧
  (∀ (a0 : Nat) (a1 : Int32) (a2 : Int32) (a3 : Int32) (a4 : Int32) (a5 : Int32) (st : List Value) (M : xM) (Q : Option Value → xM → Prop), xW xSR 173 65 [.ref a0, .int a1, .int a2, .int a3, .int a4, .int a5] (st) M Q = xW xSR 173 70 [.ref a0, .int a1, .int a2, .int a3, .int a4, .int a5] (st) M Q) ∧
  (∀ (a0 : Nat) (a1 : Int32) (a2 : Int32) (a3 : Int32) (a4 : Int32) (a5 : Int32) (st : List Value) (M : xM) (Q : Option Value → xM → Prop), xW xSR 173 68 [.ref a0, .int a1, .int a2, .int a3, .int a4, .int a5] (st) M Q = xW xSR 173 70 [.ref a0, .int a1, .int a2, .int a3, .int a4, .int a5] (.int (nI 99) :: st) M Q) ∧
  (∀ (a0 : Nat) (a1 : Int32) (a2 : Int32) (a3 : Int32) (a4 : Int32) (a5 : Int32) (st : List Value) (M : xM) (Q : Option Value → xM → Prop), xW xSR 173 71 [.ref a0, .int a1, .int a2, .int a3, .int a4, .int a5] (st) M Q = xW xSR 173 72 [.ref a0, .int a1, .int a2, .int a3, .int a4, .int a5] (.ref a0 :: st) M Q) ∧
  (∀ (a0 : Nat) (a1 : Int32) (a2 : Int32) (a3 : Int32) (a4 : Int32) (a5 : Int32) (st : List Value) (M : xM) (Q : Option Value → xM → Prop), xW xSR 173 72 [.ref a0, .int a1, .int a2, .int a3, .int a4, .int a5] (.ref 0 :: st) M Q = xW xSR 173 75 [.ref a0, .int a1, .int a2, .int a3, .int a4, .int a5] (.ref 1 :: st) M Q) ∧
  (∀ (a0 : Nat) (a1 : Int32) (a2 : Int32) (a3 : Int32) (a4 : Int32) (a5 : Int32) (st : List Value) (M : xM) (Q : Option Value → xM → Prop), xW xSR 173 75 [.ref a0, .int a1, .int a2, .int a3, .int a4, .int a5] (st) M Q = xW xSR 173 77 [.ref a0, .int a1, .int a2, .int a3, .int a4, .int a5] (.int a4 :: st) M Q) ∧
  (∀ (a0 : Nat) (a1 : Int32) (a2 : Int32) (a3 : Int32) (a4 : Int32) (a5 : Int32) (st : List Value) (M : xM) (Q : Option Value → xM → Prop), xW xSR 173 77 [.ref a0, .int a1, .int a2, .int a3, .int a4, .int a5] (st) M Q = xW xSR 173 78 [.ref a0, .int a1, .int a2, .int a3, .int a4, .int a5] (.int (nI 2) :: st) M Q) ∧
  (∀ (a0 : Nat) (a1 : Int32) (a2 : Int32) (a3 : Int32) (a4 : Int32) (a5 : Int32) (y0 : Int32) (y1 : Int32) (st : List Value) (M : xM) (Q : Option Value → xM → Prop), xW xSR 173 78 [.ref a0, .int a1, .int a2, .int a3, .int a4, .int a5] (.int y0 :: .int y1 :: st) M Q = xW xSR 173 79 [.ref a0, .int a1, .int a2, .int a3, .int a4, .int a5] (.int (y1 + y0) :: st) M Q) ∧
  (∀ (a0 : Nat) (a1 : Int32) (a2 : Int32) (a3 : Int32) (a4 : Int32) (a5 : Int32) (st : List Value) (M : xM) (Q : Option Value → xM → Prop), xW xSR 173 79 [.ref a0, .int a1, .int a2, .int a3, .int a4, .int a5] (st) M Q = xW xSR 173 80 [.ref a0, .int a1, .int a2, .int a3, .int a4, .int a5] (.ref a0 :: st) M Q) ∧
  (∀ (a0 : Nat) (a1 : Int32) (a2 : Int32) (a3 : Int32) (a4 : Int32) (a5 : Int32) (st : List Value) (M : xM) (Q : Option Value → xM → Prop), xW xSR 173 80 [.ref a0, .int a1, .int a2, .int a3, .int a4, .int a5] (st) M Q = xW xSR 173 81 [.ref a0, .int a1, .int a2, .int a3, .int a4, .int a5] (.int a2 :: st) M Q) ∧
  (∀ (a0 : Nat) (a1 : Int32) (a2 : Int32) (a3 : Int32) (a4 : Int32) (a5 : Int32) (st : List Value) (M : xM) (Q : Option Value → xM → Prop), xW xSR 173 81 [.ref a0, .int a1, .int a2, .int a3, .int a4, .int a5] (st) M Q = xW xSR 173 82 [.ref a0, .int a1, .int a2, .int a3, .int a4, .int a5] (.int a3 :: st) M Q) ∧
  (∀ (a0 : Nat) (a1 : Int32) (a2 : Int32) (a3 : Int32) (a4 : Int32) (a5 : Int32) (y0 : Int32) (y1 : Int32) (y3 : Int32) (y4 : Nat) (M : xM) (Q : Option Value → xM → Prop), xW xSR 173 82 [.ref a0, .int a1, .int a2, .int a3, .int a4, .int a5] (.int y0 :: .int y1 :: .ref 0 :: .int y3 :: .ref y4 :: []) M Q = xW xSR 161 0 [.ref 0, .int y1, .int y0, .null] [] M (fun v M' => xW xSR 173 85 [.ref a0, .int a1, .int a2, .int a3, .int a4, .int a5] (xpush v [.int y3, .ref y4]) M' Q)) ∧
  (∀ (a0 : Nat) (a1 : Int32) (a2 : Int32) (a3 : Int32) (a4 : Int32) (a5 : Int32) (y0 : Int32) (y1 : Nat) (st : List Value) (M : xM) (Q : Option Value → xM → Prop), y1 < 156 → xW xSR 173 85 [.ref a0, .int a1, .int a2, .int a3, .int a4, .int a5] (.int y0 :: .int (nI y1) :: .ref 1 :: st) M Q = xW xSR 173 86 [.ref a0, .int a1, .int a2, .int a3, .int a4, .int a5] (st) (xup M 1 y1 y0) Q) ∧
  (∀ (a0 : Nat) (a1 : Int32) (a2 : Int32) (a3 : Int32) (a4 : Int32) (a5 : Int32) (M : xM) (Q : Option Value → xM → Prop), xW xSR 173 86 [.ref a0, .int a1, .int a2, .int a3, .int a4, .int a5] ([]) M Q = Q none M) :=
  ⟨fun a0 a1 a2 a3 a4 a5 st M Q => xw_s rfl rfl,
  fun a0 a1 a2 a3 a4 a5 st M Q => xw_s rfl rfl,
  fun a0 a1 a2 a3 a4 a5 st M Q => xw_s rfl rfl,
  fun a0 a1 a2 a3 a4 a5 y0 y1 st M Q => xw_s rfl rfl,
  fun a0 a1 a2 a3 a4 a5 y0 y1 st M Q => xw_s rfl rfl,
  fun a0 a1 a2 a3 a4 a5 y0 st M Q => xw_s rfl rfl,
  fun a0 a1 a2 a3 a4 a5 st M Q => xw_s rfl rfl,
  fun a0 a1 a2 a3 a4 a5 st M Q => xw_s rfl rfl,
  fun a0 a1 a2 a3 a4 a5 st M Q => xw_s rfl rfl,
  fun a0 a1 a2 a3 a4 a5 st M Q => xw_s rfl rfl,
  fun a0 a1 a2 a3 a4 a5 st M Q => xw_s rfl rfl,
  fun a0 a1 a2 a3 a4 a5 st M Q => xw_s rfl rfl,
  fun a0 a1 a2 a3 a4 a5 st M Q => xw_s rfl rfl,
  fun a0 a1 a2 a3 a4 a5 st M Q => xw_s rfl rfl,
  fun a0 a1 a2 a3 a4 a5 y0 y1 st M Q => xw_s rfl rfl,
  fun a0 a1 a2 a3 a4 a5 y0 y1 st M Q => xw_s rfl rfl,
  fun a0 a1 a2 a3 a4 a5 st M Q => xw_s rfl rfl,
  fun a0 a1 a2 a3 a4 a5 y0 y1 st M Q => xw_s rfl rfl,
  fun a0 a1 a2 a3 a4 a5 st M Q => xw_s rfl rfl,
  fun a0 a1 a2 a3 a4 a5 y0 y1 st M Q => xw_s rfl rfl,
  fun a0 a1 a2 a3 a4 a5 y0 st M Q h0 => xw_ald rfl rfl rfl (by decide) h0,
  fun a0 a1 a2 a3 a4 a5 y0 y1 st M Q h0 => xw_ast (f := fun x => x) rfl rfl rfl (by decide) h0,
  fun a0 a1 a2 a3 a4 a5 st M Q => xw_s rfl rfl,
  fun a0 a1 a2 a3 a4 a5 st M Q => xw_s rfl rfl,
  fun a0 a1 a2 a3 a4 a5 st M Q => xw_s rfl rfl,
  fun a0 a1 a2 a3 a4 a5 y0 y1 y2 M Q => xw_call rfl rfl rfl,
  fun a0 a1 a2 a3 a4 a5 y0 st M Q => xw_s rfl rfl,
  fun a0 a1 a2 a3 a4 a5 st M Q => xw_s rfl rfl,
  fun a0 a1 a2 a3 a4 a5 st M Q => xw_s rfl rfl,
  fun a0 a1 a2 a3 a4 a5 st M Q => xw_s rfl rfl,
  fun a0 a1 a2 a3 a4 a5 st M Q => xw_s rfl rfl,
  fun a0 a1 a2 a3 a4 a5 st M Q => xw_s rfl rfl,
  fun a0 a1 a2 a3 a4 a5 st M Q => xw_s rfl rfl,
  fun a0 a1 a2 a3 a4 a5 y0 st M Q h0 => xw_ald rfl rfl rfl (by decide) h0,
  fun a0 a1 a2 a3 a4 a5 st M Q => xw_s rfl rfl,
  fun a0 a1 a2 a3 a4 a5 y0 y1 st M Q => xw_brn (c0 := y0 ≤ y1) (c1 := y1 < y0) rfl rfl (xge _ _),
  fun a0 a1 a2 a3 a4 a5 st M Q => xw_s rfl rfl,
  fun a0 a1 a2 a3 a4 a5 st M Q => xw_s rfl rfl,
  fun a0 a1 a2 a3 a4 a5 st M Q => xw_s rfl rfl,
  fun a0 a1 a2 a3 a4 a5 y0 st M Q h0 => xw_ald rfl rfl rfl (by decide) h0,
  fun a0 a1 a2 a3 a4 a5 st M Q => xw_s rfl rfl,
  fun a0 a1 a2 a3 a4 a5 y0 y1 st M Q => xw_s rfl rfl,
  fun a0 a1 a2 a3 a4 a5 st M Q => xw_s rfl rfl,
  fun a0 a1 a2 a3 a4 a5 st M Q => xw_s rfl rfl,
  fun a0 a1 a2 a3 a4 a5 st M Q => xw_s rfl rfl,
  fun a0 a1 a2 a3 a4 a5 st M Q => xw_s rfl rfl,
  fun a0 a1 a2 a3 a4 a5 st M Q => xw_s rfl rfl,
  fun a0 a1 a2 a3 a4 a5 st M Q => xw_s rfl rfl,
  fun a0 a1 a2 a3 a4 a5 y0 y1 st M Q => xw_s rfl rfl,
  fun a0 a1 a2 a3 a4 a5 st M Q => xw_s rfl rfl,
  fun a0 a1 a2 a3 a4 a5 st M Q => xw_s rfl rfl,
  fun a0 a1 a2 a3 a4 a5 st M Q => xw_s rfl rfl,
  fun a0 a1 a2 a3 a4 a5 y0 y1 y3 y4 M Q => xw_call rfl rfl rfl,
  fun a0 a1 a2 a3 a4 a5 y0 y1 st M Q h0 => xw_ast (f := fun x => x) rfl rfl rfl (by decide) h0,
  fun a0 a1 a2 a3 a4 a5 M Q => xw_retv rfl rfl⟩
set_option maxRecDepth 20000 in
theorem h173_70 :
  (∀ (a0 : Nat) (a1 : Int32) (a2 : Int32) (a3 : Int32) (a4 : Int32) (a5 : Int32) (y0 : Int32) (y1 : Nat) (st : List Value) (M : xM) (Q : Option Value → xM → Prop), y1 < 156 → xW xSR 173 70 [.ref a0, .int a1, .int a2, .int a3, .int a4, .int a5] (.int y0 :: .int (nI y1) :: .ref 1 :: st) M Q = xW xSR 173 71 [.ref a0, .int a1, .int a2, .int a3, .int a4, .int a5] (st) (xup M 1 y1 y0) Q) :=
  fun a0 a1 a2 a3 a4 a5 y0 y1 st M Q h0 => xw_ast (f := fun x => x) rfl rfl rfl (by decide) h0
set_option maxRecDepth 20000 in
theorem j173 :
  (∀ (a0 : Nat) (a1 : Int32) (a2 : Int32) (a3 : Int32) (a4 : Int32) (a5 : Int32) (y0 : Int32) (y1 : Nat) (st : List Value) (M : xM) (Q : Option Value → xM → Prop), y1 < 156 → xW xSR 173 70 [.ref a0, .int a1, .int a2, .int a3, .int a4, .int a5] (.int y0 :: .int (nI y1) :: .ref 1 :: st) M Q = xW xSR 173 71 [.ref a0, .int a1, .int a2, .int a3, .int a4, .int a5] (st) (xup M 1 y1 y0) Q) :=
  fun a0 a1 a2 a3 a4 a5 y0 y1 st M Q h0 => xw_ast (f := fun x => x) rfl rfl rfl (by decide) h0

set_option maxRecDepth 20000 in
theorem s174 :
  (∀ (a0 : Nat) (a1 : Int32) (a2 : Int32) (a3 : Value) (st : List Value) (M : xM) (Q : Option Value → xM → Prop), xW xSR 174 0 [.ref a0, .int a1, .int a2, a3] (st) M Q = xW xSR 174 1 [.ref a0, .int a1, .int a2, a3] (.ref a0 :: st) M Q) ∧
  (∀ (a0 : Nat) (a1 : Int32) (a2 : Int32) (a3 : Value) (st : List Value) (M : xM) (Q : Option Value → xM → Prop), xW xSR 174 1 [.ref a0, .int a1, .int a2, a3] (st) M Q = xW xSR 174 2 [.ref a0, .int a1, .int a2, a3] (.int a1 :: st) M Q) ∧
  (∀ (a0 : Nat) (a1 : Int32) (a2 : Int32) (a3 : Value) (y0 : Int32) (M : xM) (Q : Option Value → xM → Prop), xW xSR 174 2 [.ref a0, .int a1, .int a2, a3] (.int y0 :: .ref 0 :: []) M Q = xW xSR 141 0 [.ref 0, .int y0] [] M (fun v M' => xW xSR 174 5 [.ref a0, .int a1, .int a2, a3] (xpush v []) M' Q)) ∧
  (∀ (a0 : Nat) (a1 : Int32) (a2 : Int32) (a3 : Value) (y0 : Int32) (st : List Value) (M : xM) (Q : Option Value → xM → Prop), xW xSR 174 5 [.ref a0, .int a1, .int a2, a3] (.int y0 :: st) M Q = if y0 = nI 0 then xW xSR 174 16 [.ref a0, .int a1, .int a2, a3] (st) M Q else xW xSR 174 8 [.ref a0, .int a1, .int a2, a3] (st) M Q) ∧
  (∀ (a0 : Nat) (a1 : Int32) (a2 : Int32) (a3 : Value) (st : List Value) (M : xM) (Q : Option Value → xM → Prop), xW xSR 174 8 [.ref a0, .int a1, .int a2, a3] (st) M Q = xW xSR 174 9 [.ref a0, .int a1, .int a2, a3] (.ref a0 :: st) M Q) ∧
  (∀ (a0 : Nat) (a1 : Int32) (a2 : Int32) (a3 : Value) (st : List Value) (M : xM) (Q : Option Value → xM → Prop), xW xSR 174 9 [.ref a0, .int a1, .int a2, a3] (st) M Q = xW xSR 174 10 [.ref a0, .int a1, .int a2, a3] (.int a2 :: st) M Q) ∧
  (∀ (a0 : Nat) (a1 : Int32) (a2 : Int32) (a3 : Value) (y0 : Int32) (M : xM) (Q : Option Value → xM → Prop), xW xSR 174 10 [.ref a0, .int a1, .int a2, a3] (.int y0 :: .ref 0 :: []) M Q = xW xSR 140 0 [.ref 0, .int y0] [] M (fun v M' => xW xSR 174 13 [.ref a0, .int a1, .int a2, a3] (xpush v []) M' Q)) ∧
  (∀ (a0 : Nat) (a1 : Int32) (a2 : Int32) (a3 : Value) (y0 : Int32) (st : List Value) (M : xM) (Q : Option Value → xM → Prop), xW xSR 174 13 [.ref a0, .int a1, .int a2, a3] (.int y0 :: st) M Q = if y0 = nI 0 then xW xSR 174 16 [.ref a0, .int a1, .int a2, a3] (st) M Q else xW xSR 174 18 [.ref a0, .int a1, .int a2, a3] (st) M Q) ∧
  (∀ (a0 : Nat) (a1 : Int32) (a2 : Int32) (a3 : Value) (y0 : Int32) (M : xM) (Q : Option Value → xM → Prop), xW xSR 174 17 [.ref a0, .int a1, .int a2, a3] ([.int y0]) M Q = Q (some (.int y0)) M) ∧
  (∀ (a0 : Nat) (a1 : Int32) (a2 : Int32) (a3 : Value) (st : List Value) (M : xM) (Q : Option Value → xM → Prop), xW xSR 174 18 [.ref a0, .int a1, .int a2, a3] (st) M Q = xW xSR 174 19 [.ref a0, .int a1, .int a2, a3] (.ref a0 :: st) M Q) ∧
  (∀ (a0 : Nat) (a1 : Int32) (a2 : Int32) (a3 : Value) (st : List Value) (M : xM) (Q : Option Value → xM → Prop), xW xSR 174 19 [.ref a0, .int a1, .int a2, a3] (st) M Q = xW xSR 174 20 [.ref a0, .int a1, .int a2, a3] (.int a2 :: st) M Q) ∧
  (∀ (a0 : Nat) (a1 : Int32) (a2 : Int32) (a3 : Value) (st : List Value) (M : xM) (Q : Option Value → xM → Prop), xW xSR 174 20 [.ref a0, .int a1, .int a2, a3] (st) M Q = xW xSR 174 21 [.ref a0, .int a1, .int a2, a3] (.ref a0 :: st) M Q) ∧
  (∀ (a0 : Nat) (a1 : Int32) (a2 : Int32) (a3 : Value) (st : List Value) (M : xM) (Q : Option Value → xM → Prop), xW xSR 174 21 [.ref a0, .int a1, .int a2, a3] (.ref 0 :: st) M Q = xW xSR 174 24 [.ref a0, .int a1, .int a2, a3] (.ref 1 :: st) M Q) ∧
  (∀ (a0 : Nat) (a1 : Int32) (a2 : Int32) (a3 : Value) (st : List Value) (M : xM) (Q : Option Value → xM → Prop), xW xSR 174 24 [.ref a0, .int a1, .int a2, a3] (st) M Q = xW xSR 174 26 [.ref a0, .int a1, .int a2, a3] (.int (nI 51) :: st) M Q) ∧
  (∀ (a0 : Nat) (a1 : Int32) (a2 : Int32) (a3 : Value) (st : List Value) (M : xM) (Q : Option Value → xM → Prop), xW xSR 174 26 [.ref a0, .int a1, .int a2, a3] (st) M Q = xW xSR 174 27 [.ref a0, .int a1, .int a2, a3] (.int (nI 3) :: st) M Q) ∧
  (∀ (a0 : Nat) (a1 : Int32) (a2 : Int32) (a3 : Value) (st : List Value) (M : xM) (Q : Option Value → xM → Prop), xW xSR 174 27 [.ref a0, .int a1, .int a2, a3] (st) M Q = xW xSR 174 28 [.ref a0, .int a1, .int a2, a3] (.int a1 :: st) M Q) ∧
  (∀ (a0 : Nat) (a1 : Int32) (a2 : Int32) (a3 : Value) (y0 : Int32) (y1 : Int32) (st : List Value) (M : xM) (Q : Option Value → xM → Prop), xW xSR 174 28 [.ref a0, .int a1, .int a2, a3] (.int y0 :: .int y1 :: st) M Q = xW xSR 174 29 [.ref a0, .int a1, .int a2, a3] (.int (y1 * y0) :: st) M Q) ∧
  (∀ (a0 : Nat) (a1 : Int32) (a2 : Int32) (a3 : Value) (y0 : Int32) (y1 : Int32) (st : List Value) (M : xM) (Q : Option Value → xM → Prop), xW xSR 174 29 [.ref a0, .int a1, .int a2, a3] (.int y0 :: .int y1 :: st) M Q = xW xSR 174 30 [.ref a0, .int a1, .int a2, a3] (.int (y1 + y0) :: st) M Q) ∧
  (∀ (a0 : Nat) (a1 : Int32) (a2 : Int32) (a3 : Value) (y0 : Nat) (st : List Value) (M : xM) (Q : Option Value → xM → Prop), y0 < 156 → xW xSR 174 30 [.ref a0, .int a1, .int a2, a3] (.int (nI y0) :: .ref 1 :: st) M Q = xW xSR 174 31 [.ref a0, .int a1, .int a2, a3] (.int (M 1 y0) :: st) M Q) ∧
  (∀ (a0 : Nat) (a1 : Int32) (a2 : Int32) (a3 : Value) (y0 : Int32) (y1 : Int32) (M : xM) (Q : Option Value → xM → Prop), xW xSR 174 31 [.ref a0, .int a1, .int a2, a3] (.int y0 :: .int y1 :: .ref 0 :: []) M Q = xW xSR 171 0 [.ref 0, .int y1, .int y0] [] M (fun v M' => xW xSR 174 34 [.ref a0, .int a1, .int a2, a3] (xpush v []) M' Q)) ∧
  (∀ (a0 : Nat) (a1 : Int32) (a2 : Int32) (a3 : Value) (y0 : Int32) (st : List Value) (M : xM) (Q : Option Value → xM → Prop), xW xSR 174 34 [.ref a0, .int a1, .int a2, a3] (.int y0 :: st) M Q = xW xSR 174 35 [.ref a0, .int a1, .int a2, .int y0] (st) M Q) ∧
  (∀ (a0 : Nat) (a1 : Int32) (a2 : Int32) (a3 : Int32) (st : List Value) (M : xM) (Q : Option Value → xM → Prop), xW xSR 174 35 [.ref a0, .int a1, .int a2, .int a3] (st) M Q = xW xSR 174 36 [.ref a0, .int a1, .int a2, .int a3] (.int a3 :: st) M Q) ∧
  (∀ (a0 : Nat) (a1 : Int32) (a2 : Int32) (a3 : Int32) (y0 : Int32) (st : List Value) (M : xM) (Q : Option Value → xM → Prop), xW xSR 174 36 [.ref a0, .int a1, .int a2, .int a3] (.int y0 :: st) M Q = if y0 < nI 0 then xW xSR 174 49 [.ref a0, .int a1, .int a2, .int a3] (st) M Q else xW xSR 174 39 [.ref a0, .int a1, .int a2, .int a3] (st) M Q) ∧
  (∀ (a0 : Nat) (a1 : Int32) (a2 : Int32) (a3 : Int32) (st : List Value) (M : xM) (Q : Option Value → xM → Prop), xW xSR 174 39 [.ref a0, .int a1, .int a2, .int a3] (st) M Q = xW xSR 174 40 [.ref a0, .int a1, .int a2, .int a3] (.ref a0 :: st) M Q) ∧
  (∀ (a0 : Nat) (a1 : Int32) (a2 : Int32) (a3 : Int32) (st : List Value) (M : xM) (Q : Option Value → xM → Prop), xW xSR 174 40 [.ref a0, .int a1, .int a2, .int a3] (st) M Q = xW xSR 174 41 [.ref a0, .int a1, .int a2, .int a3] (.int a1 :: st) M Q) ∧
  (∀ (a0 : Nat) (a1 : Int32) (a2 : Int32) (a3 : Int32) (st : List Value) (M : xM) (Q : Option Value → xM → Prop), xW xSR 174 41 [.ref a0, .int a1, .int a2, .int a3] (st) M Q = xW xSR 174 42 [.ref a0, .int a1, .int a2, .int a3] (.int a2 :: st) M Q) ∧
  (∀ (a0 : Nat) (a1 : Int32) (a2 : Int32) (a3 : Int32) (st : List Value) (M : xM) (Q : Option Value → xM → Prop), xW xSR 174 42 [.ref a0, .int a1, .int a2, .int a3] (st) M Q = xW xSR 174 43 [.ref a0, .int a1, .int a2, .int a3] (.int a3 :: st) M Q) ∧
  (∀ (a0 : Nat) (a1 : Int32) (a2 : Int32) (a3 : Int32) (y0 : Int32) (y1 : Int32) (y2 : Int32) (M : xM) (Q : Option Value → xM → Prop), xW xSR 174 43 [.ref a0, .int a1, .int a2, .int a3] (.int y0 :: .int y1 :: .int y2 :: .ref 0 :: []) M Q = xW xSR 168 0 [.ref 0, .int y2, .int y1, .int y0] [] M (fun v M' => xW xSR 174 46 [.ref a0, .int a1, .int a2, .int a3] (xpush v []) M' Q)) ∧
  (∀ (a0 : Nat) (a1 : Int32) (a2 : Int32) (a3 : Int32) (y0 : Int32) (st : List Value) (M : xM) (Q : Option Value → xM → Prop), xW xSR 174 46 [.ref a0, .int a1, .int a2, .int a3] (.int y0 :: st) M Q = if y0 = nI 0 then xW xSR 174 49 [.ref a0, .int a1, .int a2, .int a3] (st) M Q else xW xSR 174 52 [.ref a0, .int a1, .int a2, .int a3] (st) M Q) ∧
  (∀ (a0 : Nat) (a1 : Int32) (a2 : Int32) (a3 : Int32) (y0 : Int32) (M : xM) (Q : Option Value → xM → Prop), xW xSR 174 51 [.ref a0, .int a1, .int a2, .int a3] ([.int y0]) M Q = Q (some (.int y0)) M) ∧
  (∀ (a0 : Nat) (a1 : Int32) (a2 : Int32) (a3 : Int32) (st : List Value) (M : xM) (Q : Option Value → xM → Prop), xW xSR 174 52 [.ref a0, .int a1, .int a2, .int a3] (st) M Q = xW xSR 174 53 [.ref a0, .int a1, .int a2, .int a3] (.ref a0 :: st) M Q) ∧
  (∀ (a0 : Nat) (a1 : Int32) (a2 : Int32) (a3 : Int32) (st : List Value) (M : xM) (Q : Option Value → xM → Prop), xW xSR 174 53 [.ref a0, .int a1, .int a2, .int a3] (st) M Q = xW xSR 174 55 [.ref a0, .int a1, .int a2, .int a3] (.int (nI 51) :: st) M Q) ∧
  (∀ (a0 : Nat) (a1 : Int32) (a2 : Int32) (a3 : Int32) (st : List Value) (M : xM) (Q : Option Value → xM → Prop), xW xSR 174 55 [.ref a0, .int a1, .int a2, .int a3] (st) M Q = xW xSR 174 56 [.ref a0, .int a1, .int a2, .int a3] (.int (nI 3) :: st) M Q) ∧
  (∀ (a0 : Nat) (a1 : Int32) (a2 : Int32) (a3 : Int32) (st : List Value) (M : xM) (Q : Option Value → xM → Prop), xW xSR 174 56 [.ref a0, .int a1, .int a2, .int a3] (st) M Q = xW xSR 174 57 [.ref a0, .int a1, .int a2, .int a3] (.int a1 :: st) M Q) ∧
  (∀ (a0 : Nat) (a1 : Int32) (a2 : Int32) (a3 : Int32) (y0 : Int32) (y1 : Int32) (st : List Value) (M : xM) (Q : Option Value → xM → Prop), xW xSR 174 57 [.ref a0, .int a1, .int a2, .int a3] (.int y0 :: .int y1 :: st) M Q = xW xSR 174 58 [.ref a0, .int a1, .int a2, .int a3] (.int (y1 * y0) :: st) M Q) ∧
  (∀ (a0 : Nat) (a1 : Int32) (a2 : Int32) (a3 : Int32) (y0 : Int32) (y1 : Int32) (st : List Value) (M : xM) (Q : Option Value → xM → Prop), xW xSR 174 58 [.ref a0, .int a1, .int a2, .int a3] (.int y0 :: .int y1 :: st) M Q = xW xSR 174 59 [.ref a0, .int a1, .int a2, .int a3] (.int (y1 + y0) :: st) M Q) ∧
  (∀ (a0 : Nat) (a1 : Int32) (a2 : Int32) (a3 : Int32) (st : List Value) (M : xM) (Q : Option Value → xM → Prop), xW xSR 174 59 [.ref a0, .int a1, .int a2, .int a3] (st) M Q = xW xSR 174 61 [.ref a0, .int a1, .int a2, .int a3] (.int (nI 51) :: st) M Q) ∧
  (∀ (a0 : Nat) (a1 : Int32) (a2 : Int32) (a3 : Int32) (st : List Value) (M : xM) (Q : Option Value → xM → Prop), xW xSR 174 61 [.ref a0, .int a1, .int a2, .int a3] (st) M Q = xW xSR 174 62 [.ref a0, .int a1, .int a2, .int a3] (.int (nI 3) :: st) M Q) ∧
  (∀ (a0 : Nat) (a1 : Int32) (a2 : Int32) (a3 : Int32) (st : List Value) (M : xM) (Q : Option Value → xM → Prop), xW xSR 174 62 [.ref a0, .int a1, .int a2, .int a3] (st) M Q = xW xSR 174 63 [.ref a0, .int a1, .int a2, .int a3] (.int a1 :: st) M Q) ∧
  (∀ (a0 : Nat) (a1 : Int32) (a2 : Int32) (a3 : Int32) (y0 : Int32) (y1 : Int32) (st : List Value) (M : xM) (Q : Option Value → xM → Prop), xW xSR 174 63 [.ref a0, .int a1, .int a2, .int a3] (.int y0 :: .int y1 :: st) M Q = xW xSR 174 64 [.ref a0, .int a1, .int a2, .int a3] (.int (y1 * y0) :: st) M Q) ∧
  (∀ (a0 : Nat) (a1 : Int32) (a2 : Int32) (a3 : Int32) (y0 : Int32) (y1 : Int32) (st : List Value) (M : xM) (Q : Option Value → xM → Prop), xW xSR 174 64 [.ref a0, .int a1, .int a2, .int a3] (.int y0 :: .int y1 :: st) M Q = xW xSR 174 65 [.ref a0, .int a1, .int a2, .int a3] (.int (y1 + y0) :: st) M Q) ∧
  (∀ (a0 : Nat) (a1 : Int32) (a2 : Int32) (a3 : Int32) (st : List Value) (M : xM) (Q : Option Value → xM → Prop), xW xSR 174 65 [.ref a0, .int a1, .int a2, .int a3] (st) M Q = xW xSR 174 66 [.ref a0, .int a1, .int a2, .int a3] (.int (nI 2) :: st) M Q) ∧
  (∀ (a0 : Nat) (a1 : Int32) (a2 : Int32) (a3 : Int32) (y0 : Int32) (y1 : Int32) (st : List Value) (M : xM) (Q : Option Value → xM → Prop), xW xSR 174 66 [.ref a0, .int a1, .int a2, .int a3] (.int y0 :: .int y1 :: st) M Q = xW xSR 174 67 [.ref a0, .int a1, .int a2, .int a3] (.int (y1 + y0) :: st) M Q) ∧
  (∀ (a0 : Nat) (a1 : Int32) (a2 : Int32) (a3 : Int32) (st : List Value) (M : xM) (Q : Option Value → xM → Prop), xW xSR 174 67 [.ref a0, .int a1, .int a2, .int a3] (st) M Q = xW xSR 174 68 [.ref a0, .int a1, .int a2, .int a3] (.int a1 :: st) M Q) ∧
  (∀ (a0 : Nat) (a1 : Int32) (a2 : Int32) (a3 : Int32) (st : List Value) (M : xM) (Q : Option Value → xM → Prop), xW xSR 174 68 [.ref a0, .int a1, .int a2, .int a3] (st) M Q = xW xSR 174 69 [.ref a0, .int a1, .int a2, .int a3] (.int a2 :: st) M Q) ∧
  (∀ (a0 : Nat) (a1 : Int32) (a2 : Int32) (a3 : Int32) (st : List Value) (M : xM) (Q : Option Value → xM → Prop), xW xSR 174 69 [.ref a0, .int a1, .int a2, .int a3] (st) M Q = xW xSR 174 70 [.ref a0, .int a1, .int a2, .int a3] (.int a3 :: st) M Q) ∧
  (∀ (a0 : Nat) (a1 : Int32) (a2 : Int32) (a3 : Int32) (y0 : Int32) (y1 : Int32) (y2 : Int32) (y3 : Int32) (y4 : Int32) (y5 : Nat) (M : xM) (Q : Option Value → xM → Prop), xW xSR 174 70 [.ref a0, .int a1, .int a2, .int a3] (.int y0 :: .int y1 :: .int y2 :: .int y3 :: .int y4 :: .ref y5 :: []) M Q = xW xSR 158 0 [.int y2, .int y1, .int y0] [] M (fun v M' => xW xSR 174 73 [.ref a0, .int a1, .int a2, .int a3] (xpush v [.int y3, .int y4, .ref y5]) M' Q)) ∧
  (∀ (a0 : Nat) (a1 : Int32) (a2 : Int32) (a3 : Int32) (y0 : Int32) (y1 : Int32) (y2 : Int32) (M : xM) (Q : Option Value → xM → Prop), xW xSR 174 73 [.ref a0, .int a1, .int a2, .int a3] (.int y0 :: .int y1 :: .int y2 :: .ref 0 :: []) M Q = xW xSR 172 0 [.ref 0, .int y2, .int y1, .int y0, .null] [] M (fun v M' => xW xSR 174 76 [.ref a0, .int a1, .int a2, .int a3] (xpush v []) M' Q)) ∧
  (∀ (a0 : Nat) (a1 : Int32) (a2 : Int32) (a3 : Int32) (st : List Value) (M : xM) (Q : Option Value → xM → Prop), xW xSR 174 76 [.ref a0, .int a1, .int a2, .int a3] (st) M Q = xW xSR 174 77 [.ref a0, .int a1, .int a2, .int a3] (.ref a0 :: st) M Q) ∧
  (∀ (a0 : Nat) (a1 : Int32) (a2 : Int32) (a3 : Int32) (st : List Value) (M : xM) (Q : Option Value → xM → Prop), xW xSR 174 77 [.ref a0, .int a1, .int a2, .int a3] (st) M Q = xW xSR 174 78 [.ref a0, .int a1, .int a2, .int a3] (.int a1 :: st) M Q) ∧
  (∀ (a0 : Nat) (a1 : Int32) (a2 : Int32) (a3 : Int32) (st : List Value) (M : xM) (Q : Option Value → xM → Prop), xW xSR 174 78 [.ref a0, .int a1, .int a2, .int a3] (st) M Q = xW xSR 174 79 [.ref a0, .int a1, .int a2, .int a3] (.int a2 :: st) M Q) ∧
  (∀ (a0 : Nat) (a1 : Int32) (a2 : Int32) (a3 : Int32) (st : List Value) (M : xM) (Q : Option Value → xM → Prop), xW xSR 174 79 [.ref a0, .int a1, .int a2, .int a3] (st) M Q = xW xSR 174 80 [.ref a0, .int a1, .int a2, .int a3] (.int a3 :: st) M Q) ∧
  (∀ (a0 : Nat) (a1 : Int32) (a2 : Int32) (a3 : Int32) (y0 : Int32) (y1 : Int32) (y2 : Int32) (M : xM) (Q : Option Value → xM → Prop), xW xSR 174 80 [.ref a0, .int a1, .int a2, .int a3] (.int y0 :: .int y1 :: .int y2 :: .ref 0 :: []) M Q = xW xSR 173 0 [.ref 0, .int y2, .int y1, .int y0, .null, .null] [] M (fun v M' => xW xSR 174 83 [.ref a0, .int a1, .int a2, .int a3] (xpush v []) M' Q)) ∧
  (∀ (a0 : Nat) (a1 : Int32) (a2 : Int32) (a3 : Int32) (st : List Value) (M : xM) (Q : Option Value → xM → Prop), xW xSR 174 83 [.ref a0, .int a1, .int a2, .int a3] (st) M Q = xW xSR 174 84 [.ref a0, .int a1, .int a2, .int a3] (.ref a0 :: st) M Q) ∧
  (∀ (a0 : Nat) (a1 : Int32) (a2 : Int32) (a3 : Int32) (st : List Value) (M : xM) (Q : Option Value → xM → Prop), xW xSR 174 84 [.ref a0, .int a1, .int a2, .int a3] (.ref 0 :: st) M Q = xW xSR 174 87 [.ref a0, .int a1, .int a2, .int a3] (.ref 1 :: st) M Q) ∧
  (∀ (a0 : Nat) (a1 : Int32) (a2 : Int32) (a3 : Int32) (st : List Value) (M : xM) (Q : Option Value → xM → Prop), xW xSR 174 87 [.ref a0, .int a1, .int a2, .int a3] (st) M Q = xW xSR 174 89 [.ref a0, .int a1, .int a2, .int a3] (.int (nI 51) :: st) M Q) ∧
  (∀ (a0 : Nat) (a1 : Int32) (a2 : Int32) (a3 : Int32) (st : List Value) (M : xM) (Q : Option Value → xM → Prop), xW xSR 174 89 [.ref a0, .int a1, .int a2, .int a3] (st) M Q = xW xSR 174 90 [.ref a0, .int a1, .int a2, .int a3] (.int (nI 3) :: st) M Q) ∧
  (∀ (a0 : Nat) (a1 : Int32) (a2 : Int32) (a3 : Int32) (st : List Value) (M : xM) (Q : Option Value → xM → Prop), xW xSR 174 90 [.ref a0, .int a1, .int a2, .int a3] (st) M Q = xW xSR 174 91 [.ref a0, .int a1, .int a2, .int a3] (.int a1 :: st) M Q) ∧
  (∀ (a0 : Nat) (a1 : Int32) (a2 : Int32) (a3 : Int32) (y0 : Int32) (y1 : Int32) (st : List Value) (M : xM) (Q : Option Value → xM → Prop), xW xSR 174 91 [.ref a0, .int a1, .int a2, .int a3] (.int y0 :: .int y1 :: st) M Q = xW xSR 174 92 [.ref a0, .int a1, .int a2, .int a3] (.int (y1 * y0) :: st) M Q) ∧
  (∀ (a0 : Nat) (a1 : Int32) (a2 : Int32) (a3 : Int32) (y0 : Int32) (y1 : Int32) (st : List Value) (M : xM) (Q : Option Value → xM → Prop), xW xSR 174 92 [.ref a0, .int a1, .int a2, .int a3] (.int y0 :: .int y1 :: st) M Q = xW xSR 174 93 [.ref a0, .int a1, .int a2, .int a3] (.int (y1 + y0) :: st) M Q) ∧
  (∀ (a0 : Nat) (a1 : Int32) (a2 : Int32) (a3 : Int32) (y0 : Nat) (st : List Value) (M : xM) (Q : Option Value → xM → Prop), y0 < 156 → xW xSR 174 93 [.ref a0, .int a1, .int a2, .int a3] (.int (nI y0) :: .ref 1 :: st) M Q = xW xSR 174 94 [.ref a0, .int a1, .int a2, .int a3] (.int (M 1 y0) :: st) M Q) ∧
  (∀ (a0 : Nat) (a1 : Int32) (a2 : Int32) (a3 : Int32) (y0 : Int32) (M : xM) (Q : Option Value → xM → Prop), xW xSR 174 94 [.ref a0, .int a1, .int a2, .int a3] ([.int y0]) M Q = Q (some (.int y0)) M) :=
  ⟨fun a0 a1 a2 a3 st M Q => xw_s rfl rfl,
  fun a0 a1 a2 a3 st M Q => xw_s rfl rfl,
  fun a0 a1 a2 a3 y0 M Q => xw_call rfl rfl rfl,
  fun a0 a1 a2 a3 y0 st M Q => xw_br (c0 := y0 = nI 0) rfl rfl,
  fun a0 a1 a2 a3 st M Q => xw_s rfl rfl,
  fun a0 a1 a2 a3 st M Q => xw_s rfl rfl,
  fun a0 a1 a2 a3 y0 M Q => xw_call rfl rfl rfl,
  fun a0 a1 a2 a3 y0 st M Q => xw_brn (c0 := y0 ≠ nI 0) (c1 := y0 = nI 0) rfl rfl (Iff.rfl),
  fun a0 a1 a2 a3 y0 M Q => xw_ret rfl rfl,
  fun a0 a1 a2 a3 st M Q => xw_s rfl rfl,
  fun a0 a1 a2 a3 st M Q => xw_s rfl rfl,
  fun a0 a1 a2 a3 st M Q => xw_s rfl rfl,
  fun a0 a1 a2 a3 st M Q => xw_s rfl rfl,
  fun a0 a1 a2 a3 st M Q => xw_s rfl rfl,
  fun a0 a1 a2 a3 st M Q => xw_s rfl rfl,
  fun a0 a1 a2 a3 st M Q => xw_s rfl rfl,
  fun a0 a1 a2 a3 y0 y1 st M Q => xw_s rfl rfl,
  fun a0 a1 a2 a3 y0 y1 st M Q => xw_s rfl rfl,
  fun a0 a1 a2 a3 y0 st M Q h0 => xw_ald rfl rfl rfl (by decide) h0,
  fun a0 a1 a2 a3 y0 y1 M Q => xw_call rfl rfl rfl,
  fun a0 a1 a2 a3 y0 st M Q => xw_s rfl rfl,
  fun a0 a1 a2 a3 st M Q => xw_s rfl rfl,
  fun a0 a1 a2 a3 y0 st M Q => xw_br (c0 := y0 < nI 0) rfl rfl,
  fun a0 a1 a2 a3 st M Q => xw_s rfl rfl,
  fun a0 a1 a2 a3 st M Q => xw_s rfl rfl,
  fun a0 a1 a2 a3 st M Q => xw_s rfl rfl,
  fun a0 a1 a2 a3 st M Q => xw_s rfl rfl,
  fun a0 a1 a2 a3 y0 y1 y2 M Q => xw_call rfl rfl rfl,
  fun a0 a1 a2 a3 y0 st M Q => xw_brn (c0 := y0 ≠ nI 0) (c1 := y0 = nI 0) rfl rfl (Iff.rfl),
  fun a0 a1 a2 a3 y0 M Q => xw_ret rfl rfl,
  fun a0 a1 a2 a3 st M Q => xw_s rfl rfl,
  fun a0 a1 a2 a3 st M Q => xw_s rfl rfl,
  fun a0 a1 a2 a3 st M Q => xw_s rfl rfl,
  fun a0 a1 a2 a3 st M Q => xw_s rfl rfl,
  fun a0 a1 a2 a3 y0 y1 st M Q => xw_s rfl rfl,
  fun a0 a1 a2 a3 y0 y1 st M Q => xw_s rfl rfl,
  fun a0 a1 a2 a3 st M Q => xw_s rfl rfl,
  fun a0 a1 a2 a3 st M Q => xw_s rfl rfl,
  fun a0 a1 a2 a3 st M Q => xw_s rfl rfl,
  fun a0 a1 a2 a3 y0 y1 st M Q => xw_s rfl rfl,
  fun a0 a1 a2 a3 y0 y1 st M Q => xw_s rfl rfl,
  fun a0 a1 a2 a3 st M Q => xw_s rfl rfl,
  fun a0 a1 a2 a3 y0 y1 st M Q => xw_s rfl rfl,
  fun a0 a1 a2 a3 st M Q => xw_s rfl rfl,
  fun a0 a1 a2 a3 st M Q => xw_s rfl rfl,
  fun a0 a1 a2 a3 st M Q => xw_s rfl rfl,
  fun a0 a1 a2 a3 y0 y1 y2 y3 y4 y5 M Q => xw_call rfl rfl rfl,
  fun a0 a1 a2 a3 y0 y1 y2 M Q => xw_call rfl rfl rfl,
  fun a0 a1 a2 a3 st M Q => xw_s rfl rfl,
  fun a0 a1 a2 a3 st M Q => xw_s rfl rfl,
  fun a0 a1 a2 a3 st M Q => xw_s rfl rfl,
  fun a0 a1 a2 a3 st M Q => xw_s rfl rfl,
  fun a0 a1 a2 a3 y0 y1 y2 M Q => xw_call rfl rfl rfl,
  fun a0 a1 a2 a3 st M Q => xw_s rfl rfl,
  fun a0 a1 a2 a3 st M Q => xw_s rfl rfl,
  fun a0 a1 a2 a3 st M Q => xw_s rfl rfl,
  fun a0 a1 a2 a3 st M Q => xw_s rfl rfl,
  fun a0 a1 a2 a3 st M Q => xw_s rfl rfl,
  fun a0 a1 a2 a3 y0 y1 st M Q => xw_s rfl rfl,
  fun a0 a1 a2 a3 y0 y1 st M Q => xw_s rfl rfl,
  fun a0 a1 a2 a3 y0 st M Q h0 => xw_ald rfl rfl rfl (by decide) h0,
  fun a0 a1 a2 a3 y0 M Q => xw_ret rfl rfl⟩
set_option maxRecDepth 20000 in
theorem h174_16 :
  (∀ (a0 : Nat) (a1 : Int32) (a2 : Int32) (a3 : Value) (st : List Value) (M : xM) (Q : Option Value → xM → Prop), xW xSR 174 16 [.ref a0, .int a1, .int a2, a3] (st) M Q = xW xSR 174 17 [.ref a0, .int a1, .int a2, a3] (.int (-1) :: st) M Q) :=
  fun a0 a1 a2 a3 st M Q => xw_s rfl rfl
set_option maxRecDepth 20000 in
theorem h174_49 :
  (∀ (a0 : Nat) (a1 : Int32) (a2 : Int32) (a3 : Int32) (st : List Value) (M : xM) (Q : Option Value → xM → Prop), xW xSR 174 49 [.ref a0, .int a1, .int a2, .int a3] (st) M Q = xW xSR 174 51 [.ref a0, .int a1, .int a2, .int a3] (.int (-2) :: st) M Q) :=
  fun a0 a1 a2 a3 st M Q => xw_s rfl rfl
set_option maxRecDepth 20000 in
theorem j174 :
  (∀ (a0 : Nat) (a1 : Int32) (a2 : Int32) (a3 : Value) (st : List Value) (M : xM) (Q : Option Value → xM → Prop), xW xSR 174 16 [.ref a0, .int a1, .int a2, a3] (st) M Q = xW xSR 174 17 [.ref a0, .int a1, .int a2, a3] (.int (-1) :: st) M Q) ∧
  (∀ (a0 : Nat) (a1 : Int32) (a2 : Int32) (a3 : Int32) (st : List Value) (M : xM) (Q : Option Value → xM → Prop), xW xSR 174 49 [.ref a0, .int a1, .int a2, .int a3] (st) M Q = xW xSR 174 51 [.ref a0, .int a1, .int a2, .int a3] (.int (-2) :: st) M Q) :=
  ⟨fun a0 a1 a2 a3 st M Q => xw_s rfl rfl,
  fun a0 a1 a2 a3 st M Q => xw_s rfl rfl⟩

set_option maxRecDepth 20000 in
theorem s175 :
  (∀ (a0 : Nat) (a1 : Int32) (a2 : Int32) (a3 : Int32) (a4 : Value) (a5 : Value) (st : List Value) (M : xM) (Q : Option Value → xM → Prop), xW xSR 175 0 [.ref a0, .int a1, .int a2, .int a3, a4, a5] (st) M Q = xW xSR 175 1 [.ref a0, .int a1, .int a2, .int a3, a4, a5] (.ref a0 :: st) M Q) ∧
  (∀ (a0 : Nat) (a1 : Int32) (a2 : Int32) (a3 : Int32) (a4 : Value) (a5 : Value) (st : List Value) (M : xM) (Q : Option Value → xM → Prop), xW xSR 175 1 [.ref a0, .int a1, .int a2, .int a3, a4, a5] (st) M Q = xW xSR 175 2 [.ref a0, .int a1, .int a2, .int a3, a4, a5] (.int a1 :: st) M Q) ∧
  (∀ (a0 : Nat) (a1 : Int32) (a2 : Int32) (a3 : Int32) (a4 : Value) (a5 : Value) (y0 : Int32) (M : xM) (Q : Option Value → xM → Prop), xW xSR 175 2 [.ref a0, .int a1, .int a2, .int a3, a4, a5] (.int y0 :: .ref 0 :: []) M Q = xW xSR 140 0 [.ref 0, .int y0] [] M (fun v M' => xW xSR 175 5 [.ref a0, .int a1, .int a2, .int a3, a4, a5] (xpush v []) M' Q)) ∧
  (∀ (a0 : Nat) (a1 : Int32) (a2 : Int32) (a3 : Int32) (a4 : Value) (a5 : Value) (y0 : Int32) (st : List Value) (M : xM) (Q : Option Value → xM → Prop), xW xSR 175 5 [.ref a0, .int a1, .int a2, .int a3, a4, a5] (.int y0 :: st) M Q = if y0 = nI 0 then xW xSR 175 27 [.ref a0, .int a1, .int a2, .int a3, a4, a5] (st) M Q else xW xSR 175 8 [.ref a0, .int a1, .int a2, .int a3, a4, a5] (st) M Q) ∧
  (∀ (a0 : Nat) (a1 : Int32) (a2 : Int32) (a3 : Int32) (a4 : Value) (a5 : Value) (st : List Value) (M : xM) (Q : Option Value → xM → Prop), xW xSR 175 8 [.ref a0, .int a1, .int a2, .int a3, a4, a5] (st) M Q = xW xSR 175 9 [.ref a0, .int a1, .int a2, .int a3, a4, a5] (.int a2 :: st) M Q) ∧
  (∀ (a0 : Nat) (a1 : Int32) (a2 : Int32) (a3 : Int32) (a4 : Value) (a5 : Value) (y0 : Int32) (M : xM) (Q : Option Value → xM → Prop), xW xSR 175 9 [.ref a0, .int a1, .int a2, .int a3, a4, a5] (.int y0 :: []) M Q = xW xSR 142 0 [.int y0] [] M (fun v M' => xW xSR 175 12 [.ref a0, .int a1, .int a2, .int a3, a4, a5] (xpush v []) M' Q)) ∧
  (∀ (a0 : Nat) (a1 : Int32) (a2 : Int32) (a3 : Int32) (a4 : Value) (a5 : Value) (y0 : Int32) (st : List Value) (M : xM) (Q : Option Value → xM → Prop), xW xSR 175 12 [.ref a0, .int a1, .int a2, .int a3, a4, a5] (.int y0 :: st) M Q = if y0 = nI 0 then xW xSR 175 27 [.ref a0, .int a1, .int a2, .int a3, a4, a5] (st) M Q else xW xSR 175 15 [.ref a0, .int a1, .int a2, .int a3, a4, a5] (st) M Q) ∧
  (∀ (a0 : Nat) (a1 : Int32) (a2 : Int32) (a3 : Int32) (a4 : Value) (a5 : Value) (st : List Value) (M : xM) (Q : Option Value → xM → Prop), xW xSR 175 15 [.ref a0, .int a1, .int a2, .int a3, a4, a5] (st) M Q = xW xSR 175 16 [.ref a0, .int a1, .int a2, .int a3, a4, a5] (.int a3 :: st) M Q) ∧
  (∀ (a0 : Nat) (a1 : Int32) (a2 : Int32) (a3 : Int32) (a4 : Value) (a5 : Value) (y0 : Int32) (st : List Value) (M : xM) (Q : Option Value → xM → Prop), xW xSR 175 16 [.ref a0, .int a1, .int a2, .int a3, a4, a5] (.int y0 :: st) M Q = xW xSR 175 17 [.ref a0, .int a1, .int a2, .int a3, a4, a5] (.long y0.toInt64 :: st) M Q) ∧
  (∀ (a0 : Nat) (a1 : Int32) (a2 : Int32) (a3 : Int32) (a4 : Value) (a5 : Value) (st : List Value) (M : xM) (Q : Option Value → xM → Prop), xW xSR 175 17 [.ref a0, .int a1, .int a2, .int a3, a4, a5] (st) M Q = xW xSR 175 18 [.ref a0, .int a1, .int a2, .int a3, a4, a5] (.long (lN 0) :: st) M Q) ∧
  (∀ (a0 : Nat) (a1 : Int32) (a2 : Int32) (a3 : Int32) (a4 : Value) (a5 : Value) (st : List Value) (M : xM) (Q : Option Value → xM → Prop), xW xSR 175 18 [.ref a0, .int a1, .int a2, .int a3, a4, a5] (st) M Q = xW xSR 175 21 [.ref a0, .int a1, .int a2, .int a3, a4, a5] (.long (lN 63) :: st) M Q) ∧
  (∀ (a0 : Nat) (a1 : Int32) (a2 : Int32) (a3 : Int32) (a4 : Value) (a5 : Value) (y0 : Int64) (y1 : Int64) (y2 : Int64) (M : xM) (Q : Option Value → xM → Prop), xW xSR 175 21 [.ref a0, .int a1, .int a2, .int a3, a4, a5] (.long y0 :: .long y1 :: .long y2 :: []) M Q = xW xSR 135 0 [.long y2, .null, .long y1, .null, .long y0, .null] [] M (fun v M' => xW xSR 175 24 [.ref a0, .int a1, .int a2, .int a3, a4, a5] (xpush v []) M' Q)) ∧
  (∀ (a0 : Nat) (a1 : Int32) (a2 : Int32) (a3 : Int32) (a4 : Value) (a5 : Value) (y0 : Int32) (st : List Value) (M : xM) (Q : Option Value → xM → Prop), xW xSR 175 24 [.ref a0, .int a1, .int a2, .int a3, a4, a5] (.int y0 :: st) M Q = if y0 = nI 0 then xW xSR 175 27 [.ref a0, .int a1, .int a2, .int a3, a4, a5] (st) M Q else xW xSR 175 29 [.ref a0, .int a1, .int a2, .int a3, a4, a5] (st) M Q) ∧
  (∀ (a0 : Nat) (a1 : Int32) (a2 : Int32) (a3 : Int32) (a4 : Value) (a5 : Value) (y0 : Int32) (M : xM) (Q : Option Value → xM → Prop), xW xSR 175 28 [.ref a0, .int a1, .int a2, .int a3, a4, a5] ([.int y0]) M Q = Q (some (.int y0)) M) ∧
  (∀ (a0 : Nat) (a1 : Int32) (a2 : Int32) (a3 : Int32) (a4 : Value) (a5 : Value) (st : List Value) (M : xM) (Q : Option Value → xM → Prop), xW xSR 175 29 [.ref a0, .int a1, .int a2, .int a3, a4, a5] (st) M Q = xW xSR 175 30 [.ref a0, .int a1, .int a2, .int a3, a4, a5] (.int (nI 3) :: st) M Q) ∧
  (∀ (a0 : Nat) (a1 : Int32) (a2 : Int32) (a3 : Int32) (a4 : Value) (a5 : Value) (st : List Value) (M : xM) (Q : Option Value → xM → Prop), xW xSR 175 30 [.ref a0, .int a1, .int a2, .int a3, a4, a5] (st) M Q = xW xSR 175 32 [.ref a0, .int a1, .int a2, .int a3, a4, a5] (.int (nI 6) :: st) M Q) ∧
  (∀ (a0 : Nat) (a1 : Int32) (a2 : Int32) (a3 : Int32) (a4 : Value) (a5 : Value) (st : List Value) (M : xM) (Q : Option Value → xM → Prop), xW xSR 175 32 [.ref a0, .int a1, .int a2, .int a3, a4, a5] (st) M Q = xW xSR 175 33 [.ref a0, .int a1, .int a2, .int a3, a4, a5] (.int a1 :: st) M Q) ∧
  (∀ (a0 : Nat) (a1 : Int32) (a2 : Int32) (a3 : Int32) (a4 : Value) (a5 : Value) (y0 : Int32) (y1 : Int32) (st : List Value) (M : xM) (Q : Option Value → xM → Prop), xW xSR 175 33 [.ref a0, .int a1, .int a2, .int a3, a4, a5] (.int y0 :: .int y1 :: st) M Q = xW xSR 175 34 [.ref a0, .int a1, .int a2, .int a3, a4, a5] (.int (y1 * y0) :: st) M Q) ∧
  (∀ (a0 : Nat) (a1 : Int32) (a2 : Int32) (a3 : Int32) (a4 : Value) (a5 : Value) (y0 : Int32) (y1 : Int32) (st : List Value) (M : xM) (Q : Option Value → xM → Prop), xW xSR 175 34 [.ref a0, .int a1, .int a2, .int a3, a4, a5] (.int y0 :: .int y1 :: st) M Q = xW xSR 175 35 [.ref a0, .int a1, .int a2, .int a3, a4, a5] (.int (y1 + y0) :: st) M Q) ∧
  (∀ (a0 : Nat) (a1 : Int32) (a2 : Int32) (a3 : Int32) (a4 : Value) (a5 : Value) (st : List Value) (M : xM) (Q : Option Value → xM → Prop), xW xSR 175 35 [.ref a0, .int a1, .int a2, .int a3, a4, a5] (st) M Q = xW xSR 175 36 [.ref a0, .int a1, .int a2, .int a3, a4, a5] (.int (nI 4) :: st) M Q) ∧
  (∀ (a0 : Nat) (a1 : Int32) (a2 : Int32) (a3 : Int32) (a4 : Value) (a5 : Value) (y0 : Int32) (y1 : Int32) (st : List Value) (M : xM) (Q : Option Value → xM → Prop), xW xSR 175 36 [.ref a0, .int a1, .int a2, .int a3, a4, a5] (.int y0 :: .int y1 :: st) M Q = xW xSR 175 37 [.ref a0, .int a1, .int a2, .int a3, a4, a5] (.int (y1 + y0) :: st) M Q) ∧
  (∀ (a0 : Nat) (a1 : Int32) (a2 : Int32) (a3 : Int32) (a4 : Value) (a5 : Value) (st : List Value) (M : xM) (Q : Option Value → xM → Prop), xW xSR 175 37 [.ref a0, .int a1, .int a2, .int a3, a4, a5] (st) M Q = xW xSR 175 38 [.ref a0, .int a1, .int a2, .int a3, a4, a5] (.int a2 :: st) M Q) ∧
  (∀ (a0 : Nat) (a1 : Int32) (a2 : Int32) (a3 : Int32) (a4 : Value) (a5 : Value) (y0 : Int32) (y1 : Int32) (st : List Value) (M : xM) (Q : Option Value → xM → Prop), xW xSR 175 38 [.ref a0, .int a1, .int a2, .int a3, a4, a5] (.int y0 :: .int y1 :: st) M Q = xW xSR 175 39 [.ref a0, .int a1, .int a2, .int a3, a4, a5] (.int (y1 + y0) :: st) M Q) ∧
  (∀ (a0 : Nat) (a1 : Int32) (a2 : Int32) (a3 : Int32) (a4 : Value) (a5 : Value) (y0 : Int32) (st : List Value) (M : xM) (Q : Option Value → xM → Prop), xW xSR 175 39 [.ref a0, .int a1, .int a2, .int a3, a4, a5] (.int y0 :: st) M Q = xW xSR 175 41 [.ref a0, .int a1, .int a2, .int a3, .int y0, a5] (st) M Q) ∧
  (∀ (a0 : Nat) (a1 : Int32) (a2 : Int32) (a3 : Int32) (a4 : Int32) (a5 : Value) (st : List Value) (M : xM) (Q : Option Value → xM → Prop), xW xSR 175 41 [.ref a0, .int a1, .int a2, .int a3, .int a4, a5] (st) M Q = xW xSR 175 42 [.ref a0, .int a1, .int a2, .int a3, .int a4, a5] (.ref a0 :: st) M Q) ∧
  (∀ (a0 : Nat) (a1 : Int32) (a2 : Int32) (a3 : Int32) (a4 : Int32) (a5 : Value) (st : List Value) (M : xM) (Q : Option Value → xM → Prop), xW xSR 175 42 [.ref a0, .int a1, .int a2, .int a3, .int a4, a5] (st) M Q = xW xSR 175 44 [.ref a0, .int a1, .int a2, .int a3, .int a4, a5] (.int a4 :: st) M Q) ∧
  (∀ (a0 : Nat) (a1 : Int32) (a2 : Int32) (a3 : Int32) (a4 : Int32) (a5 : Value) (st : List Value) (M : xM) (Q : Option Value → xM → Prop), xW xSR 175 44 [.ref a0, .int a1, .int a2, .int a3, .int a4, a5] (st) M Q = xW xSR 175 46 [.ref a0, .int a1, .int a2, .int a3, .int a4, a5] (.int a4 :: st) M Q) ∧
  (∀ (a0 : Nat) (a1 : Int32) (a2 : Int32) (a3 : Int32) (a4 : Int32) (a5 : Value) (st : List Value) (M : xM) (Q : Option Value → xM → Prop), xW xSR 175 46 [.ref a0, .int a1, .int a2, .int a3, .int a4, a5] (st) M Q = xW xSR 175 48 [.ref a0, .int a1, .int a2, .int a3, .int a4, a5] (.int a4 :: st) M Q) ∧
  (∀ (a0 : Nat) (a1 : Int32) (a2 : Int32) (a3 : Int32) (a4 : Int32) (a5 : Value) (y0 : Int32) (y1 : Int32) (y2 : Int32) (M : xM) (Q : Option Value → xM → Prop), xW xSR 175 48 [.ref a0, .int a1, .int a2, .int a3, .int a4, a5] (.int y0 :: .int y1 :: .int y2 :: .ref 0 :: []) M Q = xW xSR 172 0 [.ref 0, .int y2, .int y1, .int y0, .null] [] M (fun v M' => xW xSR 175 51 [.ref a0, .int a1, .int a2, .int a3, .int a4, a5] (xpush v []) M' Q)) ∧
  (∀ (a0 : Nat) (a1 : Int32) (a2 : Int32) (a3 : Int32) (a4 : Int32) (a5 : Value) (st : List Value) (M : xM) (Q : Option Value → xM → Prop), xW xSR 175 51 [.ref a0, .int a1, .int a2, .int a3, .int a4, a5] (st) M Q = xW xSR 175 52 [.ref a0, .int a1, .int a2, .int a3, .int a4, a5] (.ref a0 :: st) M Q) ∧
  (∀ (a0 : Nat) (a1 : Int32) (a2 : Int32) (a3 : Int32) (a4 : Int32) (a5 : Value) (st : List Value) (M : xM) (Q : Option Value → xM → Prop), xW xSR 175 52 [.ref a0, .int a1, .int a2, .int a3, .int a4, a5] (.ref 0 :: st) M Q = xW xSR 175 55 [.ref a0, .int a1, .int a2, .int a3, .int a4, a5] (.ref 1 :: st) M Q) ∧
  (∀ (a0 : Nat) (a1 : Int32) (a2 : Int32) (a3 : Int32) (a4 : Int32) (a5 : Value) (st : List Value) (M : xM) (Q : Option Value → xM → Prop), xW xSR 175 55 [.ref a0, .int a1, .int a2, .int a3, .int a4, a5] (st) M Q = xW xSR 175 57 [.ref a0, .int a1, .int a2, .int a3, .int a4, a5] (.int a4 :: st) M Q) ∧
  (∀ (a0 : Nat) (a1 : Int32) (a2 : Int32) (a3 : Int32) (a4 : Int32) (a5 : Value) (y0 : Nat) (st : List Value) (M : xM) (Q : Option Value → xM → Prop), y0 < 156 → xW xSR 175 57 [.ref a0, .int a1, .int a2, .int a3, .int a4, a5] (.int (nI y0) :: .ref 1 :: st) M Q = xW xSR 175 58 [.ref a0, .int a1, .int a2, .int a3, .int a4, a5] (.int (M 1 y0) :: st) M Q) ∧
  (∀ (a0 : Nat) (a1 : Int32) (a2 : Int32) (a3 : Int32) (a4 : Int32) (a5 : Value) (y0 : Int32) (st : List Value) (M : xM) (Q : Option Value → xM → Prop), xW xSR 175 58 [.ref a0, .int a1, .int a2, .int a3, .int a4, a5] (.int y0 :: st) M Q = xW xSR 175 60 [.ref a0, .int a1, .int a2, .int a3, .int a4, .int y0] (st) M Q) ∧
  (∀ (a0 : Nat) (a1 : Int32) (a2 : Int32) (a3 : Int32) (a4 : Int32) (a5 : Int32) (st : List Value) (M : xM) (Q : Option Value → xM → Prop), xW xSR 175 60 [.ref a0, .int a1, .int a2, .int a3, .int a4, .int a5] (st) M Q = xW xSR 175 61 [.ref a0, .int a1, .int a2, .int a3, .int a4, .int a5] (.ref a0 :: st) M Q) ∧
  (∀ (a0 : Nat) (a1 : Int32) (a2 : Int32) (a3 : Int32) (a4 : Int32) (a5 : Int32) (st : List Value) (M : xM) (Q : Option Value → xM → Prop), xW xSR 175 61 [.ref a0, .int a1, .int a2, .int a3, .int a4, .int a5] (.ref 0 :: st) M Q = xW xSR 175 64 [.ref a0, .int a1, .int a2, .int a3, .int a4, .int a5] (.ref 1 :: st) M Q) ∧
  (∀ (a0 : Nat) (a1 : Int32) (a2 : Int32) (a3 : Int32) (a4 : Int32) (a5 : Int32) (st : List Value) (M : xM) (Q : Option Value → xM → Prop), xW xSR 175 64 [.ref a0, .int a1, .int a2, .int a3, .int a4, .int a5] (st) M Q = xW xSR 175 66 [.ref a0, .int a1, .int a2, .int a3, .int a4, .int a5] (.int a4 :: st) M Q) ∧
  (∀ (a0 : Nat) (a1 : Int32) (a2 : Int32) (a3 : Int32) (a4 : Int32) (a5 : Int32) (st : List Value) (M : xM) (Q : Option Value → xM → Prop), xW xSR 175 66 [.ref a0, .int a1, .int a2, .int a3, .int a4, .int a5] (st) M Q = xW xSR 175 67 [.ref a0, .int a1, .int a2, .int a3, .int a4, .int a5] (.int a3 :: st) M Q) ∧
  (∀ (a0 : Nat) (a1 : Int32) (a2 : Int32) (a3 : Int32) (a4 : Int32) (a5 : Int32) (y0 : Int32) (y1 : Nat) (st : List Value) (M : xM) (Q : Option Value → xM → Prop), y1 < 156 → xW xSR 175 67 [.ref a0, .int a1, .int a2, .int a3, .int a4, .int a5] (.int y0 :: .int (nI y1) :: .ref 1 :: st) M Q = xW xSR 175 68 [.ref a0, .int a1, .int a2, .int a3, .int a4, .int a5] (st) (xup M 1 y1 y0) Q) ∧
  (∀ (a0 : Nat) (a1 : Int32) (a2 : Int32) (a3 : Int32) (a4 : Int32) (a5 : Int32) (st : List Value) (M : xM) (Q : Option Value → xM → Prop), xW xSR 175 68 [.ref a0, .int a1, .int a2, .int a3, .int a4, .int a5] (st) M Q = xW xSR 175 70 [.ref a0, .int a1, .int a2, .int a3, .int a4, .int a5] (.int a5 :: st) M Q) ∧
  (∀ (a0 : Nat) (a1 : Int32) (a2 : Int32) (a3 : Int32) (a4 : Int32) (a5 : Int32) (y0 : Int32) (M : xM) (Q : Option Value → xM → Prop), xW xSR 175 70 [.ref a0, .int a1, .int a2, .int a3, .int a4, .int a5] ([.int y0]) M Q = Q (some (.int y0)) M) :=
  ⟨fun a0 a1 a2 a3 a4 a5 st M Q => xw_s rfl rfl,
  fun a0 a1 a2 a3 a4 a5 st M Q => xw_s rfl rfl,
  fun a0 a1 a2 a3 a4 a5 y0 M Q => xw_call rfl rfl rfl,
  fun a0 a1 a2 a3 a4 a5 y0 st M Q => xw_br (c0 := y0 = nI 0) rfl rfl,
  fun a0 a1 a2 a3 a4 a5 st M Q => xw_s rfl rfl,
  fun a0 a1 a2 a3 a4 a5 y0 M Q => xw_call rfl rfl rfl,
  fun a0 a1 a2 a3 a4 a5 y0 st M Q => xw_br (c0 := y0 = nI 0) rfl rfl,
  fun a0 a1 a2 a3 a4 a5 st M Q => xw_s rfl rfl,
  fun a0 a1 a2 a3 a4 a5 y0 st M Q => xw_s rfl rfl,
  fun a0 a1 a2 a3 a4 a5 st M Q => xw_s rfl rfl,
  fun a0 a1 a2 a3 a4 a5 st M Q => xw_s rfl rfl,
  fun a0 a1 a2 a3 a4 a5 y0 y1 y2 M Q => xw_call rfl rfl rfl,
  fun a0 a1 a2 a3 a4 a5 y0 st M Q => xw_brn (c0 := y0 ≠ nI 0) (c1 := y0 = nI 0) rfl rfl (Iff.rfl),
  fun a0 a1 a2 a3 a4 a5 y0 M Q => xw_ret rfl rfl,
  fun a0 a1 a2 a3 a4 a5 st M Q => xw_s rfl rfl,
  fun a0 a1 a2 a3 a4 a5 st M Q => xw_s rfl rfl,
  fun a0 a1 a2 a3 a4 a5 st M Q => xw_s rfl rfl,
  fun a0 a1 a2 a3 a4 a5 y0 y1 st M Q => xw_s rfl rfl,
  fun a0 a1 a2 a3 a4 a5 y0 y1 st M Q => xw_s rfl rfl,
  fun a0 a1 a2 a3 a4 a5 st M Q => xw_s rfl rfl,
  fun a0 a1 a2 a3 a4 a5 y0 y1 st M Q => xw_s rfl rfl,
  fun a0 a1 a2 a3 a4 a5 st M Q => xw_s rfl rfl,
  fun a0 a1 a2 a3 a4 a5 y0 y1 st M Q => xw_s rfl rfl,
  fun a0 a1 a2 a3 a4 a5 y0 st M Q => xw_s rfl rfl,
  fun a0 a1 a2 a3 a4 a5 st M Q => xw_s rfl rfl,
  fun a0 a1 a2 a3 a4 a5 st M Q => xw_s rfl rfl,
  fun a0 a1 a2 a3 a4 a5 st M Q => xw_s rfl rfl,
  fun a0 a1 a2 a3 a4 a5 st M Q => xw_s rfl rfl,
  fun a0 a1 a2 a3 a4 a5 y0 y1 y2 M Q => xw_call rfl rfl rfl,
  fun a0 a1 a2 a3 a4 a5 st M Q => xw_s rfl rfl,
  fun a0 a1 a2 a3 a4 a5 st M Q => xw_s rfl rfl,
  fun a0 a1 a2 a3 a4 a5 st M Q => xw_s rfl rfl,
  fun a0 a1 a2 a3 a4 a5 y0 st M Q h0 => xw_ald rfl rfl rfl (by decide) h0,
  fun a0 a1 a2 a3 a4 a5 y0 st M Q => xw_s rfl rfl,
  fun a0 a1 a2 a3 a4 a5 st M Q => xw_s rfl rfl,
  fun a0 a1 a2 a3 a4 a5 st M Q => xw_s rfl rfl,
  fun a0 a1 a2 a3 a4 a5 st M Q => xw_s rfl rfl,
  fun a0 a1 a2 a3 a4 a5 st M Q => xw_s rfl rfl,
  fun a0 a1 a2 a3 a4 a5 y0 y1 st M Q h0 => xw_ast (f := fun x => x) rfl rfl rfl (by decide) h0,
  fun a0 a1 a2 a3 a4 a5 st M Q => xw_s rfl rfl,
  fun a0 a1 a2 a3 a4 a5 y0 M Q => xw_ret rfl rfl⟩
set_option maxRecDepth 20000 in
theorem h175_27 :
  (∀ (a0 : Nat) (a1 : Int32) (a2 : Int32) (a3 : Int32) (a4 : Value) (a5 : Value) (st : List Value) (M : xM) (Q : Option Value → xM → Prop), xW xSR 175 27 [.ref a0, .int a1, .int a2, .int a3, a4, a5] (st) M Q = xW xSR 175 28 [.ref a0, .int a1, .int a2, .int a3, a4, a5] (.int (-1) :: st) M Q) :=
  fun a0 a1 a2 a3 a4 a5 st M Q => xw_s rfl rfl
set_option maxRecDepth 20000 in
theorem j175 :
  (∀ (a0 : Nat) (a1 : Int32) (a2 : Int32) (a3 : Int32) (a4 : Value) (a5 : Value) (st : List Value) (M : xM) (Q : Option Value → xM → Prop), xW xSR 175 27 [.ref a0, .int a1, .int a2, .int a3, a4, a5] (st) M Q = xW xSR 175 28 [.ref a0, .int a1, .int a2, .int a3, a4, a5] (.int (-1) :: st) M Q) :=
  fun a0 a1 a2 a3 a4 a5 st M Q => xw_s rfl rfl

set_option maxRecDepth 20000 in
theorem s176 :
  (∀ (a0 : Nat) (a1 : Int32) (a2 : Value) (st : List Value) (M : xM) (Q : Option Value → xM → Prop), xW xSR 176 0 [.ref a0, .int a1, a2] (st) M Q = xW xSR 176 1 [.ref a0, .int a1, a2] (.ref a0 :: st) M Q) ∧
  (∀ (a0 : Nat) (a1 : Int32) (a2 : Value) (st : List Value) (M : xM) (Q : Option Value → xM → Prop), xW xSR 176 1 [.ref a0, .int a1, a2] (st) M Q = xW xSR 176 2 [.ref a0, .int a1, a2] (.int a1 :: st) M Q) ∧
  (∀ (a0 : Nat) (a1 : Int32) (a2 : Value) (y0 : Int32) (M : xM) (Q : Option Value → xM → Prop), xW xSR 176 2 [.ref a0, .int a1, a2] (.int y0 :: .ref 0 :: []) M Q = xW xSR 140 0 [.ref 0, .int y0] [] M (fun v M' => xW xSR 176 5 [.ref a0, .int a1, a2] (xpush v []) M' Q)) ∧
  (∀ (a0 : Nat) (a1 : Int32) (a2 : Value) (y0 : Int32) (st : List Value) (M : xM) (Q : Option Value → xM → Prop), xW xSR 176 5 [.ref a0, .int a1, a2] (.int y0 :: st) M Q = if y0 = nI 0 then xW xSR 176 8 [.ref a0, .int a1, a2] (st) M Q else xW xSR 176 10 [.ref a0, .int a1, a2] (st) M Q) ∧
  (∀ (a0 : Nat) (a1 : Int32) (a2 : Value) (st : List Value) (M : xM) (Q : Option Value → xM → Prop), xW xSR 176 8 [.ref a0, .int a1, a2] (st) M Q = xW xSR 176 9 [.ref a0, .int a1, a2] (.int (-1) :: st) M Q) ∧
  (∀ (a0 : Nat) (a1 : Int32) (a2 : Value) (y0 : Int32) (M : xM) (Q : Option Value → xM → Prop), xW xSR 176 9 [.ref a0, .int a1, a2] ([.int y0]) M Q = Q (some (.int y0)) M) ∧
  (∀ (a0 : Nat) (a1 : Int32) (a2 : Value) (st : List Value) (M : xM) (Q : Option Value → xM → Prop), xW xSR 176 10 [.ref a0, .int a1, a2] (st) M Q = xW xSR 176 11 [.ref a0, .int a1, a2] (.int (nI 3) :: st) M Q) ∧
  (∀ (a0 : Nat) (a1 : Int32) (a2 : Value) (st : List Value) (M : xM) (Q : Option Value → xM → Prop), xW xSR 176 11 [.ref a0, .int a1, a2] (st) M Q = xW xSR 176 13 [.ref a0, .int a1, a2] (.int (nI 6) :: st) M Q) ∧
  (∀ (a0 : Nat) (a1 : Int32) (a2 : Value) (st : List Value) (M : xM) (Q : Option Value → xM → Prop), xW xSR 176 13 [.ref a0, .int a1, a2] (st) M Q = xW xSR 176 14 [.ref a0, .int a1, a2] (.int a1 :: st) M Q) ∧
  (∀ (a0 : Nat) (a1 : Int32) (a2 : Value) (y0 : Int32) (y1 : Int32) (st : List Value) (M : xM) (Q : Option Value → xM → Prop), xW xSR 176 14 [.ref a0, .int a1, a2] (.int y0 :: .int y1 :: st) M Q = xW xSR 176 15 [.ref a0, .int a1, a2] (.int (y1 * y0) :: st) M Q) ∧
  (∀ (a0 : Nat) (a1 : Int32) (a2 : Value) (y0 : Int32) (y1 : Int32) (st : List Value) (M : xM) (Q : Option Value → xM → Prop), xW xSR 176 15 [.ref a0, .int a1, a2] (.int y0 :: .int y1 :: st) M Q = xW xSR 176 16 [.ref a0, .int a1, a2] (.int (y1 + y0) :: st) M Q) ∧
  (∀ (a0 : Nat) (a1 : Int32) (a2 : Value) (st : List Value) (M : xM) (Q : Option Value → xM → Prop), xW xSR 176 16 [.ref a0, .int a1, a2] (st) M Q = xW xSR 176 17 [.ref a0, .int a1, a2] (.int (nI 2) :: st) M Q) ∧
  (∀ (a0 : Nat) (a1 : Int32) (a2 : Value) (y0 : Int32) (y1 : Int32) (st : List Value) (M : xM) (Q : Option Value → xM → Prop), xW xSR 176 17 [.ref a0, .int a1, a2] (.int y0 :: .int y1 :: st) M Q = xW xSR 176 18 [.ref a0, .int a1, a2] (.int (y1 + y0) :: st) M Q) ∧
  (∀ (a0 : Nat) (a1 : Int32) (a2 : Value) (y0 : Int32) (st : List Value) (M : xM) (Q : Option Value → xM → Prop), xW xSR 176 18 [.ref a0, .int a1, a2] (.int y0 :: st) M Q = xW xSR 176 19 [.ref a0, .int a1, .int y0] (st) M Q) ∧
  (∀ (a0 : Nat) (a1 : Int32) (a2 : Int32) (st : List Value) (M : xM) (Q : Option Value → xM → Prop), xW xSR 176 19 [.ref a0, .int a1, .int a2] (st) M Q = xW xSR 176 20 [.ref a0, .int a1, .int a2] (.ref a0 :: st) M Q) ∧
  (∀ (a0 : Nat) (a1 : Int32) (a2 : Int32) (st : List Value) (M : xM) (Q : Option Value → xM → Prop), xW xSR 176 20 [.ref a0, .int a1, .int a2] (.ref 0 :: st) M Q = xW xSR 176 23 [.ref a0, .int a1, .int a2] (.ref 1 :: st) M Q) ∧
  (∀ (a0 : Nat) (a1 : Int32) (a2 : Int32) (st : List Value) (M : xM) (Q : Option Value → xM → Prop), xW xSR 176 23 [.ref a0, .int a1, .int a2] (st) M Q = xW xSR 176 24 [.ref a0, .int a1, .int a2] (.int a2 :: st) M Q) ∧
  (∀ (a0 : Nat) (a1 : Int32) (a2 : Int32) (y0 : Nat) (st : List Value) (M : xM) (Q : Option Value → xM → Prop), y0 < 156 → xW xSR 176 24 [.ref a0, .int a1, .int a2] (.int (nI y0) :: .ref 1 :: st) M Q = xW xSR 176 25 [.ref a0, .int a1, .int a2] (.int (M 1 y0) :: st) M Q) ∧
  (∀ (a0 : Nat) (a1 : Int32) (a2 : Int32) (st : List Value) (M : xM) (Q : Option Value → xM → Prop), xW xSR 176 25 [.ref a0, .int a1, .int a2] (st) M Q = xW xSR 176 26 [.ref a0, .int a1, .int a2] (.int (nI 2) :: st) M Q) ∧
  (∀ (a0 : Nat) (a1 : Int32) (a2 : Int32) (y0 : Int32) (y1 : Int32) (st : List Value) (M : xM) (Q : Option Value → xM → Prop), xW xSR 176 26 [.ref a0, .int a1, .int a2] (.int y0 :: .int y1 :: st) M Q = if y1 = y0 then xW xSR 176 29 [.ref a0, .int a1, .int a2] (st) M Q else xW xSR 176 32 [.ref a0, .int a1, .int a2] (st) M Q) ∧
  (∀ (a0 : Nat) (a1 : Int32) (a2 : Int32) (st : List Value) (M : xM) (Q : Option Value → xM → Prop), xW xSR 176 29 [.ref a0, .int a1, .int a2] (st) M Q = xW xSR 176 31 [.ref a0, .int a1, .int a2] (.int (-2) :: st) M Q) ∧
  (∀ (a0 : Nat) (a1 : Int32) (a2 : Int32) (y0 : Int32) (M : xM) (Q : Option Value → xM → Prop), xW xSR 176 31 [.ref a0, .int a1, .int a2] ([.int y0]) M Q = Q (some (.int y0)) M) ∧
  (∀ (a0 : Nat) (a1 : Int32) (a2 : Int32) (st : List Value) (M : xM) (Q : Option Value → xM → Prop), xW xSR 176 32 [.ref a0, .int a1, .int a2] (st) M Q = xW xSR 176 33 [.ref a0, .int a1, .int a2] (.ref a0 :: st) M Q) ∧
  (∀ (a0 : Nat) (a1 : Int32) (a2 : Int32) (st : List Value) (M : xM) (Q : Option Value → xM → Prop), xW xSR 176 33 [.ref a0, .int a1, .int a2] (st) M Q = xW xSR 176 34 [.ref a0, .int a1, .int a2] (.int a2 :: st) M Q) ∧
  (∀ (a0 : Nat) (a1 : Int32) (a2 : Int32) (st : List Value) (M : xM) (Q : Option Value → xM → Prop), xW xSR 176 34 [.ref a0, .int a1, .int a2] (st) M Q = xW xSR 176 35 [.ref a0, .int a1, .int a2] (.int a2 :: st) M Q) ∧
  (∀ (a0 : Nat) (a1 : Int32) (a2 : Int32) (st : List Value) (M : xM) (Q : Option Value → xM → Prop), xW xSR 176 35 [.ref a0, .int a1, .int a2] (st) M Q = xW xSR 176 36 [.ref a0, .int a1, .int a2] (.int a2 :: st) M Q) ∧
  (∀ (a0 : Nat) (a1 : Int32) (a2 : Int32) (y0 : Int32) (y1 : Int32) (y2 : Int32) (M : xM) (Q : Option Value → xM → Prop), xW xSR 176 36 [.ref a0, .int a1, .int a2] (.int y0 :: .int y1 :: .int y2 :: .ref 0 :: []) M Q = xW xSR 172 0 [.ref 0, .int y2, .int y1, .int y0, .null] [] M (fun v M' => xW xSR 176 39 [.ref a0, .int a1, .int a2] (xpush v []) M' Q)) ∧
  (∀ (a0 : Nat) (a1 : Int32) (a2 : Int32) (st : List Value) (M : xM) (Q : Option Value → xM → Prop), xW xSR 176 39 [.ref a0, .int a1, .int a2] (st) M Q = xW xSR 176 40 [.ref a0, .int a1, .int a2] (.ref a0 :: st) M Q) ∧
  (∀ (a0 : Nat) (a1 : Int32) (a2 : Int32) (st : List Value) (M : xM) (Q : Option Value → xM → Prop), xW xSR 176 40 [.ref a0, .int a1, .int a2] (.ref 0 :: st) M Q = xW xSR 176 43 [.ref a0, .int a1, .int a2] (.ref 1 :: st) M Q) ∧
  (∀ (a0 : Nat) (a1 : Int32) (a2 : Int32) (st : List Value) (M : xM) (Q : Option Value → xM → Prop), xW xSR 176 43 [.ref a0, .int a1, .int a2] (st) M Q = xW xSR 176 44 [.ref a0, .int a1, .int a2] (.int a2 :: st) M Q) ∧
  (∀ (a0 : Nat) (a1 : Int32) (a2 : Int32) (st : List Value) (M : xM) (Q : Option Value → xM → Prop), xW xSR 176 44 [.ref a0, .int a1, .int a2] (st) M Q = xW xSR 176 45 [.ref a0, .int a1, .int a2] (.int (nI 1) :: st) M Q) ∧
  (∀ (a0 : Nat) (a1 : Int32) (a2 : Int32) (st : List Value) (M : xM) (Q : Option Value → xM → Prop), xW xSR 176 45 [.ref a0, .int a1, .int a2] (st) M Q = xW xSR 176 46 [.ref a0, .int a1, .int a2] (.ref a0 :: st) M Q) ∧
  (∀ (a0 : Nat) (a1 : Int32) (a2 : Int32) (st : List Value) (M : xM) (Q : Option Value → xM → Prop), xW xSR 176 46 [.ref a0, .int a1, .int a2] (.ref 0 :: st) M Q = xW xSR 176 49 [.ref a0, .int a1, .int a2] (.ref 1 :: st) M Q) ∧
  (∀ (a0 : Nat) (a1 : Int32) (a2 : Int32) (st : List Value) (M : xM) (Q : Option Value → xM → Prop), xW xSR 176 49 [.ref a0, .int a1, .int a2] (st) M Q = xW xSR 176 50 [.ref a0, .int a1, .int a2] (.int a2 :: st) M Q) ∧
  (∀ (a0 : Nat) (a1 : Int32) (a2 : Int32) (y0 : Nat) (st : List Value) (M : xM) (Q : Option Value → xM → Prop), y0 < 156 → xW xSR 176 50 [.ref a0, .int a1, .int a2] (.int (nI y0) :: .ref 1 :: st) M Q = xW xSR 176 51 [.ref a0, .int a1, .int a2] (.int (M 1 y0) :: st) M Q) ∧
  (∀ (a0 : Nat) (a1 : Int32) (a2 : Int32) (y0 : Int32) (y1 : Int32) (st : List Value) (M : xM) (Q : Option Value → xM → Prop), xW xSR 176 51 [.ref a0, .int a1, .int a2] (.int y0 :: .int y1 :: st) M Q = xW xSR 176 52 [.ref a0, .int a1, .int a2] (.int (y1 - y0) :: st) M Q) ∧
  (∀ (a0 : Nat) (a1 : Int32) (a2 : Int32) (y0 : Int32) (y1 : Nat) (st : List Value) (M : xM) (Q : Option Value → xM → Prop), y1 < 156 → xW xSR 176 52 [.ref a0, .int a1, .int a2] (.int y0 :: .int (nI y1) :: .ref 1 :: st) M Q = xW xSR 176 53 [.ref a0, .int a1, .int a2] (st) (xup M 1 y1 y0) Q) ∧
  (∀ (a0 : Nat) (a1 : Int32) (a2 : Int32) (st : List Value) (M : xM) (Q : Option Value → xM → Prop), xW xSR 176 53 [.ref a0, .int a1, .int a2] (st) M Q = xW xSR 176 54 [.ref a0, .int a1, .int a2] (.ref a0 :: st) M Q) ∧
  (∀ (a0 : Nat) (a1 : Int32) (a2 : Int32) (st : List Value) (M : xM) (Q : Option Value → xM → Prop), xW xSR 176 54 [.ref a0, .int a1, .int a2] (.ref 0 :: st) M Q = xW xSR 176 57 [.ref a0, .int a1, .int a2] (.ref 1 :: st) M Q) ∧
  (∀ (a0 : Nat) (a1 : Int32) (a2 : Int32) (st : List Value) (M : xM) (Q : Option Value → xM → Prop), xW xSR 176 57 [.ref a0, .int a1, .int a2] (st) M Q = xW xSR 176 58 [.ref a0, .int a1, .int a2] (.int a2 :: st) M Q) ∧
  (∀ (a0 : Nat) (a1 : Int32) (a2 : Int32) (y0 : Nat) (st : List Value) (M : xM) (Q : Option Value → xM → Prop), y0 < 156 → xW xSR 176 58 [.ref a0, .int a1, .int a2] (.int (nI y0) :: .ref 1 :: st) M Q = xW xSR 176 59 [.ref a0, .int a1, .int a2] (.int (M 1 y0) :: st) M Q) ∧
  (∀ (a0 : Nat) (a1 : Int32) (a2 : Int32) (y0 : Int32) (M : xM) (Q : Option Value → xM → Prop), xW xSR 176 59 [.ref a0, .int a1, .int a2] ([.int y0]) M Q = Q (some (.int y0)) M) :=
  ⟨fun a0 a1 a2 st M Q => xw_s rfl rfl,
  fun a0 a1 a2 st M Q => xw_s rfl rfl,
  fun a0 a1 a2 y0 M Q => xw_call rfl rfl rfl,
  fun a0 a1 a2 y0 st M Q => xw_brn (c0 := y0 ≠ nI 0) (c1 := y0 = nI 0) rfl rfl (Iff.rfl),
  fun a0 a1 a2 st M Q => xw_s rfl rfl,
  fun a0 a1 a2 y0 M Q => xw_ret rfl rfl,
  fun a0 a1 a2 st M Q => xw_s rfl rfl,
  fun a0 a1 a2 st M Q => xw_s rfl rfl,
  fun a0 a1 a2 st M Q => xw_s rfl rfl,
  fun a0 a1 a2 y0 y1 st M Q => xw_s rfl rfl,
  fun a0 a1 a2 y0 y1 st M Q => xw_s rfl rfl,
  fun a0 a1 a2 st M Q => xw_s rfl rfl,
  fun a0 a1 a2 y0 y1 st M Q => xw_s rfl rfl,
  fun a0 a1 a2 y0 st M Q => xw_s rfl rfl,
  fun a0 a1 a2 st M Q => xw_s rfl rfl,
  fun a0 a1 a2 st M Q => xw_s rfl rfl,
  fun a0 a1 a2 st M Q => xw_s rfl rfl,
  fun a0 a1 a2 y0 st M Q h0 => xw_ald rfl rfl rfl (by decide) h0,
  fun a0 a1 a2 st M Q => xw_s rfl rfl,
  fun a0 a1 a2 y0 y1 st M Q => xw_brn (c0 := y1 ≠ y0) (c1 := y1 = y0) rfl rfl (Iff.rfl),
  fun a0 a1 a2 st M Q => xw_s rfl rfl,
  fun a0 a1 a2 y0 M Q => xw_ret rfl rfl,
  fun a0 a1 a2 st M Q => xw_s rfl rfl,
  fun a0 a1 a2 st M Q => xw_s rfl rfl,
  fun a0 a1 a2 st M Q => xw_s rfl rfl,
  fun a0 a1 a2 st M Q => xw_s rfl rfl,
  fun a0 a1 a2 y0 y1 y2 M Q => xw_call rfl rfl rfl,
  fun a0 a1 a2 st M Q => xw_s rfl rfl,
  fun a0 a1 a2 st M Q => xw_s rfl rfl,
  fun a0 a1 a2 st M Q => xw_s rfl rfl,
  fun a0 a1 a2 st M Q => xw_s rfl rfl,
  fun a0 a1 a2 st M Q => xw_s rfl rfl,
  fun a0 a1 a2 st M Q => xw_s rfl rfl,
  fun a0 a1 a2 st M Q => xw_s rfl rfl,
  fun a0 a1 a2 y0 st M Q h0 => xw_ald rfl rfl rfl (by decide) h0,
  fun a0 a1 a2 y0 y1 st M Q => xw_s rfl rfl,
  fun a0 a1 a2 y0 y1 st M Q h0 => xw_ast (f := fun x => x) rfl rfl rfl (by decide) h0,
  fun a0 a1 a2 st M Q => xw_s rfl rfl,
  fun a0 a1 a2 st M Q => xw_s rfl rfl,
  fun a0 a1 a2 st M Q => xw_s rfl rfl,
  fun a0 a1 a2 y0 st M Q h0 => xw_ald rfl rfl rfl (by decide) h0,
  fun a0 a1 a2 y0 M Q => xw_ret rfl rfl⟩
theorem j176 : True := trivial

set_option maxRecDepth 20000 in
theorem s177 :
  (∀ (a0 : Nat) (a1 : Value) (st : List Value) (M : xM) (Q : Option Value → xM → Prop), xW xSR 177 0 [.ref a0, a1] (st) M Q = xW xSR 177 1 [.ref a0, a1] (.ref a0 :: st) M Q) ∧
  (∀ (a0 : Nat) (a1 : Value) (st : List Value) (M : xM) (Q : Option Value → xM → Prop), xW xSR 177 1 [.ref a0, a1] (.ref 0 :: st) M Q = xW xSR 177 4 [.ref a0, a1] (.int (M 0 10) :: st) M Q) ∧
  (∀ (a0 : Nat) (a1 : Value) (y0 : Int32) (st : List Value) (M : xM) (Q : Option Value → xM → Prop), xW xSR 177 4 [.ref a0, a1] (.int y0 :: st) M Q = if y0 = nI 0 then xW xSR 177 7 [.ref a0, a1] (st) M Q else xW xSR 177 10 [.ref a0, a1] (st) M Q) ∧
  (∀ (a0 : Nat) (a1 : Value) (st : List Value) (M : xM) (Q : Option Value → xM → Prop), xW xSR 177 7 [.ref a0, a1] (st) M Q = xW xSR 177 9 [.ref a0, a1] (.int (-2) :: st) M Q) ∧
  (∀ (a0 : Nat) (a1 : Value) (y0 : Int32) (M : xM) (Q : Option Value → xM → Prop), xW xSR 177 9 [.ref a0, a1] ([.int y0]) M Q = Q (some (.int y0)) M) ∧
  (∀ (a0 : Nat) (a1 : Value) (st : List Value) (M : xM) (Q : Option Value → xM → Prop), xW xSR 177 10 [.ref a0, a1] (st) M Q = xW xSR 177 11 [.ref a0, a1] (.ref a0 :: st) M Q) ∧
  (∀ (a0 : Nat) (a1 : Value) (y0 : Nat) (st : List Value) (M : xM) (Q : Option Value → xM → Prop), xW xSR 177 11 [.ref a0, a1] (.ref y0 :: st) M Q = xW xSR 177 12 [.ref a0, a1] (.ref y0 :: .ref y0 :: st) M Q) ∧
  (∀ (a0 : Nat) (a1 : Value) (st : List Value) (M : xM) (Q : Option Value → xM → Prop), xW xSR 177 12 [.ref a0, a1] (.ref 0 :: st) M Q = xW xSR 177 15 [.ref a0, a1] (.int (M 0 10) :: st) M Q) ∧
  (∀ (a0 : Nat) (a1 : Value) (st : List Value) (M : xM) (Q : Option Value → xM → Prop), xW xSR 177 15 [.ref a0, a1] (st) M Q = xW xSR 177 16 [.ref a0, a1] (.int (nI 1) :: st) M Q) ∧
  (∀ (a0 : Nat) (a1 : Value) (y0 : Int32) (y1 : Int32) (st : List Value) (M : xM) (Q : Option Value → xM → Prop), xW xSR 177 16 [.ref a0, a1] (.int y0 :: .int y1 :: st) M Q = xW xSR 177 17 [.ref a0, a1] (.int (y1 - y0) :: st) M Q) ∧
  (∀ (a0 : Nat) (a1 : Value) (y0 : Int32) (st : List Value) (M : xM) (Q : Option Value → xM → Prop), xW xSR 177 17 [.ref a0, a1] (.int y0 :: .ref 0 :: st) M Q = xW xSR 177 20 [.ref a0, a1] (st) (xup M 0 10 y0) Q) ∧
  (∀ (a0 : Nat) (a1 : Value) (st : List Value) (M : xM) (Q : Option Value → xM → Prop), xW xSR 177 20 [.ref a0, a1] (st) M Q = xW xSR 177 22 [.ref a0, a1] (.int (nI 6) :: st) M Q) ∧
  (∀ (a0 : Nat) (a1 : Value) (st : List Value) (M : xM) (Q : Option Value → xM → Prop), xW xSR 177 22 [.ref a0, a1] (st) M Q = xW xSR 177 23 [.ref a0, a1] (.ref a0 :: st) M Q) ∧
  (∀ (a0 : Nat) (a1 : Value) (st : List Value) (M : xM) (Q : Option Value → xM → Prop), xW xSR 177 23 [.ref a0, a1] (.ref 0 :: st) M Q = xW xSR 177 26 [.ref a0, a1] (.int (M 0 10) :: st) M Q) ∧
  (∀ (a0 : Nat) (a1 : Value) (y0 : Int32) (y1 : Int32) (st : List Value) (M : xM) (Q : Option Value → xM → Prop), xW xSR 177 26 [.ref a0, a1] (.int y0 :: .int y1 :: st) M Q = xW xSR 177 27 [.ref a0, a1] (.int (y1 * y0) :: st) M Q) ∧
  (∀ (a0 : Nat) (a1 : Value) (y0 : Int32) (st : List Value) (M : xM) (Q : Option Value → xM → Prop), xW xSR 177 27 [.ref a0, a1] (.int y0 :: st) M Q = xW xSR 177 28 [.ref a0, .int y0] (st) M Q) ∧
  (∀ (a0 : Nat) (a1 : Int32) (st : List Value) (M : xM) (Q : Option Value → xM → Prop), xW xSR 177 29 [.ref a0, .int a1] (st) M Q = xW xSR 177 31 [.ref a0, .int a1] (.int (nI 6) :: st) M Q) ∧
  (∀ (a0 : Nat) (a1 : Int32) (st : List Value) (M : xM) (Q : Option Value → xM → Prop), xW xSR 177 31 [.ref a0, .int a1] (st) M Q = xW xSR 177 32 [.ref a0, .int a1] (.ref a0 :: st) M Q) ∧
  (∀ (a0 : Nat) (a1 : Int32) (st : List Value) (M : xM) (Q : Option Value → xM → Prop), xW xSR 177 32 [.ref a0, .int a1] (.ref 0 :: st) M Q = xW xSR 177 35 [.ref a0, .int a1] (.int (M 0 10) :: st) M Q) ∧
  (∀ (a0 : Nat) (a1 : Int32) (y0 : Int32) (y1 : Int32) (st : List Value) (M : xM) (Q : Option Value → xM → Prop), xW xSR 177 35 [.ref a0, .int a1] (.int y0 :: .int y1 :: st) M Q = xW xSR 177 36 [.ref a0, .int a1] (.int (y1 * y0) :: st) M Q) ∧
  (∀ (a0 : Nat) (a1 : Int32) (st : List Value) (M : xM) (Q : Option Value → xM → Prop), xW xSR 177 36 [.ref a0, .int a1] (st) M Q = xW xSR 177 38 [.ref a0, .int a1] (.int (nI 6) :: st) M Q) ∧
  (∀ (a0 : Nat) (a1 : Int32) (y0 : Int32) (y1 : Int32) (st : List Value) (M : xM) (Q : Option Value → xM → Prop), xW xSR 177 38 [.ref a0, .int a1] (.int y0 :: .int y1 :: st) M Q = xW xSR 177 39 [.ref a0, .int a1] (.int (y1 + y0) :: st) M Q) ∧
  (∀ (a0 : Nat) (a1 : Int32) (y0 : Int32) (y1 : Int32) (st : List Value) (M : xM) (Q : Option Value → xM → Prop), xW xSR 177 39 [.ref a0, .int a1] (.int y0 :: .int y1 :: st) M Q = if y1 < y0 then xW xSR 177 42 [.ref a0, .int a1] (st) M Q else xW xSR 177 67 [.ref a0, .int a1] (st) M Q) ∧
  (∀ (a0 : Nat) (a1 : Int32) (st : List Value) (M : xM) (Q : Option Value → xM → Prop), xW xSR 177 42 [.ref a0, .int a1] (st) M Q = xW xSR 177 43 [.ref a0, .int a1] (.ref a0 :: st) M Q) ∧
  (∀ (a0 : Nat) (a1 : Int32) (st : List Value) (M : xM) (Q : Option Value → xM → Prop), xW xSR 177 43 [.ref a0, .int a1] (.ref 0 :: st) M Q = xW xSR 177 46 [.ref a0, .int a1] (.ref 1 :: st) M Q) ∧
  (∀ (a0 : Nat) (a1 : Int32) (st : List Value) (M : xM) (Q : Option Value → xM → Prop), xW xSR 177 46 [.ref a0, .int a1] (st) M Q = xW xSR 177 47 [.ref a0, .int a1] (.ref a0 :: st) M Q) ∧
  (∀ (a0 : Nat) (a1 : Int32) (st : List Value) (M : xM) (Q : Option Value → xM → Prop), xW xSR 177 47 [.ref a0, .int a1] (.ref 0 :: st) M Q = xW xSR 177 50 [.ref a0, .int a1] (.ref 6 :: st) M Q) ∧
  (∀ (a0 : Nat) (a1 : Int32) (st : List Value) (M : xM) (Q : Option Value → xM → Prop), xW xSR 177 50 [.ref a0, .int a1] (st) M Q = xW xSR 177 51 [.ref a0, .int a1] (.int a1 :: st) M Q) ∧
  (∀ (a0 : Nat) (a1 : Int32) (y0 : Nat) (st : List Value) (M : xM) (Q : Option Value → xM → Prop), y0 < 48 → xW xSR 177 51 [.ref a0, .int a1] (.int (nI y0) :: .ref 6 :: st) M Q = xW xSR 177 52 [.ref a0, .int a1] (.int (M 6 y0) :: st) M Q) ∧
  (∀ (a0 : Nat) (a1 : Int32) (st : List Value) (M : xM) (Q : Option Value → xM → Prop), xW xSR 177 52 [.ref a0, .int a1] (st) M Q = xW xSR 177 53 [.ref a0, .int a1] (.ref a0 :: st) M Q) ∧
  (∀ (a0 : Nat) (a1 : Int32) (st : List Value) (M : xM) (Q : Option Value → xM → Prop), xW xSR 177 53 [.ref a0, .int a1] (.ref 0 :: st) M Q = xW xSR 177 56 [.ref a0, .int a1] (.ref 6 :: st) M Q) ∧
  (∀ (a0 : Nat) (a1 : Int32) (st : List Value) (M : xM) (Q : Option Value → xM → Prop), xW xSR 177 56 [.ref a0, .int a1] (st) M Q = xW xSR 177 57 [.ref a0, .int a1] (.int a1 :: st) M Q) ∧
  (∀ (a0 : Nat) (a1 : Int32) (st : List Value) (M : xM) (Q : Option Value → xM → Prop), xW xSR 177 57 [.ref a0, .int a1] (st) M Q = xW xSR 177 58 [.ref a0, .int a1] (.int (nI 1) :: st) M Q) ∧
  (∀ (a0 : Nat) (a1 : Int32) (y0 : Int32) (y1 : Int32) (st : List Value) (M : xM) (Q : Option Value → xM → Prop), xW xSR 177 58 [.ref a0, .int a1] (.int y0 :: .int y1 :: st) M Q = xW xSR 177 59 [.ref a0, .int a1] (.int (y1 + y0) :: st) M Q) ∧
  (∀ (a0 : Nat) (a1 : Int32) (y0 : Nat) (st : List Value) (M : xM) (Q : Option Value → xM → Prop), y0 < 48 → xW xSR 177 59 [.ref a0, .int a1] (.int (nI y0) :: .ref 6 :: st) M Q = xW xSR 177 60 [.ref a0, .int a1] (.int (M 6 y0) :: st) M Q) ∧
  (∀ (a0 : Nat) (a1 : Int32) (y0 : Int32) (y1 : Nat) (st : List Value) (M : xM) (Q : Option Value → xM → Prop), y1 < 156 → xW xSR 177 60 [.ref a0, .int a1] (.int y0 :: .int (nI y1) :: .ref 1 :: st) M Q = xW xSR 177 61 [.ref a0, .int a1] (st) (xup M 1 y1 y0) Q) ∧
  (∀ (a0 : Nat) (a1 : Int32) (st : List Value) (M : xM) (Q : Option Value → xM → Prop), xW xSR 177 61 [.ref a0, .int a1] (st) M Q = xW xSR 177 64 [.ref a0, .int (a1 + nI 2)] (st) M Q) ∧
  (∀ (a0 : Nat) (a1 : Int32) (st : List Value) (M : xM) (Q : Option Value → xM → Prop), xW xSR 177 64 [.ref a0, .int a1] (st) M Q = xW xSR 177 28 [.ref a0, .int a1] (st) M Q) ∧
  (∀ (a0 : Nat) (a1 : Int32) (st : List Value) (M : xM) (Q : Option Value → xM → Prop), xW xSR 177 67 [.ref a0, .int a1] (st) M Q = xW xSR 177 68 [.ref a0, .int a1] (.ref a0 :: st) M Q) ∧
  (∀ (a0 : Nat) (a1 : Int32) (st : List Value) (M : xM) (Q : Option Value → xM → Prop), xW xSR 177 68 [.ref a0, .int a1] (.ref 0 :: st) M Q = xW xSR 177 71 [.ref a0, .int a1] (.int (M 0 10) :: st) M Q) ∧
  (∀ (a0 : Nat) (a1 : Int32) (y0 : Int32) (M : xM) (Q : Option Value → xM → Prop), xW xSR 177 71 [.ref a0, .int a1] ([.int y0]) M Q = Q (some (.int y0)) M) :=
  ⟨fun a0 a1 st M Q => xw_s rfl rfl,
  fun a0 a1 st M Q => xw_s rfl rfl,
  fun a0 a1 y0 st M Q => xw_brn (c0 := y0 ≠ nI 0) (c1 := y0 = nI 0) rfl rfl (Iff.rfl),
  fun a0 a1 st M Q => xw_s rfl rfl,
  fun a0 a1 y0 M Q => xw_ret rfl rfl,
  fun a0 a1 st M Q => xw_s rfl rfl,
  fun a0 a1 y0 st M Q => xw_s rfl rfl,
  fun a0 a1 st M Q => xw_s rfl rfl,
  fun a0 a1 st M Q => xw_s rfl rfl,
  fun a0 a1 y0 y1 st M Q => xw_s rfl rfl,
  fun a0 a1 y0 st M Q => xw_s rfl rfl,
  fun a0 a1 st M Q => xw_s rfl rfl,
  fun a0 a1 st M Q => xw_s rfl rfl,
  fun a0 a1 st M Q => xw_s rfl rfl,
  fun a0 a1 y0 y1 st M Q => xw_s rfl rfl,
  fun a0 a1 y0 st M Q => xw_s rfl rfl,
  fun a0 a1 st M Q => xw_s rfl rfl,
  fun a0 a1 st M Q => xw_s rfl rfl,
  fun a0 a1 st M Q => xw_s rfl rfl,
  fun a0 a1 y0 y1 st M Q => xw_s rfl rfl,
  fun a0 a1 st M Q => xw_s rfl rfl,
  fun a0 a1 y0 y1 st M Q => xw_s rfl rfl,
  fun a0 a1 y0 y1 st M Q => xw_brn (c0 := y0 ≤ y1) (c1 := y1 < y0) rfl rfl (xge _ _),
  fun a0 a1 st M Q => xw_s rfl rfl,
  fun a0 a1 st M Q => xw_s rfl rfl,
  fun a0 a1 st M Q => xw_s rfl rfl,
  fun a0 a1 st M Q => xw_s rfl rfl,
  fun a0 a1 st M Q => xw_s rfl rfl,
  fun a0 a1 y0 st M Q h0 => xw_ald rfl rfl rfl (by decide) h0,
  fun a0 a1 st M Q => xw_s rfl rfl,
  fun a0 a1 st M Q => xw_s rfl rfl,
  fun a0 a1 st M Q => xw_s rfl rfl,
  fun a0 a1 st M Q => xw_s rfl rfl,
  fun a0 a1 y0 y1 st M Q => xw_s rfl rfl,
  fun a0 a1 y0 st M Q h0 => xw_ald rfl rfl rfl (by decide) h0,
  fun a0 a1 y0 y1 st M Q h0 => xw_ast (f := fun x => x) rfl rfl rfl (by decide) h0,
  fun a0 a1 st M Q => xw_s rfl rfl,
  fun a0 a1 st M Q => xw_s rfl rfl,
  fun a0 a1 st M Q => xw_s rfl rfl,
  fun a0 a1 st M Q => xw_s rfl rfl,
  fun a0 a1 y0 M Q => xw_ret rfl rfl⟩
set_option maxRecDepth 20000 in
theorem h177_28 :
  (∀ (a0 : Nat) (a1 : Int32) (st : List Value) (M : xM) (Q : Option Value → xM → Prop), xW xSR 177 28 [.ref a0, .int a1] (st) M Q = xW xSR 177 29 [.ref a0, .int a1] (.int a1 :: st) M Q) :=
  fun a0 a1 st M Q => xw_s rfl rfl
theorem j177 : True := trivial

set_option maxRecDepth 20000 in
theorem s178 :
  (∀ (a0 : Nat) (a1 : Int32) (st : List Value) (M : xM) (Q : Option Value → xM → Prop), xW xSR 178 0 [.ref a0, .int a1] (st) M Q = xW xSR 178 1 [.ref a0, .int a1] (.ref a0 :: st) M Q) ∧
  (∀ (a0 : Nat) (a1 : Int32) (st : List Value) (M : xM) (Q : Option Value → xM → Prop), xW xSR 178 1 [.ref a0, .int a1] (st) M Q = xW xSR 178 2 [.ref a0, .int a1] (.int a1 :: st) M Q) ∧
  (∀ (a0 : Nat) (a1 : Int32) (y0 : Int32) (M : xM) (Q : Option Value → xM → Prop), xW xSR 178 2 [.ref a0, .int a1] (.int y0 :: .ref 0 :: []) M Q = xW xSR 140 0 [.ref 0, .int y0] [] M (fun v M' => xW xSR 178 5 [.ref a0, .int a1] (xpush v []) M' Q)) ∧
  (∀ (a0 : Nat) (a1 : Int32) (y0 : Int32) (st : List Value) (M : xM) (Q : Option Value → xM → Prop), xW xSR 178 5 [.ref a0, .int a1] (.int y0 :: st) M Q = if y0 = nI 0 then xW xSR 178 8 [.ref a0, .int a1] (st) M Q else xW xSR 178 10 [.ref a0, .int a1] (st) M Q) ∧
  (∀ (a0 : Nat) (a1 : Int32) (st : List Value) (M : xM) (Q : Option Value → xM → Prop), xW xSR 178 8 [.ref a0, .int a1] (st) M Q = xW xSR 178 9 [.ref a0, .int a1] (.int (-1) :: st) M Q) ∧
  (∀ (a0 : Nat) (a1 : Int32) (y0 : Int32) (M : xM) (Q : Option Value → xM → Prop), xW xSR 178 9 [.ref a0, .int a1] ([.int y0]) M Q = Q (some (.int y0)) M) ∧
  (∀ (a0 : Nat) (a1 : Int32) (st : List Value) (M : xM) (Q : Option Value → xM → Prop), xW xSR 178 10 [.ref a0, .int a1] (st) M Q = xW xSR 178 11 [.ref a0, .int a1] (.ref a0 :: st) M Q) ∧
  (∀ (a0 : Nat) (a1 : Int32) (st : List Value) (M : xM) (Q : Option Value → xM → Prop), xW xSR 178 11 [.ref a0, .int a1] (.ref 0 :: st) M Q = xW xSR 178 14 [.ref a0, .int a1] (.int (M 0 11) :: st) M Q) ∧
  (∀ (a0 : Nat) (a1 : Int32) (st : List Value) (M : xM) (Q : Option Value → xM → Prop), xW xSR 178 14 [.ref a0, .int a1] (st) M Q = xW xSR 178 16 [.ref a0, .int a1] (.int (nI 12) :: st) M Q) ∧
  (∀ (a0 : Nat) (a1 : Int32) (y0 : Int32) (y1 : Int32) (st : List Value) (M : xM) (Q : Option Value → xM → Prop), xW xSR 178 16 [.ref a0, .int a1] (.int y0 :: .int y1 :: st) M Q = if y1 = y0 then xW xSR 178 19 [.ref a0, .int a1] (st) M Q else xW xSR 178 22 [.ref a0, .int a1] (st) M Q) ∧
  (∀ (a0 : Nat) (a1 : Int32) (st : List Value) (M : xM) (Q : Option Value → xM → Prop), xW xSR 178 19 [.ref a0, .int a1] (st) M Q = xW xSR 178 21 [.ref a0, .int a1] (.int (-3) :: st) M Q) ∧
  (∀ (a0 : Nat) (a1 : Int32) (y0 : Int32) (M : xM) (Q : Option Value → xM → Prop), xW xSR 178 21 [.ref a0, .int a1] ([.int y0]) M Q = Q (some (.int y0)) M) ∧
  (∀ (a0 : Nat) (a1 : Int32) (st : List Value) (M : xM) (Q : Option Value → xM → Prop), xW xSR 178 22 [.ref a0, .int a1] (st) M Q = xW xSR 178 23 [.ref a0, .int a1] (.ref a0 :: st) M Q) ∧
  (∀ (a0 : Nat) (a1 : Int32) (st : List Value) (M : xM) (Q : Option Value → xM → Prop), xW xSR 178 23 [.ref a0, .int a1] (.ref 0 :: st) M Q = xW xSR 178 26 [.ref a0, .int a1] (.ref 7 :: st) M Q) ∧
  (∀ (a0 : Nat) (a1 : Int32) (st : List Value) (M : xM) (Q : Option Value → xM → Prop), xW xSR 178 26 [.ref a0, .int a1] (st) M Q = xW xSR 178 27 [.ref a0, .int a1] (.ref a0 :: st) M Q) ∧
  (∀ (a0 : Nat) (a1 : Int32) (st : List Value) (M : xM) (Q : Option Value → xM → Prop), xW xSR 178 27 [.ref a0, .int a1] (.ref 0 :: st) M Q = xW xSR 178 30 [.ref a0, .int a1] (.int (M 0 11) :: st) M Q) ∧
  (∀ (a0 : Nat) (a1 : Int32) (st : List Value) (M : xM) (Q : Option Value → xM → Prop), xW xSR 178 30 [.ref a0, .int a1] (st) M Q = xW xSR 178 31 [.ref a0, .int a1] (.int a1 :: st) M Q) ∧
  (∀ (a0 : Nat) (a1 : Int32) (y0 : Int32) (y1 : Nat) (st : List Value) (M : xM) (Q : Option Value → xM → Prop), y1 < 12 → xW xSR 178 31 [.ref a0, .int a1] (.int y0 :: .int (nI y1) :: .ref 7 :: st) M Q = xW xSR 178 32 [.ref a0, .int a1] (st) (xup M 7 y1 y0) Q) ∧
  (∀ (a0 : Nat) (a1 : Int32) (st : List Value) (M : xM) (Q : Option Value → xM → Prop), xW xSR 178 32 [.ref a0, .int a1] (st) M Q = xW xSR 178 33 [.ref a0, .int a1] (.ref a0 :: st) M Q) ∧
  (∀ (a0 : Nat) (a1 : Int32) (y0 : Nat) (st : List Value) (M : xM) (Q : Option Value → xM → Prop), xW xSR 178 33 [.ref a0, .int a1] (.ref y0 :: st) M Q = xW xSR 178 34 [.ref a0, .int a1] (.ref y0 :: .ref y0 :: st) M Q) ∧
  (∀ (a0 : Nat) (a1 : Int32) (st : List Value) (M : xM) (Q : Option Value → xM → Prop), xW xSR 178 34 [.ref a0, .int a1] (.ref 0 :: st) M Q = xW xSR 178 37 [.ref a0, .int a1] (.int (M 0 11) :: st) M Q) ∧
  (∀ (a0 : Nat) (a1 : Int32) (st : List Value) (M : xM) (Q : Option Value → xM → Prop), xW xSR 178 37 [.ref a0, .int a1] (st) M Q = xW xSR 178 38 [.ref a0, .int a1] (.int (nI 1) :: st) M Q) ∧
  (∀ (a0 : Nat) (a1 : Int32) (y0 : Int32) (y1 : Int32) (st : List Value) (M : xM) (Q : Option Value → xM → Prop), xW xSR 178 38 [.ref a0, .int a1] (.int y0 :: .int y1 :: st) M Q = xW xSR 178 39 [.ref a0, .int a1] (.int (y1 + y0) :: st) M Q) ∧
  (∀ (a0 : Nat) (a1 : Int32) (y0 : Int32) (st : List Value) (M : xM) (Q : Option Value → xM → Prop), xW xSR 178 39 [.ref a0, .int a1] (.int y0 :: .ref 0 :: st) M Q = xW xSR 178 42 [.ref a0, .int a1] (st) (xup M 0 11 y0) Q) ∧
  (∀ (a0 : Nat) (a1 : Int32) (st : List Value) (M : xM) (Q : Option Value → xM → Prop), xW xSR 178 42 [.ref a0, .int a1] (st) M Q = xW xSR 178 43 [.ref a0, .int a1] (.ref a0 :: st) M Q) ∧
  (∀ (a0 : Nat) (a1 : Int32) (st : List Value) (M : xM) (Q : Option Value → xM → Prop), xW xSR 178 43 [.ref a0, .int a1] (.ref 0 :: st) M Q = xW xSR 178 46 [.ref a0, .int a1] (.int (M 0 11) :: st) M Q) ∧
  (∀ (a0 : Nat) (a1 : Int32) (y0 : Int32) (M : xM) (Q : Option Value → xM → Prop), xW xSR 178 46 [.ref a0, .int a1] ([.int y0]) M Q = Q (some (.int y0)) M) :=
  ⟨fun a0 a1 st M Q => xw_s rfl rfl,
  fun a0 a1 st M Q => xw_s rfl rfl,
  fun a0 a1 y0 M Q => xw_call rfl rfl rfl,
  fun a0 a1 y0 st M Q => xw_brn (c0 := y0 ≠ nI 0) (c1 := y0 = nI 0) rfl rfl (Iff.rfl),
  fun a0 a1 st M Q => xw_s rfl rfl,
  fun a0 a1 y0 M Q => xw_ret rfl rfl,
  fun a0 a1 st M Q => xw_s rfl rfl,
  fun a0 a1 st M Q => xw_s rfl rfl,
  fun a0 a1 st M Q => xw_s rfl rfl,
  fun a0 a1 y0 y1 st M Q => xw_brn (c0 := y1 ≠ y0) (c1 := y1 = y0) rfl rfl (Iff.rfl),
  fun a0 a1 st M Q => xw_s rfl rfl,
  fun a0 a1 y0 M Q => xw_ret rfl rfl,
  fun a0 a1 st M Q => xw_s rfl rfl,
  fun a0 a1 st M Q => xw_s rfl rfl,
  fun a0 a1 st M Q => xw_s rfl rfl,
  fun a0 a1 st M Q => xw_s rfl rfl,
  fun a0 a1 st M Q => xw_s rfl rfl,
  fun a0 a1 y0 y1 st M Q h0 => xw_ast (f := fun x => x) rfl rfl rfl (by decide) h0,
  fun a0 a1 st M Q => xw_s rfl rfl,
  fun a0 a1 y0 st M Q => xw_s rfl rfl,
  fun a0 a1 st M Q => xw_s rfl rfl,
  fun a0 a1 st M Q => xw_s rfl rfl,
  fun a0 a1 y0 y1 st M Q => xw_s rfl rfl,
  fun a0 a1 y0 st M Q => xw_s rfl rfl,
  fun a0 a1 st M Q => xw_s rfl rfl,
  fun a0 a1 st M Q => xw_s rfl rfl,
  fun a0 a1 y0 M Q => xw_ret rfl rfl⟩
theorem j178 : True := trivial

set_option maxRecDepth 20000 in
theorem s179 :
  (∀ (a0 : Nat) (a1 : Value) (st : List Value) (M : xM) (Q : Option Value → xM → Prop), xW xSR 179 0 [.ref a0, a1] (st) M Q = xW xSR 179 1 [.ref a0, a1] (.ref a0 :: st) M Q) ∧
  (∀ (a0 : Nat) (a1 : Value) (st : List Value) (M : xM) (Q : Option Value → xM → Prop), xW xSR 179 1 [.ref a0, a1] (.ref 0 :: st) M Q = xW xSR 179 4 [.ref a0, a1] (.int (M 0 11) :: st) M Q) ∧
  (∀ (a0 : Nat) (a1 : Value) (y0 : Int32) (st : List Value) (M : xM) (Q : Option Value → xM → Prop), xW xSR 179 4 [.ref a0, a1] (.int y0 :: st) M Q = xW xSR 179 5 [.ref a0, .int y0] (st) M Q) ∧
  (∀ (a0 : Nat) (a1 : Int32) (st : List Value) (M : xM) (Q : Option Value → xM → Prop), xW xSR 179 5 [.ref a0, .int a1] (st) M Q = xW xSR 179 6 [.ref a0, .int a1] (.ref a0 :: st) M Q) ∧
  (∀ (a0 : Nat) (a1 : Int32) (st : List Value) (M : xM) (Q : Option Value → xM → Prop), xW xSR 179 6 [.ref a0, .int a1] (st) M Q = xW xSR 179 7 [.ref a0, .int a1] (.int (nI 0) :: st) M Q) ∧
  (∀ (a0 : Nat) (a1 : Int32) (y0 : Int32) (st : List Value) (M : xM) (Q : Option Value → xM → Prop), xW xSR 179 7 [.ref a0, .int a1] (.int y0 :: .ref 0 :: st) M Q = xW xSR 179 10 [.ref a0, .int a1] (st) (xup M 0 11 y0) Q) ∧
  (∀ (a0 : Nat) (a1 : Int32) (st : List Value) (M : xM) (Q : Option Value → xM → Prop), xW xSR 179 10 [.ref a0, .int a1] (st) M Q = xW xSR 179 11 [.ref a0, .int a1] (.int a1 :: st) M Q) ∧
  (∀ (a0 : Nat) (a1 : Int32) (y0 : Int32) (M : xM) (Q : Option Value → xM → Prop), xW xSR 179 11 [.ref a0, .int a1] ([.int y0]) M Q = Q (some (.int y0)) M) :=
  ⟨fun a0 a1 st M Q => xw_s rfl rfl,
  fun a0 a1 st M Q => xw_s rfl rfl,
  fun a0 a1 y0 st M Q => xw_s rfl rfl,
  fun a0 a1 st M Q => xw_s rfl rfl,
  fun a0 a1 st M Q => xw_s rfl rfl,
  fun a0 a1 y0 st M Q => xw_s rfl rfl,
  fun a0 a1 st M Q => xw_s rfl rfl,
  fun a0 a1 y0 M Q => xw_ret rfl rfl⟩
theorem j179 : True := trivial

set_option maxRecDepth 20000 in
theorem s180 :
  (∀ (a0 : Nat) (a1 : Value) (st : List Value) (M : xM) (Q : Option Value → xM → Prop), xW xSR 180 0 [.ref a0, a1] (st) M Q = xW xSR 180 1 [.ref a0, a1] (.int (nI 0) :: st) M Q) ∧
  (∀ (a0 : Nat) (a1 : Value) (y0 : Int32) (st : List Value) (M : xM) (Q : Option Value → xM → Prop), xW xSR 180 1 [.ref a0, a1] (.int y0 :: st) M Q = xW xSR 180 2 [.ref a0, .int y0] (st) M Q) ∧
  (∀ (a0 : Nat) (a1 : Int32) (st : List Value) (M : xM) (Q : Option Value → xM → Prop), xW xSR 180 3 [.ref a0, .int a1] (st) M Q = xW xSR 180 6 [.ref a0, .int a1] (.int (nI 156) :: st) M Q) ∧
  (∀ (a0 : Nat) (a1 : Int32) (y0 : Int32) (y1 : Int32) (st : List Value) (M : xM) (Q : Option Value → xM → Prop), xW xSR 180 6 [.ref a0, .int a1] (.int y0 :: .int y1 :: st) M Q = if y1 < y0 then xW xSR 180 9 [.ref a0, .int a1] (st) M Q else xW xSR 180 27 [.ref a0, .int a1] (st) M Q) ∧
  (∀ (a0 : Nat) (a1 : Int32) (st : List Value) (M : xM) (Q : Option Value → xM → Prop), xW xSR 180 9 [.ref a0, .int a1] (st) M Q = xW xSR 180 10 [.ref a0, .int a1] (.ref a0 :: st) M Q) ∧
  (∀ (a0 : Nat) (a1 : Int32) (st : List Value) (M : xM) (Q : Option Value → xM → Prop), xW xSR 180 10 [.ref a0, .int a1] (.ref 0 :: st) M Q = xW xSR 180 13 [.ref a0, .int a1] (.ref 8 :: st) M Q) ∧
  (∀ (a0 : Nat) (a1 : Int32) (st : List Value) (M : xM) (Q : Option Value → xM → Prop), xW xSR 180 13 [.ref a0, .int a1] (st) M Q = xW xSR 180 14 [.ref a0, .int a1] (.int a1 :: st) M Q) ∧
  (∀ (a0 : Nat) (a1 : Int32) (st : List Value) (M : xM) (Q : Option Value → xM → Prop), xW xSR 180 14 [.ref a0, .int a1] (st) M Q = xW xSR 180 15 [.ref a0, .int a1] (.ref a0 :: st) M Q) ∧
  (∀ (a0 : Nat) (a1 : Int32) (st : List Value) (M : xM) (Q : Option Value → xM → Prop), xW xSR 180 15 [.ref a0, .int a1] (.ref 0 :: st) M Q = xW xSR 180 18 [.ref a0, .int a1] (.ref 1 :: st) M Q) ∧
  (∀ (a0 : Nat) (a1 : Int32) (st : List Value) (M : xM) (Q : Option Value → xM → Prop), xW xSR 180 18 [.ref a0, .int a1] (st) M Q = xW xSR 180 19 [.ref a0, .int a1] (.int a1 :: st) M Q) ∧
  (∀ (a0 : Nat) (a1 : Int32) (y0 : Nat) (st : List Value) (M : xM) (Q : Option Value → xM → Prop), y0 < 156 → xW xSR 180 19 [.ref a0, .int a1] (.int (nI y0) :: .ref 1 :: st) M Q = xW xSR 180 20 [.ref a0, .int a1] (.int (M 1 y0) :: st) M Q) ∧
  (∀ (a0 : Nat) (a1 : Int32) (y0 : Int32) (y1 : Nat) (st : List Value) (M : xM) (Q : Option Value → xM → Prop), y1 < 156 → xW xSR 180 20 [.ref a0, .int a1] (.int y0 :: .int (nI y1) :: .ref 8 :: st) M Q = xW xSR 180 21 [.ref a0, .int a1] (st) (xup M 8 y1 y0) Q) ∧
  (∀ (a0 : Nat) (a1 : Int32) (st : List Value) (M : xM) (Q : Option Value → xM → Prop), xW xSR 180 21 [.ref a0, .int a1] (st) M Q = xW xSR 180 24 [.ref a0, .int (a1 + nI 1)] (st) M Q) ∧
  (∀ (a0 : Nat) (a1 : Int32) (st : List Value) (M : xM) (Q : Option Value → xM → Prop), xW xSR 180 24 [.ref a0, .int a1] (st) M Q = xW xSR 180 2 [.ref a0, .int a1] (st) M Q) ∧
  (∀ (a0 : Nat) (a1 : Int32) (M : xM) (Q : Option Value → xM → Prop), xW xSR 180 27 [.ref a0, .int a1] ([]) M Q = Q none M) :=
  ⟨fun a0 a1 st M Q => xw_s rfl rfl,
  fun a0 a1 y0 st M Q => xw_s rfl rfl,
  fun a0 a1 st M Q => xw_s rfl rfl,
  fun a0 a1 y0 y1 st M Q => xw_brn (c0 := y0 ≤ y1) (c1 := y1 < y0) rfl rfl (xge _ _),
  fun a0 a1 st M Q => xw_s rfl rfl,
  fun a0 a1 st M Q => xw_s rfl rfl,
  fun a0 a1 st M Q => xw_s rfl rfl,
  fun a0 a1 st M Q => xw_s rfl rfl,
  fun a0 a1 st M Q => xw_s rfl rfl,
  fun a0 a1 st M Q => xw_s rfl rfl,
  fun a0 a1 y0 st M Q h0 => xw_ald rfl rfl rfl (by decide) h0,
  fun a0 a1 y0 y1 st M Q h0 => xw_ast (f := fun x => x) rfl rfl rfl (by decide) h0,
  fun a0 a1 st M Q => xw_s rfl rfl,
  fun a0 a1 st M Q => xw_s rfl rfl,
  fun a0 a1 M Q => xw_retv rfl rfl⟩
set_option maxRecDepth 20000 in
theorem h180_2 :
  (∀ (a0 : Nat) (a1 : Int32) (st : List Value) (M : xM) (Q : Option Value → xM → Prop), xW xSR 180 2 [.ref a0, .int a1] (st) M Q = xW xSR 180 3 [.ref a0, .int a1] (.int a1 :: st) M Q) :=
  fun a0 a1 st M Q => xw_s rfl rfl
theorem j180 : True := trivial

set_option maxRecDepth 20000 in
theorem s181 :
  (∀ (a0 : Nat) (a1 : Value) (st : List Value) (M : xM) (Q : Option Value → xM → Prop), xW xSR 181 0 [.ref a0, a1] (st) M Q = xW xSR 181 1 [.ref a0, a1] (.int (nI 0) :: st) M Q) ∧
  (∀ (a0 : Nat) (a1 : Value) (y0 : Int32) (st : List Value) (M : xM) (Q : Option Value → xM → Prop), xW xSR 181 1 [.ref a0, a1] (.int y0 :: st) M Q = xW xSR 181 2 [.ref a0, .int y0] (st) M Q) ∧
  (∀ (a0 : Nat) (a1 : Int32) (st : List Value) (M : xM) (Q : Option Value → xM → Prop), xW xSR 181 3 [.ref a0, .int a1] (st) M Q = xW xSR 181 6 [.ref a0, .int a1] (.int (nI 156) :: st) M Q) ∧
  (∀ (a0 : Nat) (a1 : Int32) (y0 : Int32) (y1 : Int32) (st : List Value) (M : xM) (Q : Option Value → xM → Prop), xW xSR 181 6 [.ref a0, .int a1] (.int y0 :: .int y1 :: st) M Q = if y1 < y0 then xW xSR 181 9 [.ref a0, .int a1] (st) M Q else xW xSR 181 27 [.ref a0, .int a1] (st) M Q) ∧
  (∀ (a0 : Nat) (a1 : Int32) (st : List Value) (M : xM) (Q : Option Value → xM → Prop), xW xSR 181 9 [.ref a0, .int a1] (st) M Q = xW xSR 181 10 [.ref a0, .int a1] (.ref a0 :: st) M Q) ∧
  (∀ (a0 : Nat) (a1 : Int32) (st : List Value) (M : xM) (Q : Option Value → xM → Prop), xW xSR 181 10 [.ref a0, .int a1] (.ref 0 :: st) M Q = xW xSR 181 13 [.ref a0, .int a1] (.ref 1 :: st) M Q) ∧
  (∀ (a0 : Nat) (a1 : Int32) (st : List Value) (M : xM) (Q : Option Value → xM → Prop), xW xSR 181 13 [.ref a0, .int a1] (st) M Q = xW xSR 181 14 [.ref a0, .int a1] (.int a1 :: st) M Q) ∧
  (∀ (a0 : Nat) (a1 : Int32) (st : List Value) (M : xM) (Q : Option Value → xM → Prop), xW xSR 181 14 [.ref a0, .int a1] (st) M Q = xW xSR 181 15 [.ref a0, .int a1] (.ref a0 :: st) M Q) ∧
  (∀ (a0 : Nat) (a1 : Int32) (st : List Value) (M : xM) (Q : Option Value → xM → Prop), xW xSR 181 15 [.ref a0, .int a1] (.ref 0 :: st) M Q = xW xSR 181 18 [.ref a0, .int a1] (.ref 8 :: st) M Q) ∧
  (∀ (a0 : Nat) (a1 : Int32) (st : List Value) (M : xM) (Q : Option Value → xM → Prop), xW xSR 181 18 [.ref a0, .int a1] (st) M Q = xW xSR 181 19 [.ref a0, .int a1] (.int a1 :: st) M Q) ∧
  (∀ (a0 : Nat) (a1 : Int32) (y0 : Nat) (st : List Value) (M : xM) (Q : Option Value → xM → Prop), y0 < 156 → xW xSR 181 19 [.ref a0, .int a1] (.int (nI y0) :: .ref 8 :: st) M Q = xW xSR 181 20 [.ref a0, .int a1] (.int (M 8 y0) :: st) M Q) ∧
  (∀ (a0 : Nat) (a1 : Int32) (y0 : Int32) (y1 : Nat) (st : List Value) (M : xM) (Q : Option Value → xM → Prop), y1 < 156 → xW xSR 181 20 [.ref a0, .int a1] (.int y0 :: .int (nI y1) :: .ref 1 :: st) M Q = xW xSR 181 21 [.ref a0, .int a1] (st) (xup M 1 y1 y0) Q) ∧
  (∀ (a0 : Nat) (a1 : Int32) (st : List Value) (M : xM) (Q : Option Value → xM → Prop), xW xSR 181 21 [.ref a0, .int a1] (st) M Q = xW xSR 181 24 [.ref a0, .int (a1 + nI 1)] (st) M Q) ∧
  (∀ (a0 : Nat) (a1 : Int32) (st : List Value) (M : xM) (Q : Option Value → xM → Prop), xW xSR 181 24 [.ref a0, .int a1] (st) M Q = xW xSR 181 2 [.ref a0, .int a1] (st) M Q) ∧
  (∀ (a0 : Nat) (a1 : Int32) (M : xM) (Q : Option Value → xM → Prop), xW xSR 181 27 [.ref a0, .int a1] ([]) M Q = Q none M) :=
  ⟨fun a0 a1 st M Q => xw_s rfl rfl,
  fun a0 a1 y0 st M Q => xw_s rfl rfl,
  fun a0 a1 st M Q => xw_s rfl rfl,
  fun a0 a1 y0 y1 st M Q => xw_brn (c0 := y0 ≤ y1) (c1 := y1 < y0) rfl rfl (xge _ _),
  fun a0 a1 st M Q => xw_s rfl rfl,
  fun a0 a1 st M Q => xw_s rfl rfl,
  fun a0 a1 st M Q => xw_s rfl rfl,
  fun a0 a1 st M Q => xw_s rfl rfl,
  fun a0 a1 st M Q => xw_s rfl rfl,
  fun a0 a1 st M Q => xw_s rfl rfl,
  fun a0 a1 y0 st M Q h0 => xw_ald rfl rfl rfl (by decide) h0,
  fun a0 a1 y0 y1 st M Q h0 => xw_ast (f := fun x => x) rfl rfl rfl (by decide) h0,
  fun a0 a1 st M Q => xw_s rfl rfl,
  fun a0 a1 st M Q => xw_s rfl rfl,
  fun a0 a1 M Q => xw_retv rfl rfl⟩
set_option maxRecDepth 20000 in
theorem h181_2 :
  (∀ (a0 : Nat) (a1 : Int32) (st : List Value) (M : xM) (Q : Option Value → xM → Prop), xW xSR 181 2 [.ref a0, .int a1] (st) M Q = xW xSR 181 3 [.ref a0, .int a1] (.int a1 :: st) M Q) :=
  fun a0 a1 st M Q => xw_s rfl rfl
theorem j181 : True := trivial

set_option maxRecDepth 20000 in
theorem s182 :
  (∀ (a0 : Nat) (a1 : Int32) (a2 : Value) (a3 : Value) (a4 : Value) (st : List Value) (M : xM) (Q : Option Value → xM → Prop), xW xSR 182 0 [.ref a0, .int a1, a2, a3, a4] (st) M Q = xW xSR 182 1 [.ref a0, .int a1, a2, a3, a4] (.ref a0 :: st) M Q) ∧
  (∀ (a0 : Nat) (a1 : Int32) (a2 : Value) (a3 : Value) (a4 : Value) (st : List Value) (M : xM) (Q : Option Value → xM → Prop), xW xSR 182 1 [.ref a0, .int a1, a2, a3, a4] (st) M Q = xW xSR 182 2 [.ref a0, .int a1, a2, a3, a4] (.int a1 :: st) M Q) ∧
  (∀ (a0 : Nat) (a1 : Int32) (a2 : Value) (a3 : Value) (a4 : Value) (y0 : Int32) (M : xM) (Q : Option Value → xM → Prop), xW xSR 182 2 [.ref a0, .int a1, a2, a3, a4] (.int y0 :: .ref 0 :: []) M Q = xW xSR 141 0 [.ref 0, .int y0] [] M (fun v M' => xW xSR 182 5 [.ref a0, .int a1, a2, a3, a4] (xpush v []) M' Q)) ∧
  (∀ (a0 : Nat) (a1 : Int32) (a2 : Value) (a3 : Value) (a4 : Value) (y0 : Int32) (st : List Value) (M : xM) (Q : Option Value → xM → Prop), xW xSR 182 5 [.ref a0, .int a1, a2, a3, a4] (.int y0 :: st) M Q = if y0 = nI 0 then xW xSR 182 8 [.ref a0, .int a1, a2, a3, a4] (st) M Q else xW xSR 182 10 [.ref a0, .int a1, a2, a3, a4] (st) M Q) ∧
  (∀ (a0 : Nat) (a1 : Int32) (a2 : Value) (a3 : Value) (a4 : Value) (st : List Value) (M : xM) (Q : Option Value → xM → Prop), xW xSR 182 8 [.ref a0, .int a1, a2, a3, a4] (st) M Q = xW xSR 182 9 [.ref a0, .int a1, a2, a3, a4] (.int (-1) :: st) M Q) ∧
  (∀ (a0 : Nat) (a1 : Int32) (a2 : Value) (a3 : Value) (a4 : Value) (y0 : Int32) (M : xM) (Q : Option Value → xM → Prop), xW xSR 182 9 [.ref a0, .int a1, a2, a3, a4] ([.int y0]) M Q = Q (some (.int y0)) M) ∧
  (∀ (a0 : Nat) (a1 : Int32) (a2 : Value) (a3 : Value) (a4 : Value) (st : List Value) (M : xM) (Q : Option Value → xM → Prop), xW xSR 182 10 [.ref a0, .int a1, a2, a3, a4] (st) M Q = xW xSR 182 11 [.ref a0, .int a1, a2, a3, a4] (.ref a0 :: st) M Q) ∧
  (∀ (a0 : Nat) (a1 : Int32) (a2 : Value) (a3 : Value) (a4 : Value) (M : xM) (Q : Option Value → xM → Prop), xW xSR 182 11 [.ref a0, .int a1, a2, a3, a4] (.ref 0 :: []) M Q = xW xSR 180 0 [.ref 0, .null] [] M (fun v M' => xW xSR 182 14 [.ref a0, .int a1, a2, a3, a4] (xpush v []) M' Q)) ∧
  (∀ (a0 : Nat) (a1 : Int32) (a2 : Value) (a3 : Value) (a4 : Value) (st : List Value) (M : xM) (Q : Option Value → xM → Prop), xW xSR 182 14 [.ref a0, .int a1, a2, a3, a4] (st) M Q = xW xSR 182 15 [.ref a0, .int a1, a2, a3, a4] (.int (nI 0) :: st) M Q) ∧
  (∀ (a0 : Nat) (a1 : Int32) (a2 : Value) (a3 : Value) (a4 : Value) (y0 : Int32) (st : List Value) (M : xM) (Q : Option Value → xM → Prop), xW xSR 182 15 [.ref a0, .int a1, a2, a3, a4] (.int y0 :: st) M Q = xW xSR 182 16 [.ref a0, .int a1, .int y0, a3, a4] (st) M Q) ∧
  (∀ (a0 : Nat) (a1 : Int32) (a2 : Int32) (a3 : Value) (a4 : Value) (st : List Value) (M : xM) (Q : Option Value → xM → Prop), xW xSR 182 16 [.ref a0, .int a1, .int a2, a3, a4] (st) M Q = xW xSR 182 17 [.ref a0, .int a1, .int a2, a3, a4] (.int (nI 0) :: st) M Q) ∧
  (∀ (a0 : Nat) (a1 : Int32) (a2 : Int32) (a3 : Value) (a4 : Value) (y0 : Int32) (st : List Value) (M : xM) (Q : Option Value → xM → Prop), xW xSR 182 17 [.ref a0, .int a1, .int a2, a3, a4] (.int y0 :: st) M Q = xW xSR 182 18 [.ref a0, .int a1, .int a2, .int y0, a4] (st) M Q) ∧
  (∀ (a0 : Nat) (a1 : Int32) (a2 : Int32) (a3 : Int32) (a4 : Value) (st : List Value) (M : xM) (Q : Option Value → xM → Prop), xW xSR 182 19 [.ref a0, .int a1, .int a2, .int a3, a4] (st) M Q = xW xSR 182 20 [.ref a0, .int a1, .int a2, .int a3, a4] (.ref a0 :: st) M Q) ∧
  (∀ (a0 : Nat) (a1 : Int32) (a2 : Int32) (a3 : Int32) (a4 : Value) (st : List Value) (M : xM) (Q : Option Value → xM → Prop), xW xSR 182 20 [.ref a0, .int a1, .int a2, .int a3, a4] (.ref 0 :: st) M Q = xW xSR 182 23 [.ref a0, .int a1, .int a2, .int a3, a4] (.int (M 0 11) :: st) M Q) ∧
  (∀ (a0 : Nat) (a1 : Int32) (a2 : Int32) (a3 : Int32) (a4 : Value) (y0 : Int32) (y1 : Int32) (st : List Value) (M : xM) (Q : Option Value → xM → Prop), xW xSR 182 23 [.ref a0, .int a1, .int a2, .int a3, a4] (.int y0 :: .int y1 :: st) M Q = if y1 < y0 then xW xSR 182 26 [.ref a0, .int a1, .int a2, .int a3, a4] (st) M Q else xW xSR 182 150 [.ref a0, .int a1, .int a2, .int a3, a4] (st) M Q) ∧
  (∀ (a0 : Nat) (a1 : Int32) (a2 : Int32) (a3 : Int32) (a4 : Value) (st : List Value) (M : xM) (Q : Option Value → xM → Prop), xW xSR 182 26 [.ref a0, .int a1, .int a2, .int a3, a4] (st) M Q = xW xSR 182 27 [.ref a0, .int a1, .int a2, .int a3, a4] (.int a2 :: st) M Q) ∧
  (∀ (a0 : Nat) (a1 : Int32) (a2 : Int32) (a3 : Int32) (a4 : Value) (y0 : Int32) (st : List Value) (M : xM) (Q : Option Value → xM → Prop), xW xSR 182 27 [.ref a0, .int a1, .int a2, .int a3, a4] (.int y0 :: st) M Q = if y0 < nI 0 then xW xSR 182 150 [.ref a0, .int a1, .int a2, .int a3, a4] (st) M Q else xW xSR 182 30 [.ref a0, .int a1, .int a2, .int a3, a4] (st) M Q) ∧
  (∀ (a0 : Nat) (a1 : Int32) (a2 : Int32) (a3 : Int32) (a4 : Value) (st : List Value) (M : xM) (Q : Option Value → xM → Prop), xW xSR 182 30 [.ref a0, .int a1, .int a2, .int a3, a4] (st) M Q = xW xSR 182 31 [.ref a0, .int a1, .int a2, .int a3, a4] (.ref a0 :: st) M Q) ∧
  (∀ (a0 : Nat) (a1 : Int32) (a2 : Int32) (a3 : Int32) (a4 : Value) (st : List Value) (M : xM) (Q : Option Value → xM → Prop), xW xSR 182 31 [.ref a0, .int a1, .int a2, .int a3, a4] (st) M Q = xW xSR 182 32 [.ref a0, .int a1, .int a2, .int a3, a4] (.ref a0 :: st) M Q) ∧
  (∀ (a0 : Nat) (a1 : Int32) (a2 : Int32) (a3 : Int32) (a4 : Value) (st : List Value) (M : xM) (Q : Option Value → xM → Prop), xW xSR 182 32 [.ref a0, .int a1, .int a2, .int a3, a4] (.ref 0 :: st) M Q = xW xSR 182 35 [.ref a0, .int a1, .int a2, .int a3, a4] (.ref 7 :: st) M Q) ∧
  (∀ (a0 : Nat) (a1 : Int32) (a2 : Int32) (a3 : Int32) (a4 : Value) (st : List Value) (M : xM) (Q : Option Value → xM → Prop), xW xSR 182 35 [.ref a0, .int a1, .int a2, .int a3, a4] (st) M Q = xW xSR 182 36 [.ref a0, .int a1, .int a2, .int a3, a4] (.int a3 :: st) M Q) ∧
  (∀ (a0 : Nat) (a1 : Int32) (a2 : Int32) (a3 : Int32) (a4 : Value) (y0 : Nat) (st : List Value) (M : xM) (Q : Option Value → xM → Prop), y0 < 12 → xW xSR 182 36 [.ref a0, .int a1, .int a2, .int a3, a4] (.int (nI y0) :: .ref 7 :: st) M Q = xW xSR 182 37 [.ref a0, .int a1, .int a2, .int a3, a4] (.int (M 7 y0) :: st) M Q) ∧
  (∀ (a0 : Nat) (a1 : Int32) (a2 : Int32) (a3 : Int32) (a4 : Value) (st : List Value) (M : xM) (Q : Option Value → xM → Prop), xW xSR 182 37 [.ref a0, .int a1, .int a2, .int a3, a4] (st) M Q = xW xSR 182 38 [.ref a0, .int a1, .int a2, .int a3, a4] (.ref a0 :: st) M Q) ∧
  (∀ (a0 : Nat) (a1 : Int32) (a2 : Int32) (a3 : Int32) (a4 : Value) (st : List Value) (M : xM) (Q : Option Value → xM → Prop), xW xSR 182 38 [.ref a0, .int a1, .int a2, .int a3, a4] (.ref 0 :: st) M Q = xW xSR 182 41 [.ref a0, .int a1, .int a2, .int a3, a4] (.ref 1 :: st) M Q) ∧
  (∀ (a0 : Nat) (a1 : Int32) (a2 : Int32) (a3 : Int32) (a4 : Value) (st : List Value) (M : xM) (Q : Option Value → xM → Prop), xW xSR 182 41 [.ref a0, .int a1, .int a2, .int a3, a4] (st) M Q = xW xSR 182 43 [.ref a0, .int a1, .int a2, .int a3, a4] (.int (nI 51) :: st) M Q) ∧
  (∀ (a0 : Nat) (a1 : Int32) (a2 : Int32) (a3 : Int32) (a4 : Value) (st : List Value) (M : xM) (Q : Option Value → xM → Prop), xW xSR 182 43 [.ref a0, .int a1, .int a2, .int a3, a4] (st) M Q = xW xSR 182 44 [.ref a0, .int a1, .int a2, .int a3, a4] (.int (nI 3) :: st) M Q) ∧
  (∀ (a0 : Nat) (a1 : Int32) (a2 : Int32) (a3 : Int32) (a4 : Value) (st : List Value) (M : xM) (Q : Option Value → xM → Prop), xW xSR 182 44 [.ref a0, .int a1, .int a2, .int a3, a4] (st) M Q = xW xSR 182 45 [.ref a0, .int a1, .int a2, .int a3, a4] (.int a1 :: st) M Q) ∧
  (∀ (a0 : Nat) (a1 : Int32) (a2 : Int32) (a3 : Int32) (a4 : Value) (y0 : Int32) (y1 : Int32) (st : List Value) (M : xM) (Q : Option Value → xM → Prop), xW xSR 182 45 [.ref a0, .int a1, .int a2, .int a3, a4] (.int y0 :: .int y1 :: st) M Q = xW xSR 182 46 [.ref a0, .int a1, .int a2, .int a3, a4] (.int (y1 * y0) :: st) M Q) ∧
  (∀ (a0 : Nat) (a1 : Int32) (a2 : Int32) (a3 : Int32) (a4 : Value) (y0 : Int32) (y1 : Int32) (st : List Value) (M : xM) (Q : Option Value → xM → Prop), xW xSR 182 46 [.ref a0, .int a1, .int a2, .int a3, a4] (.int y0 :: .int y1 :: st) M Q = xW xSR 182 47 [.ref a0, .int a1, .int a2, .int a3, a4] (.int (y1 + y0) :: st) M Q) ∧
  (∀ (a0 : Nat) (a1 : Int32) (a2 : Int32) (a3 : Int32) (a4 : Value) (y0 : Nat) (st : List Value) (M : xM) (Q : Option Value → xM → Prop), y0 < 156 → xW xSR 182 47 [.ref a0, .int a1, .int a2, .int a3, a4] (.int (nI y0) :: .ref 1 :: st) M Q = xW xSR 182 48 [.ref a0, .int a1, .int a2, .int a3, a4] (.int (M 1 y0) :: st) M Q) ∧
  (∀ (a0 : Nat) (a1 : Int32) (a2 : Int32) (a3 : Int32) (a4 : Value) (y0 : Int32) (y1 : Int32) (M : xM) (Q : Option Value → xM → Prop), xW xSR 182 48 [.ref a0, .int a1, .int a2, .int a3, a4] (.int y0 :: .int y1 :: .ref 0 :: []) M Q = xW xSR 171 0 [.ref 0, .int y1, .int y0] [] M (fun v M' => xW xSR 182 51 [.ref a0, .int a1, .int a2, .int a3, a4] (xpush v []) M' Q)) ∧
  (∀ (a0 : Nat) (a1 : Int32) (a2 : Int32) (a3 : Int32) (a4 : Value) (y0 : Int32) (st : List Value) (M : xM) (Q : Option Value → xM → Prop), xW xSR 182 51 [.ref a0, .int a1, .int a2, .int a3, a4] (.int y0 :: st) M Q = xW xSR 182 53 [.ref a0, .int a1, .int a2, .int a3, .int y0] (st) M Q) ∧
  (∀ (a0 : Nat) (a1 : Int32) (a2 : Int32) (a3 : Int32) (a4 : Int32) (st : List Value) (M : xM) (Q : Option Value → xM → Prop), xW xSR 182 53 [.ref a0, .int a1, .int a2, .int a3, .int a4] (st) M Q = xW xSR 182 55 [.ref a0, .int a1, .int a2, .int a3, .int a4] (.int a4 :: st) M Q) ∧
  (∀ (a0 : Nat) (a1 : Int32) (a2 : Int32) (a3 : Int32) (a4 : Int32) (y0 : Int32) (st : List Value) (M : xM) (Q : Option Value → xM → Prop), xW xSR 182 55 [.ref a0, .int a1, .int a2, .int a3, .int a4] (.int y0 :: st) M Q = if y0 < nI 0 then xW xSR 182 74 [.ref a0, .int a1, .int a2, .int a3, .int a4] (st) M Q else xW xSR 182 58 [.ref a0, .int a1, .int a2, .int a3, .int a4] (st) M Q) ∧
  (∀ (a0 : Nat) (a1 : Int32) (a2 : Int32) (a3 : Int32) (a4 : Int32) (st : List Value) (M : xM) (Q : Option Value → xM → Prop), xW xSR 182 58 [.ref a0, .int a1, .int a2, .int a3, .int a4] (st) M Q = xW xSR 182 59 [.ref a0, .int a1, .int a2, .int a3, .int a4] (.ref a0 :: st) M Q) ∧
  (∀ (a0 : Nat) (a1 : Int32) (a2 : Int32) (a3 : Int32) (a4 : Int32) (st : List Value) (M : xM) (Q : Option Value → xM → Prop), xW xSR 182 59 [.ref a0, .int a1, .int a2, .int a3, .int a4] (st) M Q = xW xSR 182 60 [.ref a0, .int a1, .int a2, .int a3, .int a4] (.int a1 :: st) M Q) ∧
  (∀ (a0 : Nat) (a1 : Int32) (a2 : Int32) (a3 : Int32) (a4 : Int32) (st : List Value) (M : xM) (Q : Option Value → xM → Prop), xW xSR 182 60 [.ref a0, .int a1, .int a2, .int a3, .int a4] (st) M Q = xW xSR 182 61 [.ref a0, .int a1, .int a2, .int a3, .int a4] (.ref a0 :: st) M Q) ∧
  (∀ (a0 : Nat) (a1 : Int32) (a2 : Int32) (a3 : Int32) (a4 : Int32) (st : List Value) (M : xM) (Q : Option Value → xM → Prop), xW xSR 182 61 [.ref a0, .int a1, .int a2, .int a3, .int a4] (.ref 0 :: st) M Q = xW xSR 182 64 [.ref a0, .int a1, .int a2, .int a3, .int a4] (.ref 7 :: st) M Q) ∧
  (∀ (a0 : Nat) (a1 : Int32) (a2 : Int32) (a3 : Int32) (a4 : Int32) (st : List Value) (M : xM) (Q : Option Value → xM → Prop), xW xSR 182 64 [.ref a0, .int a1, .int a2, .int a3, .int a4] (st) M Q = xW xSR 182 65 [.ref a0, .int a1, .int a2, .int a3, .int a4] (.int a3 :: st) M Q) ∧
  (∀ (a0 : Nat) (a1 : Int32) (a2 : Int32) (a3 : Int32) (a4 : Int32) (y0 : Nat) (st : List Value) (M : xM) (Q : Option Value → xM → Prop), y0 < 12 → xW xSR 182 65 [.ref a0, .int a1, .int a2, .int a3, .int a4] (.int (nI y0) :: .ref 7 :: st) M Q = xW xSR 182 66 [.ref a0, .int a1, .int a2, .int a3, .int a4] (.int (M 7 y0) :: st) M Q) ∧
  (∀ (a0 : Nat) (a1 : Int32) (a2 : Int32) (a3 : Int32) (a4 : Int32) (st : List Value) (M : xM) (Q : Option Value → xM → Prop), xW xSR 182 66 [.ref a0, .int a1, .int a2, .int a3, .int a4] (st) M Q = xW xSR 182 68 [.ref a0, .int a1, .int a2, .int a3, .int a4] (.int a4 :: st) M Q) ∧
  (∀ (a0 : Nat) (a1 : Int32) (a2 : Int32) (a3 : Int32) (a4 : Int32) (y0 : Int32) (y1 : Int32) (y2 : Int32) (M : xM) (Q : Option Value → xM → Prop), xW xSR 182 68 [.ref a0, .int a1, .int a2, .int a3, .int a4] (.int y0 :: .int y1 :: .int y2 :: .ref 0 :: []) M Q = xW xSR 168 0 [.ref 0, .int y2, .int y1, .int y0] [] M (fun v M' => xW xSR 182 71 [.ref a0, .int a1, .int a2, .int a3, .int a4] (xpush v []) M' Q)) ∧
  (∀ (a0 : Nat) (a1 : Int32) (a2 : Int32) (a3 : Int32) (a4 : Int32) (y0 : Int32) (st : List Value) (M : xM) (Q : Option Value → xM → Prop), xW xSR 182 71 [.ref a0, .int a1, .int a2, .int a3, .int a4] (.int y0 :: st) M Q = if y0 = nI 0 then xW xSR 182 74 [.ref a0, .int a1, .int a2, .int a3, .int a4] (st) M Q else xW xSR 182 80 [.ref a0, .int a1, .int a2, .int a3, .int a4] (st) M Q) ∧
  (∀ (a0 : Nat) (a1 : Int32) (a2 : Int32) (a3 : Int32) (a4 : Int32) (y0 : Int32) (st : List Value) (M : xM) (Q : Option Value → xM → Prop), xW xSR 182 76 [.ref a0, .int a1, .int a2, .int a3, .int a4] (.int y0 :: st) M Q = xW xSR 182 77 [.ref a0, .int a1, .int y0, .int a3, .int a4] (st) M Q) ∧
  (∀ (a0 : Nat) (a1 : Int32) (a2 : Int32) (a3 : Int32) (a4 : Int32) (st : List Value) (M : xM) (Q : Option Value → xM → Prop), xW xSR 182 77 [.ref a0, .int a1, .int a2, .int a3, .int a4] (st) M Q = xW xSR 182 144 [.ref a0, .int a1, .int a2, .int a3, .int a4] (st) M Q) ∧
  (∀ (a0 : Nat) (a1 : Int32) (a2 : Int32) (a3 : Int32) (a4 : Int32) (st : List Value) (M : xM) (Q : Option Value → xM → Prop), xW xSR 182 80 [.ref a0, .int a1, .int a2, .int a3, .int a4] (st) M Q = xW xSR 182 81 [.ref a0, .int a1, .int a2, .int a3, .int a4] (.int a2 :: st) M Q) ∧
  (∀ (a0 : Nat) (a1 : Int32) (a2 : Int32) (a3 : Int32) (a4 : Int32) (st : List Value) (M : xM) (Q : Option Value → xM → Prop), xW xSR 182 81 [.ref a0, .int a1, .int a2, .int a3, .int a4] (st) M Q = xW xSR 182 82 [.ref a0, .int a1, .int a2, .int a3, .int a4] (.ref a0 :: st) M Q) ∧
  (∀ (a0 : Nat) (a1 : Int32) (a2 : Int32) (a3 : Int32) (a4 : Int32) (st : List Value) (M : xM) (Q : Option Value → xM → Prop), xW xSR 182 82 [.ref a0, .int a1, .int a2, .int a3, .int a4] (st) M Q = xW xSR 182 83 [.ref a0, .int a1, .int a2, .int a3, .int a4] (.int a1 :: st) M Q) ∧
  (∀ (a0 : Nat) (a1 : Int32) (a2 : Int32) (a3 : Int32) (a4 : Int32) (st : List Value) (M : xM) (Q : Option Value → xM → Prop), xW xSR 182 83 [.ref a0, .int a1, .int a2, .int a3, .int a4] (st) M Q = xW xSR 182 84 [.ref a0, .int a1, .int a2, .int a3, .int a4] (.ref a0 :: st) M Q) ∧
  (∀ (a0 : Nat) (a1 : Int32) (a2 : Int32) (a3 : Int32) (a4 : Int32) (st : List Value) (M : xM) (Q : Option Value → xM → Prop), xW xSR 182 84 [.ref a0, .int a1, .int a2, .int a3, .int a4] (.ref 0 :: st) M Q = xW xSR 182 87 [.ref a0, .int a1, .int a2, .int a3, .int a4] (.ref 7 :: st) M Q) ∧
  (∀ (a0 : Nat) (a1 : Int32) (a2 : Int32) (a3 : Int32) (a4 : Int32) (st : List Value) (M : xM) (Q : Option Value → xM → Prop), xW xSR 182 87 [.ref a0, .int a1, .int a2, .int a3, .int a4] (st) M Q = xW xSR 182 88 [.ref a0, .int a1, .int a2, .int a3, .int a4] (.int a3 :: st) M Q) ∧
  (∀ (a0 : Nat) (a1 : Int32) (a2 : Int32) (a3 : Int32) (a4 : Int32) (y0 : Nat) (st : List Value) (M : xM) (Q : Option Value → xM → Prop), y0 < 12 → xW xSR 182 88 [.ref a0, .int a1, .int a2, .int a3, .int a4] (.int (nI y0) :: .ref 7 :: st) M Q = xW xSR 182 89 [.ref a0, .int a1, .int a2, .int a3, .int a4] (.int (M 7 y0) :: st) M Q) ∧
  (∀ (a0 : Nat) (a1 : Int32) (a2 : Int32) (a3 : Int32) (a4 : Int32) (st : List Value) (M : xM) (Q : Option Value → xM → Prop), xW xSR 182 89 [.ref a0, .int a1, .int a2, .int a3, .int a4] (st) M Q = xW xSR 182 91 [.ref a0, .int a1, .int a2, .int a3, .int a4] (.int a4 :: st) M Q) ∧
  (∀ (a0 : Nat) (a1 : Int32) (a2 : Int32) (a3 : Int32) (a4 : Int32) (st : List Value) (M : xM) (Q : Option Value → xM → Prop), xW xSR 182 91 [.ref a0, .int a1, .int a2, .int a3, .int a4] (st) M Q = xW xSR 182 92 [.ref a0, .int a1, .int a2, .int a3, .int a4] (.ref a0 :: st) M Q) ∧
  (∀ (a0 : Nat) (a1 : Int32) (a2 : Int32) (a3 : Int32) (a4 : Int32) (st : List Value) (M : xM) (Q : Option Value → xM → Prop), xW xSR 182 92 [.ref a0, .int a1, .int a2, .int a3, .int a4] (.ref 0 :: st) M Q = xW xSR 182 95 [.ref a0, .int a1, .int a2, .int a3, .int a4] (.ref 1 :: st) M Q) ∧
  (∀ (a0 : Nat) (a1 : Int32) (a2 : Int32) (a3 : Int32) (a4 : Int32) (st : List Value) (M : xM) (Q : Option Value → xM → Prop), xW xSR 182 95 [.ref a0, .int a1, .int a2, .int a3, .int a4] (st) M Q = xW xSR 182 97 [.ref a0, .int a1, .int a2, .int a3, .int a4] (.int (nI 51) :: st) M Q) ∧
  (∀ (a0 : Nat) (a1 : Int32) (a2 : Int32) (a3 : Int32) (a4 : Int32) (st : List Value) (M : xM) (Q : Option Value → xM → Prop), xW xSR 182 97 [.ref a0, .int a1, .int a2, .int a3, .int a4] (st) M Q = xW xSR 182 98 [.ref a0, .int a1, .int a2, .int a3, .int a4] (.int (nI 3) :: st) M Q) ∧
  (∀ (a0 : Nat) (a1 : Int32) (a2 : Int32) (a3 : Int32) (a4 : Int32) (st : List Value) (M : xM) (Q : Option Value → xM → Prop), xW xSR 182 98 [.ref a0, .int a1, .int a2, .int a3, .int a4] (st) M Q = xW xSR 182 99 [.ref a0, .int a1, .int a2, .int a3, .int a4] (.int a1 :: st) M Q) ∧
  (∀ (a0 : Nat) (a1 : Int32) (a2 : Int32) (a3 : Int32) (a4 : Int32) (y0 : Int32) (y1 : Int32) (st : List Value) (M : xM) (Q : Option Value → xM → Prop), xW xSR 182 99 [.ref a0, .int a1, .int a2, .int a3, .int a4] (.int y0 :: .int y1 :: st) M Q = xW xSR 182 100 [.ref a0, .int a1, .int a2, .int a3, .int a4] (.int (y1 * y0) :: st) M Q) ∧
  (∀ (a0 : Nat) (a1 : Int32) (a2 : Int32) (a3 : Int32) (a4 : Int32) (y0 : Int32) (y1 : Int32) (st : List Value) (M : xM) (Q : Option Value → xM → Prop), xW xSR 182 100 [.ref a0, .int a1, .int a2, .int a3, .int a4] (.int y0 :: .int y1 :: st) M Q = xW xSR 182 101 [.ref a0, .int a1, .int a2, .int a3, .int a4] (.int (y1 + y0) :: st) M Q) ∧
  (∀ (a0 : Nat) (a1 : Int32) (a2 : Int32) (a3 : Int32) (a4 : Int32) (st : List Value) (M : xM) (Q : Option Value → xM → Prop), xW xSR 182 101 [.ref a0, .int a1, .int a2, .int a3, .int a4] (st) M Q = xW xSR 182 102 [.ref a0, .int a1, .int a2, .int a3, .int a4] (.int (nI 2) :: st) M Q) ∧
  (∀ (a0 : Nat) (a1 : Int32) (a2 : Int32) (a3 : Int32) (a4 : Int32) (y0 : Int32) (y1 : Int32) (st : List Value) (M : xM) (Q : Option Value → xM → Prop), xW xSR 182 102 [.ref a0, .int a1, .int a2, .int a3, .int a4] (.int y0 :: .int y1 :: st) M Q = xW xSR 182 103 [.ref a0, .int a1, .int a2, .int a3, .int a4] (.int (y1 + y0) :: st) M Q) ∧
  (∀ (a0 : Nat) (a1 : Int32) (a2 : Int32) (a3 : Int32) (a4 : Int32) (y0 : Nat) (st : List Value) (M : xM) (Q : Option Value → xM → Prop), y0 < 156 → xW xSR 182 103 [.ref a0, .int a1, .int a2, .int a3, .int a4] (.int (nI y0) :: .ref 1 :: st) M Q = xW xSR 182 104 [.ref a0, .int a1, .int a2, .int a3, .int a4] (.int (M 1 y0) :: st) M Q) ∧
  (∀ (a0 : Nat) (a1 : Int32) (a2 : Int32) (a3 : Int32) (a4 : Int32) (st : List Value) (M : xM) (Q : Option Value → xM → Prop), xW xSR 182 104 [.ref a0, .int a1, .int a2, .int a3, .int a4] (st) M Q = xW xSR 182 105 [.ref a0, .int a1, .int a2, .int a3, .int a4] (.ref a0 :: st) M Q) ∧
  (∀ (a0 : Nat) (a1 : Int32) (a2 : Int32) (a3 : Int32) (a4 : Int32) (st : List Value) (M : xM) (Q : Option Value → xM → Prop), xW xSR 182 105 [.ref a0, .int a1, .int a2, .int a3, .int a4] (.ref 0 :: st) M Q = xW xSR 182 108 [.ref a0, .int a1, .int a2, .int a3, .int a4] (.ref 1 :: st) M Q) ∧
  (∀ (a0 : Nat) (a1 : Int32) (a2 : Int32) (a3 : Int32) (a4 : Int32) (st : List Value) (M : xM) (Q : Option Value → xM → Prop), xW xSR 182 108 [.ref a0, .int a1, .int a2, .int a3, .int a4] (st) M Q = xW xSR 182 110 [.ref a0, .int a1, .int a2, .int a3, .int a4] (.int (nI 51) :: st) M Q) ∧
  (∀ (a0 : Nat) (a1 : Int32) (a2 : Int32) (a3 : Int32) (a4 : Int32) (st : List Value) (M : xM) (Q : Option Value → xM → Prop), xW xSR 182 110 [.ref a0, .int a1, .int a2, .int a3, .int a4] (st) M Q = xW xSR 182 111 [.ref a0, .int a1, .int a2, .int a3, .int a4] (.int (nI 3) :: st) M Q) ∧
  (∀ (a0 : Nat) (a1 : Int32) (a2 : Int32) (a3 : Int32) (a4 : Int32) (st : List Value) (M : xM) (Q : Option Value → xM → Prop), xW xSR 182 111 [.ref a0, .int a1, .int a2, .int a3, .int a4] (st) M Q = xW xSR 182 112 [.ref a0, .int a1, .int a2, .int a3, .int a4] (.int a1 :: st) M Q) ∧
  (∀ (a0 : Nat) (a1 : Int32) (a2 : Int32) (a3 : Int32) (a4 : Int32) (y0 : Int32) (y1 : Int32) (st : List Value) (M : xM) (Q : Option Value → xM → Prop), xW xSR 182 112 [.ref a0, .int a1, .int a2, .int a3, .int a4] (.int y0 :: .int y1 :: st) M Q = xW xSR 182 113 [.ref a0, .int a1, .int a2, .int a3, .int a4] (.int (y1 * y0) :: st) M Q) ∧
  (∀ (a0 : Nat) (a1 : Int32) (a2 : Int32) (a3 : Int32) (a4 : Int32) (y0 : Int32) (y1 : Int32) (st : List Value) (M : xM) (Q : Option Value → xM → Prop), xW xSR 182 113 [.ref a0, .int a1, .int a2, .int a3, .int a4] (.int y0 :: .int y1 :: st) M Q = xW xSR 182 114 [.ref a0, .int a1, .int a2, .int a3, .int a4] (.int (y1 + y0) :: st) M Q) ∧
  (∀ (a0 : Nat) (a1 : Int32) (a2 : Int32) (a3 : Int32) (a4 : Int32) (st : List Value) (M : xM) (Q : Option Value → xM → Prop), xW xSR 182 114 [.ref a0, .int a1, .int a2, .int a3, .int a4] (st) M Q = xW xSR 182 115 [.ref a0, .int a1, .int a2, .int a3, .int a4] (.int (nI 1) :: st) M Q) ∧
  (∀ (a0 : Nat) (a1 : Int32) (a2 : Int32) (a3 : Int32) (a4 : Int32) (y0 : Int32) (y1 : Int32) (st : List Value) (M : xM) (Q : Option Value → xM → Prop), xW xSR 182 115 [.ref a0, .int a1, .int a2, .int a3, .int a4] (.int y0 :: .int y1 :: st) M Q = xW xSR 182 116 [.ref a0, .int a1, .int a2, .int a3, .int a4] (.int (y1 + y0) :: st) M Q) ∧
  (∀ (a0 : Nat) (a1 : Int32) (a2 : Int32) (a3 : Int32) (a4 : Int32) (y0 : Nat) (st : List Value) (M : xM) (Q : Option Value → xM → Prop), y0 < 156 → xW xSR 182 116 [.ref a0, .int a1, .int a2, .int a3, .int a4] (.int (nI y0) :: .ref 1 :: st) M Q = xW xSR 182 117 [.ref a0, .int a1, .int a2, .int a3, .int a4] (.int (M 1 y0) :: st) M Q) ∧
  (∀ (a0 : Nat) (a1 : Int32) (a2 : Int32) (a3 : Int32) (a4 : Int32) (st : List Value) (M : xM) (Q : Option Value → xM → Prop), xW xSR 182 117 [.ref a0, .int a1, .int a2, .int a3, .int a4] (st) M Q = xW xSR 182 118 [.ref a0, .int a1, .int a2, .int a3, .int a4] (.int (nI 1) :: st) M Q) ∧
  (∀ (a0 : Nat) (a1 : Int32) (a2 : Int32) (a3 : Int32) (a4 : Int32) (y0 : Int32) (y1 : Int32) (st : List Value) (M : xM) (Q : Option Value → xM → Prop), xW xSR 182 118 [.ref a0, .int a1, .int a2, .int a3, .int a4] (.int y0 :: .int y1 :: st) M Q = if y1 = y0 then xW xSR 182 121 [.ref a0, .int a1, .int a2, .int a3, .int a4] (st) M Q else xW xSR 182 125 [.ref a0, .int a1, .int a2, .int a3, .int a4] (st) M Q) ∧
  (∀ (a0 : Nat) (a1 : Int32) (a2 : Int32) (a3 : Int32) (a4 : Int32) (st : List Value) (M : xM) (Q : Option Value → xM → Prop), xW xSR 182 121 [.ref a0, .int a1, .int a2, .int a3, .int a4] (st) M Q = xW xSR 182 122 [.ref a0, .int a1, .int a2, .int a3, .int a4] (.int (nI 1) :: st) M Q) ∧
  (∀ (a0 : Nat) (a1 : Int32) (a2 : Int32) (a3 : Int32) (a4 : Int32) (st : List Value) (M : xM) (Q : Option Value → xM → Prop), xW xSR 182 122 [.ref a0, .int a1, .int a2, .int a3, .int a4] (st) M Q = xW xSR 182 126 [.ref a0, .int a1, .int a2, .int a3, .int a4] (st) M Q) ∧
  (∀ (a0 : Nat) (a1 : Int32) (a2 : Int32) (a3 : Int32) (a4 : Int32) (st : List Value) (M : xM) (Q : Option Value → xM → Prop), xW xSR 182 125 [.ref a0, .int a1, .int a2, .int a3, .int a4] (st) M Q = xW xSR 182 126 [.ref a0, .int a1, .int a2, .int a3, .int a4] (.int (nI 0) :: st) M Q) ∧
  (∀ (a0 : Nat) (a1 : Int32) (a2 : Int32) (a3 : Int32) (a4 : Int32) (y0 : Int32) (y1 : Int32) (st : List Value) (M : xM) (Q : Option Value → xM → Prop), xW xSR 182 129 [.ref a0, .int a1, .int a2, .int a3, .int a4] (.int y0 :: .int y1 :: st) M Q = xW xSR 182 130 [.ref a0, .int a1, .int a2, .int a3, .int a4] (.int (y1 + y0) :: st) M Q) ∧
  (∀ (a0 : Nat) (a1 : Int32) (a2 : Int32) (a3 : Int32) (a4 : Int32) (y0 : Int32) (st : List Value) (M : xM) (Q : Option Value → xM → Prop), xW xSR 182 130 [.ref a0, .int a1, .int a2, .int a3, .int a4] (.int y0 :: st) M Q = xW xSR 182 131 [.ref a0, .int a1, .int y0, .int a3, .int a4] (st) M Q) ∧
  (∀ (a0 : Nat) (a1 : Int32) (a2 : Int32) (a3 : Int32) (a4 : Int32) (st : List Value) (M : xM) (Q : Option Value → xM → Prop), xW xSR 182 131 [.ref a0, .int a1, .int a2, .int a3, .int a4] (st) M Q = xW xSR 182 132 [.ref a0, .int a1, .int a2, .int a3, .int a4] (.ref a0 :: st) M Q) ∧
  (∀ (a0 : Nat) (a1 : Int32) (a2 : Int32) (a3 : Int32) (a4 : Int32) (st : List Value) (M : xM) (Q : Option Value → xM → Prop), xW xSR 182 132 [.ref a0, .int a1, .int a2, .int a3, .int a4] (st) M Q = xW xSR 182 133 [.ref a0, .int a1, .int a2, .int a3, .int a4] (.int a1 :: st) M Q) ∧
  (∀ (a0 : Nat) (a1 : Int32) (a2 : Int32) (a3 : Int32) (a4 : Int32) (st : List Value) (M : xM) (Q : Option Value → xM → Prop), xW xSR 182 133 [.ref a0, .int a1, .int a2, .int a3, .int a4] (st) M Q = xW xSR 182 134 [.ref a0, .int a1, .int a2, .int a3, .int a4] (.ref a0 :: st) M Q) ∧
  (∀ (a0 : Nat) (a1 : Int32) (a2 : Int32) (a3 : Int32) (a4 : Int32) (st : List Value) (M : xM) (Q : Option Value → xM → Prop), xW xSR 182 134 [.ref a0, .int a1, .int a2, .int a3, .int a4] (.ref 0 :: st) M Q = xW xSR 182 137 [.ref a0, .int a1, .int a2, .int a3, .int a4] (.ref 7 :: st) M Q) ∧
  (∀ (a0 : Nat) (a1 : Int32) (a2 : Int32) (a3 : Int32) (a4 : Int32) (st : List Value) (M : xM) (Q : Option Value → xM → Prop), xW xSR 182 137 [.ref a0, .int a1, .int a2, .int a3, .int a4] (st) M Q = xW xSR 182 138 [.ref a0, .int a1, .int a2, .int a3, .int a4] (.int a3 :: st) M Q) ∧
  (∀ (a0 : Nat) (a1 : Int32) (a2 : Int32) (a3 : Int32) (a4 : Int32) (y0 : Nat) (st : List Value) (M : xM) (Q : Option Value → xM → Prop), y0 < 12 → xW xSR 182 138 [.ref a0, .int a1, .int a2, .int a3, .int a4] (.int (nI y0) :: .ref 7 :: st) M Q = xW xSR 182 139 [.ref a0, .int a1, .int a2, .int a3, .int a4] (.int (M 7 y0) :: st) M Q) ∧
  (∀ (a0 : Nat) (a1 : Int32) (a2 : Int32) (a3 : Int32) (a4 : Int32) (st : List Value) (M : xM) (Q : Option Value → xM → Prop), xW xSR 182 139 [.ref a0, .int a1, .int a2, .int a3, .int a4] (st) M Q = xW xSR 182 141 [.ref a0, .int a1, .int a2, .int a3, .int a4] (.int a4 :: st) M Q) ∧
  (∀ (a0 : Nat) (a1 : Int32) (a2 : Int32) (a3 : Int32) (a4 : Int32) (y0 : Int32) (y1 : Int32) (y2 : Int32) (M : xM) (Q : Option Value → xM → Prop), xW xSR 182 141 [.ref a0, .int a1, .int a2, .int a3, .int a4] (.int y0 :: .int y1 :: .int y2 :: .ref 0 :: []) M Q = xW xSR 173 0 [.ref 0, .int y2, .int y1, .int y0, .null, .null] [] M (fun v M' => xW xSR 182 144 [.ref a0, .int a1, .int a2, .int a3, .int a4] (xpush v []) M' Q)) ∧
  (∀ (a0 : Nat) (a1 : Int32) (a2 : Int32) (a3 : Int32) (a4 : Int32) (st : List Value) (M : xM) (Q : Option Value → xM → Prop), xW xSR 182 147 [.ref a0, .int a1, .int a2, .int a3, .int a4] (st) M Q = xW xSR 182 18 [.ref a0, .int a1, .int a2, .int a3, .int a4] (st) M Q) ∧
  (∀ (a0 : Nat) (a1 : Int32) (a2 : Int32) (a3 : Int32) (a4 : Value) (M : xM) (Q : Option Value → xM → Prop), xW xSR 182 151 [.ref a0, .int a1, .int a2, .int a3, a4] (.ref 0 :: []) M Q = xW xSR 181 0 [.ref 0, .null] [] M (fun v M' => xW xSR 182 154 [.ref a0, .int a1, .int a2, .int a3, a4] (xpush v []) M' Q)) ∧
  (∀ (a0 : Nat) (a1 : Int32) (a2 : Int32) (a3 : Int32) (a4 : Value) (st : List Value) (M : xM) (Q : Option Value → xM → Prop), xW xSR 182 154 [.ref a0, .int a1, .int a2, .int a3, a4] (st) M Q = xW xSR 182 155 [.ref a0, .int a1, .int a2, .int a3, a4] (.int a2 :: st) M Q) ∧
  (∀ (a0 : Nat) (a1 : Int32) (a2 : Int32) (a3 : Int32) (a4 : Value) (y0 : Int32) (M : xM) (Q : Option Value → xM → Prop), xW xSR 182 155 [.ref a0, .int a1, .int a2, .int a3, a4] ([.int y0]) M Q = Q (some (.int y0)) M) :=
  ⟨fun a0 a1 a2 a3 a4 st M Q => xw_s rfl rfl,
  fun a0 a1 a2 a3 a4 st M Q => xw_s rfl rfl,
  fun a0 a1 a2 a3 a4 y0 M Q => xw_call rfl rfl rfl,
  fun a0 a1 a2 a3 a4 y0 st M Q => xw_brn (c0 := y0 ≠ nI 0) (c1 := y0 = nI 0) rfl rfl (Iff.rfl),
  fun a0 a1 a2 a3 a4 st M Q => xw_s rfl rfl,
  fun a0 a1 a2 a3 a4 y0 M Q => xw_ret rfl rfl,
  fun a0 a1 a2 a3 a4 st M Q => xw_s rfl rfl,
  fun a0 a1 a2 a3 a4 M Q => xw_call rfl rfl rfl,
  fun a0 a1 a2 a3 a4 st M Q => xw_s rfl rfl,
  fun a0 a1 a2 a3 a4 y0 st M Q => xw_s rfl rfl,
  fun a0 a1 a2 a3 a4 st M Q => xw_s rfl rfl,
  fun a0 a1 a2 a3 a4 y0 st M Q => xw_s rfl rfl,
  fun a0 a1 a2 a3 a4 st M Q => xw_s rfl rfl,
  fun a0 a1 a2 a3 a4 st M Q => xw_s rfl rfl,
  fun a0 a1 a2 a3 a4 y0 y1 st M Q => xw_brn (c0 := y0 ≤ y1) (c1 := y1 < y0) rfl rfl (xge _ _),
  fun a0 a1 a2 a3 a4 st M Q => xw_s rfl rfl,
  fun a0 a1 a2 a3 a4 y0 st M Q => xw_br (c0 := y0 < nI 0) rfl rfl,
  fun a0 a1 a2 a3 a4 st M Q => xw_s rfl rfl,
  fun a0 a1 a2 a3 a4 st M Q => xw_s rfl rfl,
  fun a0 a1 a2 a3 a4 st M Q => xw_s rfl rfl,
  fun a0 a1 a2 a3 a4 st M Q => xw_s rfl rfl,
  fun a0 a1 a2 a3 a4 y0 st M Q h0 => xw_ald rfl rfl rfl (by decide) h0,
  fun a0 a1 a2 a3 a4 st M Q => xw_s rfl rfl,
  fun a0 a1 a2 a3 a4 st M Q => xw_s rfl rfl,
  fun a0 a1 a2 a3 a4 st M Q => xw_s rfl rfl,
  fun a0 a1 a2 a3 a4 st M Q => xw_s rfl rfl,
  fun a0 a1 a2 a3 a4 st M Q => xw_s rfl rfl,
  fun a0 a1 a2 a3 a4 y0 y1 st M Q => xw_s rfl rfl,
  fun a0 a1 a2 a3 a4 y0 y1 st M Q => xw_s rfl rfl,
  fun a0 a1 a2 a3 a4 y0 st M Q h0 => xw_ald rfl rfl rfl (by decide) h0,
  fun a0 a1 a2 a3 a4 y0 y1 M Q => xw_call rfl rfl rfl,
  fun a0 a1 a2 a3 a4 y0 st M Q => xw_s rfl rfl,
  fun a0 a1 a2 a3 a4 st M Q => xw_s rfl rfl,
  fun a0 a1 a2 a3 a4 y0 st M Q => xw_br (c0 := y0 < nI 0) rfl rfl,
  fun a0 a1 a2 a3 a4 st M Q => xw_s rfl rfl,
  fun a0 a1 a2 a3 a4 st M Q => xw_s rfl rfl,
  fun a0 a1 a2 a3 a4 st M Q => xw_s rfl rfl,
  fun a0 a1 a2 a3 a4 st M Q => xw_s rfl rfl,
  fun a0 a1 a2 a3 a4 st M Q => xw_s rfl rfl,
  fun a0 a1 a2 a3 a4 y0 st M Q h0 => xw_ald rfl rfl rfl (by decide) h0,
  fun a0 a1 a2 a3 a4 st M Q => xw_s rfl rfl,
  fun a0 a1 a2 a3 a4 y0 y1 y2 M Q => xw_call rfl rfl rfl,
  fun a0 a1 a2 a3 a4 y0 st M Q => xw_brn (c0 := y0 ≠ nI 0) (c1 := y0 = nI 0) rfl rfl (Iff.rfl),
  fun a0 a1 a2 a3 a4 y0 st M Q => xw_s rfl rfl,
  fun a0 a1 a2 a3 a4 st M Q => xw_s rfl rfl,
  fun a0 a1 a2 a3 a4 st M Q => xw_s rfl rfl,
  fun a0 a1 a2 a3 a4 st M Q => xw_s rfl rfl,
  fun a0 a1 a2 a3 a4 st M Q => xw_s rfl rfl,
  fun a0 a1 a2 a3 a4 st M Q => xw_s rfl rfl,
  fun a0 a1 a2 a3 a4 st M Q => xw_s rfl rfl,
  fun a0 a1 a2 a3 a4 st M Q => xw_s rfl rfl,
  fun a0 a1 a2 a3 a4 y0 st M Q h0 => xw_ald rfl rfl rfl (by decide) h0,
  fun a0 a1 a2 a3 a4 st M Q => xw_s rfl rfl,
  fun a0 a1 a2 a3 a4 st M Q => xw_s rfl rfl,
  fun a0 a1 a2 a3 a4 st M Q => xw_s rfl rfl,
  fun a0 a1 a2 a3 a4 st M Q => xw_s rfl rfl,
  fun a0 a1 a2 a3 a4 st M Q => xw_s rfl rfl,
  fun a0 a1 a2 a3 a4 st M Q => xw_s rfl rfl,
  fun a0 a1 a2 a3 a4 y0 y1 st M Q => xw_s rfl rfl,
  fun a0 a1 a2 a3 a4 y0 y1 st M Q => xw_s rfl rfl,
  fun a0 a1 a2 a3 a4 st M Q => xw_s rfl rfl,
  fun a0 a1 a2 a3 a4 y0 y1 st M Q => xw_s rfl rfl,
  fun a0 a1 a2 a3 a4 y0 st M Q h0 => xw_ald rfl rfl rfl (by decide) h0,
  fun a0 a1 a2 a3 a4 st M Q => xw_s rfl rfl,
  fun a0 a1 a2 a3 a4 st M Q => xw_s rfl rfl,
  fun a0 a1 a2 a3 a4 st M Q => xw_s rfl rfl,
  fun a0 a1 a2 a3 a4 st M Q => xw_s rfl rfl,
  fun a0 a1 a2 a3 a4 st M Q => xw_s rfl rfl,
  fun a0 a1 a2 a3 a4 y0 y1 st M Q => xw_s rfl rfl,
  fun a0 a1 a2 a3 a4 y0 y1 st M Q => xw_s rfl rfl,
  fun a0 a1 a2 a3 a4 st M Q => xw_s rfl rfl,
  fun a0 a1 a2 a3 a4 y0 y1 st M Q => xw_s rfl rfl,
  fun a0 a1 a2 a3 a4 y0 st M Q h0 => xw_ald rfl rfl rfl (by decide) h0,
  fun a0 a1 a2 a3 a4 st M Q => xw_s rfl rfl,
  fun a0 a1 a2 a3 a4 y0 y1 st M Q => xw_brn (c0 := y1 ≠ y0) (c1 := y1 = y0) rfl rfl (Iff.rfl),
  fun a0 a1 a2 a3 a4 st M Q => xw_s rfl rfl,
  fun a0 a1 a2 a3 a4 st M Q => xw_s rfl rfl,
  fun a0 a1 a2 a3 a4 st M Q => xw_s rfl rfl,
  fun a0 a1 a2 a3 a4 y0 y1 st M Q => xw_s rfl rfl,
  fun a0 a1 a2 a3 a4 y0 st M Q => xw_s rfl rfl,
  fun a0 a1 a2 a3 a4 st M Q => xw_s rfl rfl,
  fun a0 a1 a2 a3 a4 st M Q => xw_s rfl rfl,
  fun a0 a1 a2 a3 a4 st M Q => xw_s rfl rfl,
  fun a0 a1 a2 a3 a4 st M Q => xw_s rfl rfl,
  fun a0 a1 a2 a3 a4 st M Q => xw_s rfl rfl,
  fun a0 a1 a2 a3 a4 y0 st M Q h0 => xw_ald rfl rfl rfl (by decide) h0,
  fun a0 a1 a2 a3 a4 st M Q => xw_s rfl rfl,
  fun a0 a1 a2 a3 a4 y0 y1 y2 M Q => xw_call rfl rfl rfl,
  fun a0 a1 a2 a3 a4 st M Q => xw_s rfl rfl,
  fun a0 a1 a2 a3 a4 M Q => xw_call rfl rfl rfl,
  fun a0 a1 a2 a3 a4 st M Q => xw_s rfl rfl,
  fun a0 a1 a2 a3 a4 y0 M Q => xw_ret rfl rfl⟩
set_option maxRecDepth 20000 in
theorem h182_18 :
  (∀ (a0 : Nat) (a1 : Int32) (a2 : Int32) (a3 : Int32) (a4 : Value) (st : List Value) (M : xM) (Q : Option Value → xM → Prop), xW xSR 182 18 [.ref a0, .int a1, .int a2, .int a3, a4] (st) M Q = xW xSR 182 19 [.ref a0, .int a1, .int a2, .int a3, a4] (.int a3 :: st) M Q) :=
  fun a0 a1 a2 a3 a4 st M Q => xw_s rfl rfl
set_option maxRecDepth 20000 in
theorem h182_74 :
  (∀ (a0 : Nat) (a1 : Int32) (a2 : Int32) (a3 : Int32) (a4 : Int32) (st : List Value) (M : xM) (Q : Option Value → xM → Prop), xW xSR 182 74 [.ref a0, .int a1, .int a2, .int a3, .int a4] (st) M Q = xW xSR 182 76 [.ref a0, .int a1, .int a2, .int a3, .int a4] (.int (-4) :: st) M Q) :=
  fun a0 a1 a2 a3 a4 st M Q => xw_s rfl rfl
set_option maxRecDepth 20000 in
theorem h182_126 :
  (∀ (a0 : Nat) (a1 : Int32) (a2 : Int32) (a3 : Int32) (a4 : Int32) (y0 : Int32) (y1 : Int32) (y2 : Int32) (y3 : Int32) (y4 : Int32) (y6 : Int32) (M : xM) (Q : Option Value → xM → Prop), xW xSR 182 126 [.ref a0, .int a1, .int a2, .int a3, .int a4] (.int y0 :: .int y1 :: .int y2 :: .int y3 :: .int y4 :: .ref 0 :: .int y6 :: []) M Q = xW xSR 169 0 [.ref 0, .int y4, .int y3, .int y2, .int y1, .int y0] [] M (fun v M' => xW xSR 182 129 [.ref a0, .int a1, .int a2, .int a3, .int a4] (xpush v [.int y6]) M' Q)) :=
  fun a0 a1 a2 a3 a4 y0 y1 y2 y3 y4 y6 M Q => xw_call rfl rfl rfl
set_option maxRecDepth 20000 in
theorem h182_144 :
  (∀ (a0 : Nat) (a1 : Int32) (a2 : Int32) (a3 : Int32) (a4 : Int32) (st : List Value) (M : xM) (Q : Option Value → xM → Prop), xW xSR 182 144 [.ref a0, .int a1, .int a2, .int a3, .int a4] (st) M Q = xW xSR 182 147 [.ref a0, .int a1, .int a2, .int (a3 + nI 1), .int a4] (st) M Q) :=
  fun a0 a1 a2 a3 a4 st M Q => xw_s rfl rfl
set_option maxRecDepth 20000 in
theorem h182_150 :
  (∀ (a0 : Nat) (a1 : Int32) (a2 : Int32) (a3 : Int32) (a4 : Value) (st : List Value) (M : xM) (Q : Option Value → xM → Prop), xW xSR 182 150 [.ref a0, .int a1, .int a2, .int a3, a4] (st) M Q = xW xSR 182 151 [.ref a0, .int a1, .int a2, .int a3, a4] (.ref a0 :: st) M Q) :=
  fun a0 a1 a2 a3 a4 st M Q => xw_s rfl rfl
set_option maxRecDepth 20000 in
theorem j182 :
  (∀ (a0 : Nat) (a1 : Int32) (a2 : Int32) (a3 : Int32) (a4 : Int32) (st : List Value) (M : xM) (Q : Option Value → xM → Prop), xW xSR 182 74 [.ref a0, .int a1, .int a2, .int a3, .int a4] (st) M Q = xW xSR 182 76 [.ref a0, .int a1, .int a2, .int a3, .int a4] (.int (-4) :: st) M Q) ∧
  (∀ (a0 : Nat) (a1 : Int32) (a2 : Int32) (a3 : Int32) (a4 : Int32) (y0 : Int32) (y1 : Int32) (y2 : Int32) (y3 : Int32) (y4 : Int32) (y6 : Int32) (M : xM) (Q : Option Value → xM → Prop), xW xSR 182 126 [.ref a0, .int a1, .int a2, .int a3, .int a4] (.int y0 :: .int y1 :: .int y2 :: .int y3 :: .int y4 :: .ref 0 :: .int y6 :: []) M Q = xW xSR 169 0 [.ref 0, .int y4, .int y3, .int y2, .int y1, .int y0] [] M (fun v M' => xW xSR 182 129 [.ref a0, .int a1, .int a2, .int a3, .int a4] (xpush v [.int y6]) M' Q)) ∧
  (∀ (a0 : Nat) (a1 : Int32) (a2 : Int32) (a3 : Int32) (a4 : Int32) (st : List Value) (M : xM) (Q : Option Value → xM → Prop), xW xSR 182 144 [.ref a0, .int a1, .int a2, .int a3, .int a4] (st) M Q = xW xSR 182 147 [.ref a0, .int a1, .int a2, .int (a3 + nI 1), .int a4] (st) M Q) ∧
  (∀ (a0 : Nat) (a1 : Int32) (a2 : Int32) (a3 : Int32) (a4 : Value) (st : List Value) (M : xM) (Q : Option Value → xM → Prop), xW xSR 182 150 [.ref a0, .int a1, .int a2, .int a3, a4] (st) M Q = xW xSR 182 151 [.ref a0, .int a1, .int a2, .int a3, a4] (.ref a0 :: st) M Q) :=
  ⟨fun a0 a1 a2 a3 a4 st M Q => xw_s rfl rfl,
  fun a0 a1 a2 a3 a4 y0 y1 y2 y3 y4 y6 M Q => xw_call rfl rfl rfl,
  fun a0 a1 a2 a3 a4 st M Q => xw_s rfl rfl,
  fun a0 a1 a2 a3 a4 st M Q => xw_s rfl rfl⟩

set_option maxRecDepth 20000 in
theorem s183 :
  (∀ (a0 : Nat) (a1 : Int32) (a2 : Int32) (a3 : Int32) (a4 : Int32) (a5 : Value) (a6 : Value) (st : List Value) (M : xM) (Q : Option Value → xM → Prop), xW xSR 183 0 [.ref a0, .int a1, .int a2, .int a3, .int a4, a5, a6] (st) M Q = xW xSR 183 1 [.ref a0, .int a1, .int a2, .int a3, .int a4, a5, a6] (.ref a0 :: st) M Q) ∧
  (∀ (a0 : Nat) (a1 : Int32) (a2 : Int32) (a3 : Int32) (a4 : Int32) (a5 : Value) (a6 : Value) (st : List Value) (M : xM) (Q : Option Value → xM → Prop), xW xSR 183 1 [.ref a0, .int a1, .int a2, .int a3, .int a4, a5, a6] (st) M Q = xW xSR 183 2 [.ref a0, .int a1, .int a2, .int a3, .int a4, a5, a6] (.int a2 :: st) M Q) ∧
  (∀ (a0 : Nat) (a1 : Int32) (a2 : Int32) (a3 : Int32) (a4 : Int32) (a5 : Value) (a6 : Value) (st : List Value) (M : xM) (Q : Option Value → xM → Prop), xW xSR 183 2 [.ref a0, .int a1, .int a2, .int a3, .int a4, a5, a6] (st) M Q = xW xSR 183 3 [.ref a0, .int a1, .int a2, .int a3, .int a4, a5, a6] (.int a3 :: st) M Q) ∧
  (∀ (a0 : Nat) (a1 : Int32) (a2 : Int32) (a3 : Int32) (a4 : Int32) (a5 : Value) (a6 : Value) (y0 : Int32) (y1 : Int32) (M : xM) (Q : Option Value → xM → Prop), xW xSR 183 3 [.ref a0, .int a1, .int a2, .int a3, .int a4, a5, a6] (.int y0 :: .int y1 :: .ref 0 :: []) M Q = xW xSR 171 0 [.ref 0, .int y1, .int y0] [] M (fun v M' => xW xSR 183 6 [.ref a0, .int a1, .int a2, .int a3, .int a4, a5, a6] (xpush v []) M' Q)) ∧
  (∀ (a0 : Nat) (a1 : Int32) (a2 : Int32) (a3 : Int32) (a4 : Int32) (a5 : Value) (a6 : Value) (y0 : Int32) (st : List Value) (M : xM) (Q : Option Value → xM → Prop), xW xSR 183 6 [.ref a0, .int a1, .int a2, .int a3, .int a4, a5, a6] (.int y0 :: st) M Q = xW xSR 183 8 [.ref a0, .int a1, .int a2, .int a3, .int a4, .int y0, a6] (st) M Q) ∧
  (∀ (a0 : Nat) (a1 : Int32) (a2 : Int32) (a3 : Int32) (a4 : Int32) (a5 : Int32) (a6 : Value) (st : List Value) (M : xM) (Q : Option Value → xM → Prop), xW xSR 183 8 [.ref a0, .int a1, .int a2, .int a3, .int a4, .int a5, a6] (st) M Q = xW xSR 183 10 [.ref a0, .int a1, .int a2, .int a3, .int a4, .int a5, a6] (.int a5 :: st) M Q) ∧
  (∀ (a0 : Nat) (a1 : Int32) (a2 : Int32) (a3 : Int32) (a4 : Int32) (a5 : Int32) (a6 : Value) (y0 : Int32) (st : List Value) (M : xM) (Q : Option Value → xM → Prop), xW xSR 183 10 [.ref a0, .int a1, .int a2, .int a3, .int a4, .int a5, a6] (.int y0 :: st) M Q = if y0 < nI 0 then xW xSR 183 24 [.ref a0, .int a1, .int a2, .int a3, .int a4, .int a5, a6] (st) M Q else xW xSR 183 13 [.ref a0, .int a1, .int a2, .int a3, .int a4, .int a5, a6] (st) M Q) ∧
  (∀ (a0 : Nat) (a1 : Int32) (a2 : Int32) (a3 : Int32) (a4 : Int32) (a5 : Int32) (a6 : Value) (st : List Value) (M : xM) (Q : Option Value → xM → Prop), xW xSR 183 13 [.ref a0, .int a1, .int a2, .int a3, .int a4, .int a5, a6] (st) M Q = xW xSR 183 14 [.ref a0, .int a1, .int a2, .int a3, .int a4, .int a5, a6] (.ref a0 :: st) M Q) ∧
  (∀ (a0 : Nat) (a1 : Int32) (a2 : Int32) (a3 : Int32) (a4 : Int32) (a5 : Int32) (a6 : Value) (st : List Value) (M : xM) (Q : Option Value → xM → Prop), xW xSR 183 14 [.ref a0, .int a1, .int a2, .int a3, .int a4, .int a5, a6] (st) M Q = xW xSR 183 15 [.ref a0, .int a1, .int a2, .int a3, .int a4, .int a5, a6] (.int a1 :: st) M Q) ∧
  (∀ (a0 : Nat) (a1 : Int32) (a2 : Int32) (a3 : Int32) (a4 : Int32) (a5 : Int32) (a6 : Value) (st : List Value) (M : xM) (Q : Option Value → xM → Prop), xW xSR 183 15 [.ref a0, .int a1, .int a2, .int a3, .int a4, .int a5, a6] (st) M Q = xW xSR 183 16 [.ref a0, .int a1, .int a2, .int a3, .int a4, .int a5, a6] (.int a2 :: st) M Q) ∧
  (∀ (a0 : Nat) (a1 : Int32) (a2 : Int32) (a3 : Int32) (a4 : Int32) (a5 : Int32) (a6 : Value) (st : List Value) (M : xM) (Q : Option Value → xM → Prop), xW xSR 183 16 [.ref a0, .int a1, .int a2, .int a3, .int a4, .int a5, a6] (st) M Q = xW xSR 183 18 [.ref a0, .int a1, .int a2, .int a3, .int a4, .int a5, a6] (.int a5 :: st) M Q) ∧
  (∀ (a0 : Nat) (a1 : Int32) (a2 : Int32) (a3 : Int32) (a4 : Int32) (a5 : Int32) (a6 : Value) (y0 : Int32) (y1 : Int32) (y2 : Int32) (M : xM) (Q : Option Value → xM → Prop), xW xSR 183 18 [.ref a0, .int a1, .int a2, .int a3, .int a4, .int a5, a6] (.int y0 :: .int y1 :: .int y2 :: .ref 0 :: []) M Q = xW xSR 168 0 [.ref 0, .int y2, .int y1, .int y0] [] M (fun v M' => xW xSR 183 21 [.ref a0, .int a1, .int a2, .int a3, .int a4, .int a5, a6] (xpush v []) M' Q)) ∧
  (∀ (a0 : Nat) (a1 : Int32) (a2 : Int32) (a3 : Int32) (a4 : Int32) (a5 : Int32) (a6 : Value) (y0 : Int32) (st : List Value) (M : xM) (Q : Option Value → xM → Prop), xW xSR 183 21 [.ref a0, .int a1, .int a2, .int a3, .int a4, .int a5, a6] (.int y0 :: st) M Q = if y0 = nI 0 then xW xSR 183 24 [.ref a0, .int a1, .int a2, .int a3, .int a4, .int a5, a6] (st) M Q else xW xSR 183 26 [.ref a0, .int a1, .int a2, .int a3, .int a4, .int a5, a6] (st) M Q) ∧
  (∀ (a0 : Nat) (a1 : Int32) (a2 : Int32) (a3 : Int32) (a4 : Int32) (a5 : Int32) (a6 : Value) (y0 : Int32) (M : xM) (Q : Option Value → xM → Prop), xW xSR 183 25 [.ref a0, .int a1, .int a2, .int a3, .int a4, .int a5, a6] ([.int y0]) M Q = Q (some (.int y0)) M) ∧
  (∀ (a0 : Nat) (a1 : Int32) (a2 : Int32) (a3 : Int32) (a4 : Int32) (a5 : Int32) (a6 : Value) (st : List Value) (M : xM) (Q : Option Value → xM → Prop), xW xSR 183 26 [.ref a0, .int a1, .int a2, .int a3, .int a4, .int a5, a6] (st) M Q = xW xSR 183 27 [.ref a0, .int a1, .int a2, .int a3, .int a4, .int a5, a6] (.ref a0 :: st) M Q) ∧
  (∀ (a0 : Nat) (a1 : Int32) (a2 : Int32) (a3 : Int32) (a4 : Int32) (a5 : Int32) (a6 : Value) (st : List Value) (M : xM) (Q : Option Value → xM → Prop), xW xSR 183 27 [.ref a0, .int a1, .int a2, .int a3, .int a4, .int a5, a6] (.ref 0 :: st) M Q = xW xSR 183 30 [.ref a0, .int a1, .int a2, .int a3, .int a4, .int a5, a6] (.ref 9 :: st) M Q) ∧
  (∀ (a0 : Nat) (a1 : Int32) (a2 : Int32) (a3 : Int32) (a4 : Int32) (a5 : Int32) (a6 : Value) (st : List Value) (M : xM) (Q : Option Value → xM → Prop), xW xSR 183 30 [.ref a0, .int a1, .int a2, .int a3, .int a4, .int a5, a6] (st) M Q = xW xSR 183 31 [.ref a0, .int a1, .int a2, .int a3, .int a4, .int a5, a6] (.int (nI 4) :: st) M Q) ∧
  (∀ (a0 : Nat) (a1 : Int32) (a2 : Int32) (a3 : Int32) (a4 : Int32) (a5 : Int32) (a6 : Value) (st : List Value) (M : xM) (Q : Option Value → xM → Prop), xW xSR 183 31 [.ref a0, .int a1, .int a2, .int a3, .int a4, .int a5, a6] (st) M Q = xW xSR 183 32 [.ref a0, .int a1, .int a2, .int a3, .int a4, .int a5, a6] (.ref a0 :: st) M Q) ∧
  (∀ (a0 : Nat) (a1 : Int32) (a2 : Int32) (a3 : Int32) (a4 : Int32) (a5 : Int32) (a6 : Value) (st : List Value) (M : xM) (Q : Option Value → xM → Prop), xW xSR 183 32 [.ref a0, .int a1, .int a2, .int a3, .int a4, .int a5, a6] (.ref 0 :: st) M Q = xW xSR 183 35 [.ref a0, .int a1, .int a2, .int a3, .int a4, .int a5, a6] (.ref 1 :: st) M Q) ∧
  (∀ (a0 : Nat) (a1 : Int32) (a2 : Int32) (a3 : Int32) (a4 : Int32) (a5 : Int32) (a6 : Value) (st : List Value) (M : xM) (Q : Option Value → xM → Prop), xW xSR 183 35 [.ref a0, .int a1, .int a2, .int a3, .int a4, .int a5, a6] (st) M Q = xW xSR 183 36 [.ref a0, .int a1, .int a2, .int a3, .int a4, .int a5, a6] (.int (nI 3) :: st) M Q) ∧
  (∀ (a0 : Nat) (a1 : Int32) (a2 : Int32) (a3 : Int32) (a4 : Int32) (a5 : Int32) (a6 : Value) (st : List Value) (M : xM) (Q : Option Value → xM → Prop), xW xSR 183 36 [.ref a0, .int a1, .int a2, .int a3, .int a4, .int a5, a6] (st) M Q = xW xSR 183 38 [.ref a0, .int a1, .int a2, .int a3, .int a4, .int a5, a6] (.int (nI 6) :: st) M Q) ∧
  (∀ (a0 : Nat) (a1 : Int32) (a2 : Int32) (a3 : Int32) (a4 : Int32) (a5 : Int32) (a6 : Value) (st : List Value) (M : xM) (Q : Option Value → xM → Prop), xW xSR 183 38 [.ref a0, .int a1, .int a2, .int a3, .int a4, .int a5, a6] (st) M Q = xW xSR 183 39 [.ref a0, .int a1, .int a2, .int a3, .int a4, .int a5, a6] (.int a2 :: st) M Q) ∧
  (∀ (a0 : Nat) (a1 : Int32) (a2 : Int32) (a3 : Int32) (a4 : Int32) (a5 : Int32) (a6 : Value) (y0 : Int32) (y1 : Int32) (st : List Value) (M : xM) (Q : Option Value → xM → Prop), xW xSR 183 39 [.ref a0, .int a1, .int a2, .int a3, .int a4, .int a5, a6] (.int y0 :: .int y1 :: st) M Q = xW xSR 183 40 [.ref a0, .int a1, .int a2, .int a3, .int a4, .int a5, a6] (.int (y1 * y0) :: st) M Q) ∧
  (∀ (a0 : Nat) (a1 : Int32) (a2 : Int32) (a3 : Int32) (a4 : Int32) (a5 : Int32) (a6 : Value) (y0 : Int32) (y1 : Int32) (st : List Value) (M : xM) (Q : Option Value → xM → Prop), xW xSR 183 40 [.ref a0, .int a1, .int a2, .int a3, .int a4, .int a5, a6] (.int y0 :: .int y1 :: st) M Q = xW xSR 183 41 [.ref a0, .int a1, .int a2, .int a3, .int a4, .int a5, a6] (.int (y1 + y0) :: st) M Q) ∧
  (∀ (a0 : Nat) (a1 : Int32) (a2 : Int32) (a3 : Int32) (a4 : Int32) (a5 : Int32) (a6 : Value) (st : List Value) (M : xM) (Q : Option Value → xM → Prop), xW xSR 183 41 [.ref a0, .int a1, .int a2, .int a3, .int a4, .int a5, a6] (st) M Q = xW xSR 183 42 [.ref a0, .int a1, .int a2, .int a3, .int a4, .int a5, a6] (.int (nI 1) :: st) M Q) ∧
  (∀ (a0 : Nat) (a1 : Int32) (a2 : Int32) (a3 : Int32) (a4 : Int32) (a5 : Int32) (a6 : Value) (y0 : Int32) (y1 : Int32) (st : List Value) (M : xM) (Q : Option Value → xM → Prop), xW xSR 183 42 [.ref a0, .int a1, .int a2, .int a3, .int a4, .int a5, a6] (.int y0 :: .int y1 :: st) M Q = xW xSR 183 43 [.ref a0, .int a1, .int a2, .int a3, .int a4, .int a5, a6] (.int (y1 + y0) :: st) M Q) ∧
  (∀ (a0 : Nat) (a1 : Int32) (a2 : Int32) (a3 : Int32) (a4 : Int32) (a5 : Int32) (a6 : Value) (st : List Value) (M : xM) (Q : Option Value → xM → Prop), xW xSR 183 43 [.ref a0, .int a1, .int a2, .int a3, .int a4, .int a5, a6] (st) M Q = xW xSR 183 45 [.ref a0, .int a1, .int a2, .int a3, .int a4, .int a5, a6] (.int a5 :: st) M Q) ∧
  (∀ (a0 : Nat) (a1 : Int32) (a2 : Int32) (a3 : Int32) (a4 : Int32) (a5 : Int32) (a6 : Value) (y0 : Int32) (y1 : Int32) (st : List Value) (M : xM) (Q : Option Value → xM → Prop), xW xSR 183 45 [.ref a0, .int a1, .int a2, .int a3, .int a4, .int a5, a6] (.int y0 :: .int y1 :: st) M Q = xW xSR 183 46 [.ref a0, .int a1, .int a2, .int a3, .int a4, .int a5, a6] (.int (y1 - y0) :: st) M Q) ∧
  (∀ (a0 : Nat) (a1 : Int32) (a2 : Int32) (a3 : Int32) (a4 : Int32) (a5 : Int32) (a6 : Value) (y0 : Nat) (st : List Value) (M : xM) (Q : Option Value → xM → Prop), y0 < 156 → xW xSR 183 46 [.ref a0, .int a1, .int a2, .int a3, .int a4, .int a5, a6] (.int (nI y0) :: .ref 1 :: st) M Q = xW xSR 183 47 [.ref a0, .int a1, .int a2, .int a3, .int a4, .int a5, a6] (.int (M 1 y0) :: st) M Q) ∧
  (∀ (a0 : Nat) (a1 : Int32) (a2 : Int32) (a3 : Int32) (a4 : Int32) (a5 : Int32) (a6 : Value) (y0 : Int32) (y1 : Int32) (st : List Value) (M : xM) (Q : Option Value → xM → Prop), xW xSR 183 47 [.ref a0, .int a1, .int a2, .int a3, .int a4, .int a5, a6] (.int y0 :: .int y1 :: st) M Q = xW xSR 183 48 [.ref a0, .int a1, .int a2, .int a3, .int a4, .int a5, a6] (.int (y1 * y0) :: st) M Q) ∧
  (∀ (a0 : Nat) (a1 : Int32) (a2 : Int32) (a3 : Int32) (a4 : Int32) (a5 : Int32) (a6 : Value) (st : List Value) (M : xM) (Q : Option Value → xM → Prop), xW xSR 183 48 [.ref a0, .int a1, .int a2, .int a3, .int a4, .int a5, a6] (st) M Q = xW xSR 183 49 [.ref a0, .int a1, .int a2, .int a3, .int a4, .int a5, a6] (.ref a0 :: st) M Q) ∧
  (∀ (a0 : Nat) (a1 : Int32) (a2 : Int32) (a3 : Int32) (a4 : Int32) (a5 : Int32) (a6 : Value) (st : List Value) (M : xM) (Q : Option Value → xM → Prop), xW xSR 183 49 [.ref a0, .int a1, .int a2, .int a3, .int a4, .int a5, a6] (st) M Q = xW xSR 183 50 [.ref a0, .int a1, .int a2, .int a3, .int a4, .int a5, a6] (.int a2 :: st) M Q) ∧
  (∀ (a0 : Nat) (a1 : Int32) (a2 : Int32) (a3 : Int32) (a4 : Int32) (a5 : Int32) (a6 : Value) (st : List Value) (M : xM) (Q : Option Value → xM → Prop), xW xSR 183 50 [.ref a0, .int a1, .int a2, .int a3, .int a4, .int a5, a6] (st) M Q = xW xSR 183 52 [.ref a0, .int a1, .int a2, .int a3, .int a4, .int a5, a6] (.int a5 :: st) M Q) ∧
  (∀ (a0 : Nat) (a1 : Int32) (a2 : Int32) (a3 : Int32) (a4 : Int32) (a5 : Int32) (a6 : Value) (y0 : Int32) (y1 : Int32) (y3 : Int32) (y4 : Nat) (M : xM) (Q : Option Value → xM → Prop), xW xSR 183 52 [.ref a0, .int a1, .int a2, .int a3, .int a4, .int a5, a6] (.int y0 :: .int y1 :: .ref 0 :: .int y3 :: .ref y4 :: []) M Q = xW xSR 161 0 [.ref 0, .int y1, .int y0, .null] [] M (fun v M' => xW xSR 183 55 [.ref a0, .int a1, .int a2, .int a3, .int a4, .int a5, a6] (xpush v [.int y3, .ref y4]) M' Q)) ∧
  (∀ (a0 : Nat) (a1 : Int32) (a2 : Int32) (a3 : Int32) (a4 : Int32) (a5 : Int32) (a6 : Value) (y0 : Int32) (y1 : Int32) (st : List Value) (M : xM) (Q : Option Value → xM → Prop), xW xSR 183 55 [.ref a0, .int a1, .int a2, .int a3, .int a4, .int a5, a6] (.int y0 :: .int y1 :: st) M Q = xW xSR 183 56 [.ref a0, .int a1, .int a2, .int a3, .int a4, .int a5, a6] (.int (y1 + y0) :: st) M Q) ∧
  (∀ (a0 : Nat) (a1 : Int32) (a2 : Int32) (a3 : Int32) (a4 : Int32) (a5 : Int32) (a6 : Value) (y0 : Nat) (st : List Value) (M : xM) (Q : Option Value → xM → Prop), y0 < 32 → xW xSR 183 56 [.ref a0, .int a1, .int a2, .int a3, .int a4, .int a5, a6] (.int (nI y0) :: .ref 9 :: st) M Q = xW xSR 183 57 [.ref a0, .int a1, .int a2, .int a3, .int a4, .int a5, a6] (.int (M 9 y0) :: st) M Q) ∧
  (∀ (a0 : Nat) (a1 : Int32) (a2 : Int32) (a3 : Int32) (a4 : Int32) (a5 : Int32) (a6 : Value) (y0 : Int32) (st : List Value) (M : xM) (Q : Option Value → xM → Prop), xW xSR 183 57 [.ref a0, .int a1, .int a2, .int a3, .int a4, .int a5, a6] (.int y0 :: st) M Q = xW xSR 183 59 [.ref a0, .int a1, .int a2, .int a3, .int a4, .int a5, .int y0] (st) M Q) ∧
  (∀ (a0 : Nat) (a1 : Int32) (a2 : Int32) (a3 : Int32) (a4 : Int32) (a5 : Int32) (a6 : Int32) (st : List Value) (M : xM) (Q : Option Value → xM → Prop), xW xSR 183 59 [.ref a0, .int a1, .int a2, .int a3, .int a4, .int a5, .int a6] (st) M Q = xW xSR 183 61 [.ref a0, .int a1, .int a2, .int a3, .int a4, .int a5, .int a6] (.int a6 :: st) M Q) ∧
  (∀ (a0 : Nat) (a1 : Int32) (a2 : Int32) (a3 : Int32) (a4 : Int32) (a5 : Int32) (a6 : Int32) (y0 : Int32) (st : List Value) (M : xM) (Q : Option Value → xM → Prop), xW xSR 183 61 [.ref a0, .int a1, .int a2, .int a3, .int a4, .int a5, .int a6] (.int y0 :: st) M Q = if y0 < nI 0 then xW xSR 183 64 [.ref a0, .int a1, .int a2, .int a3, .int a4, .int a5, .int a6] (st) M Q else xW xSR 183 68 [.ref a0, .int a1, .int a2, .int a3, .int a4, .int a5, .int a6] (st) M Q) ∧
  (∀ (a0 : Nat) (a1 : Int32) (a2 : Int32) (a3 : Int32) (a4 : Int32) (a5 : Int32) (a6 : Int32) (st : List Value) (M : xM) (Q : Option Value → xM → Prop), xW xSR 183 64 [.ref a0, .int a1, .int a2, .int a3, .int a4, .int a5, .int a6] (st) M Q = xW xSR 183 65 [.ref a0, .int a1, .int a2, .int a3, .int a4, .int a5, .int a6] (.int (-1) :: st) M Q) ∧
  (∀ (a0 : Nat) (a1 : Int32) (a2 : Int32) (a3 : Int32) (a4 : Int32) (a5 : Int32) (a6 : Int32) (st : List Value) (M : xM) (Q : Option Value → xM → Prop), xW xSR 183 65 [.ref a0, .int a1, .int a2, .int a3, .int a4, .int a5, .int a6] (st) M Q = xW xSR 183 114 [.ref a0, .int a1, .int a2, .int a3, .int a4, .int a5, .int a6] (st) M Q) ∧
  (∀ (a0 : Nat) (a1 : Int32) (a2 : Int32) (a3 : Int32) (a4 : Int32) (a5 : Int32) (a6 : Int32) (st : List Value) (M : xM) (Q : Option Value → xM → Prop), xW xSR 183 68 [.ref a0, .int a1, .int a2, .int a3, .int a4, .int a5, .int a6] (st) M Q = xW xSR 183 70 [.ref a0, .int a1, .int a2, .int a3, .int a4, .int a5, .int a6] (.int a6 :: st) M Q) ∧
  (∀ (a0 : Nat) (a1 : Int32) (a2 : Int32) (a3 : Int32) (a4 : Int32) (a5 : Int32) (a6 : Int32) (st : List Value) (M : xM) (Q : Option Value → xM → Prop), xW xSR 183 70 [.ref a0, .int a1, .int a2, .int a3, .int a4, .int a5, .int a6] (st) M Q = xW xSR 183 71 [.ref a0, .int a1, .int a2, .int a3, .int a4, .int a5, .int a6] (.ref a0 :: st) M Q) ∧
  (∀ (a0 : Nat) (a1 : Int32) (a2 : Int32) (a3 : Int32) (a4 : Int32) (a5 : Int32) (a6 : Int32) (st : List Value) (M : xM) (Q : Option Value → xM → Prop), xW xSR 183 71 [.ref a0, .int a1, .int a2, .int a3, .int a4, .int a5, .int a6] (st) M Q = xW xSR 183 72 [.ref a0, .int a1, .int a2, .int a3, .int a4, .int a5, .int a6] (.int a1 :: st) M Q) ∧
  (∀ (a0 : Nat) (a1 : Int32) (a2 : Int32) (a3 : Int32) (a4 : Int32) (a5 : Int32) (a6 : Int32) (st : List Value) (M : xM) (Q : Option Value → xM → Prop), xW xSR 183 72 [.ref a0, .int a1, .int a2, .int a3, .int a4, .int a5, .int a6] (st) M Q = xW xSR 183 73 [.ref a0, .int a1, .int a2, .int a3, .int a4, .int a5, .int a6] (.int a2 :: st) M Q) ∧
  (∀ (a0 : Nat) (a1 : Int32) (a2 : Int32) (a3 : Int32) (a4 : Int32) (a5 : Int32) (a6 : Int32) (st : List Value) (M : xM) (Q : Option Value → xM → Prop), xW xSR 183 73 [.ref a0, .int a1, .int a2, .int a3, .int a4, .int a5, .int a6] (st) M Q = xW xSR 183 75 [.ref a0, .int a1, .int a2, .int a3, .int a4, .int a5, .int a6] (.int a5 :: st) M Q) ∧
  (∀ (a0 : Nat) (a1 : Int32) (a2 : Int32) (a3 : Int32) (a4 : Int32) (a5 : Int32) (a6 : Int32) (st : List Value) (M : xM) (Q : Option Value → xM → Prop), xW xSR 183 75 [.ref a0, .int a1, .int a2, .int a3, .int a4, .int a5, .int a6] (st) M Q = xW xSR 183 77 [.ref a0, .int a1, .int a2, .int a3, .int a4, .int a5, .int a6] (.int a4 :: st) M Q) ∧
  (∀ (a0 : Nat) (a1 : Int32) (a2 : Int32) (a3 : Int32) (a4 : Int32) (a5 : Int32) (a6 : Int32) (st : List Value) (M : xM) (Q : Option Value → xM → Prop), xW xSR 183 77 [.ref a0, .int a1, .int a2, .int a3, .int a4, .int a5, .int a6] (st) M Q = xW xSR 183 78 [.ref a0, .int a1, .int a2, .int a3, .int a4, .int a5, .int a6] (.int (nI 3) :: st) M Q) ∧
  (∀ (a0 : Nat) (a1 : Int32) (a2 : Int32) (a3 : Int32) (a4 : Int32) (a5 : Int32) (a6 : Int32) (y0 : Int32) (y1 : Int32) (st : List Value) (M : xM) (Q : Option Value → xM → Prop), xW xSR 183 78 [.ref a0, .int a1, .int a2, .int a3, .int a4, .int a5, .int a6] (.int y0 :: .int y1 :: st) M Q = if y1 = y0 then xW xSR 183 81 [.ref a0, .int a1, .int a2, .int a3, .int a4, .int a5, .int a6] (st) M Q else xW xSR 183 86 [.ref a0, .int a1, .int a2, .int a3, .int a4, .int a5, .int a6] (st) M Q) ∧
  (∀ (a0 : Nat) (a1 : Int32) (a2 : Int32) (a3 : Int32) (a4 : Int32) (a5 : Int32) (a6 : Int32) (st : List Value) (M : xM) (Q : Option Value → xM → Prop), xW xSR 183 81 [.ref a0, .int a1, .int a2, .int a3, .int a4, .int a5, .int a6] (st) M Q = xW xSR 183 83 [.ref a0, .int a1, .int a2, .int a3, .int a4, .int a5, .int a6] (.int (-4) :: st) M Q) ∧
  (∀ (a0 : Nat) (a1 : Int32) (a2 : Int32) (a3 : Int32) (a4 : Int32) (a5 : Int32) (a6 : Int32) (st : List Value) (M : xM) (Q : Option Value → xM → Prop), xW xSR 183 83 [.ref a0, .int a1, .int a2, .int a3, .int a4, .int a5, .int a6] (st) M Q = xW xSR 183 88 [.ref a0, .int a1, .int a2, .int a3, .int a4, .int a5, .int a6] (st) M Q) ∧
  (∀ (a0 : Nat) (a1 : Int32) (a2 : Int32) (a3 : Int32) (a4 : Int32) (a5 : Int32) (a6 : Int32) (st : List Value) (M : xM) (Q : Option Value → xM → Prop), xW xSR 183 86 [.ref a0, .int a1, .int a2, .int a3, .int a4, .int a5, .int a6] (st) M Q = xW xSR 183 88 [.ref a0, .int a1, .int a2, .int a3, .int a4, .int a5, .int a6] (.int a4 :: st) M Q) ∧
  (∀ (a0 : Nat) (a1 : Int32) (a2 : Int32) (a3 : Int32) (a4 : Int32) (a5 : Int32) (a6 : Int32) (st : List Value) (M : xM) (Q : Option Value → xM → Prop), xW xSR 183 89 [.ref a0, .int a1, .int a2, .int a3, .int a4, .int a5, .int a6] (.ref 0 :: st) M Q = xW xSR 183 92 [.ref a0, .int a1, .int a2, .int a3, .int a4, .int a5, .int a6] (.ref 1 :: st) M Q) ∧
  (∀ (a0 : Nat) (a1 : Int32) (a2 : Int32) (a3 : Int32) (a4 : Int32) (a5 : Int32) (a6 : Int32) (st : List Value) (M : xM) (Q : Option Value → xM → Prop), xW xSR 183 92 [.ref a0, .int a1, .int a2, .int a3, .int a4, .int a5, .int a6] (st) M Q = xW xSR 183 94 [.ref a0, .int a1, .int a2, .int a3, .int a4, .int a5, .int a6] (.int (nI 51) :: st) M Q) ∧
  (∀ (a0 : Nat) (a1 : Int32) (a2 : Int32) (a3 : Int32) (a4 : Int32) (a5 : Int32) (a6 : Int32) (st : List Value) (M : xM) (Q : Option Value → xM → Prop), xW xSR 183 94 [.ref a0, .int a1, .int a2, .int a3, .int a4, .int a5, .int a6] (st) M Q = xW xSR 183 95 [.ref a0, .int a1, .int a2, .int a3, .int a4, .int a5, .int a6] (.int (nI 3) :: st) M Q) ∧
  (∀ (a0 : Nat) (a1 : Int32) (a2 : Int32) (a3 : Int32) (a4 : Int32) (a5 : Int32) (a6 : Int32) (st : List Value) (M : xM) (Q : Option Value → xM → Prop), xW xSR 183 95 [.ref a0, .int a1, .int a2, .int a3, .int a4, .int a5, .int a6] (st) M Q = xW xSR 183 96 [.ref a0, .int a1, .int a2, .int a3, .int a4, .int a5, .int a6] (.int a1 :: st) M Q) ∧
  (∀ (a0 : Nat) (a1 : Int32) (a2 : Int32) (a3 : Int32) (a4 : Int32) (a5 : Int32) (a6 : Int32) (y0 : Int32) (y1 : Int32) (st : List Value) (M : xM) (Q : Option Value → xM → Prop), xW xSR 183 96 [.ref a0, .int a1, .int a2, .int a3, .int a4, .int a5, .int a6] (.int y0 :: .int y1 :: st) M Q = xW xSR 183 97 [.ref a0, .int a1, .int a2, .int a3, .int a4, .int a5, .int a6] (.int (y1 * y0) :: st) M Q) ∧
  (∀ (a0 : Nat) (a1 : Int32) (a2 : Int32) (a3 : Int32) (a4 : Int32) (a5 : Int32) (a6 : Int32) (y0 : Int32) (y1 : Int32) (st : List Value) (M : xM) (Q : Option Value → xM → Prop), xW xSR 183 97 [.ref a0, .int a1, .int a2, .int a3, .int a4, .int a5, .int a6] (.int y0 :: .int y1 :: st) M Q = xW xSR 183 98 [.ref a0, .int a1, .int a2, .int a3, .int a4, .int a5, .int a6] (.int (y1 + y0) :: st) M Q) ∧
  (∀ (a0 : Nat) (a1 : Int32) (a2 : Int32) (a3 : Int32) (a4 : Int32) (a5 : Int32) (a6 : Int32) (st : List Value) (M : xM) (Q : Option Value → xM → Prop), xW xSR 183 98 [.ref a0, .int a1, .int a2, .int a3, .int a4, .int a5, .int a6] (st) M Q = xW xSR 183 99 [.ref a0, .int a1, .int a2, .int a3, .int a4, .int a5, .int a6] (.int (nI 1) :: st) M Q) ∧
  (∀ (a0 : Nat) (a1 : Int32) (a2 : Int32) (a3 : Int32) (a4 : Int32) (a5 : Int32) (a6 : Int32) (y0 : Int32) (y1 : Int32) (st : List Value) (M : xM) (Q : Option Value → xM → Prop), xW xSR 183 99 [.ref a0, .int a1, .int a2, .int a3, .int a4, .int a5, .int a6] (.int y0 :: .int y1 :: st) M Q = xW xSR 183 100 [.ref a0, .int a1, .int a2, .int a3, .int a4, .int a5, .int a6] (.int (y1 + y0) :: st) M Q) ∧
  (∀ (a0 : Nat) (a1 : Int32) (a2 : Int32) (a3 : Int32) (a4 : Int32) (a5 : Int32) (a6 : Int32) (y0 : Nat) (st : List Value) (M : xM) (Q : Option Value → xM → Prop), y0 < 156 → xW xSR 183 100 [.ref a0, .int a1, .int a2, .int a3, .int a4, .int a5, .int a6] (.int (nI y0) :: .ref 1 :: st) M Q = xW xSR 183 101 [.ref a0, .int a1, .int a2, .int a3, .int a4, .int a5, .int a6] (.int (M 1 y0) :: st) M Q) ∧
  (∀ (a0 : Nat) (a1 : Int32) (a2 : Int32) (a3 : Int32) (a4 : Int32) (a5 : Int32) (a6 : Int32) (st : List Value) (M : xM) (Q : Option Value → xM → Prop), xW xSR 183 101 [.ref a0, .int a1, .int a2, .int a3, .int a4, .int a5, .int a6] (st) M Q = xW xSR 183 102 [.ref a0, .int a1, .int a2, .int a3, .int a4, .int a5, .int a6] (.int (nI 1) :: st) M Q) ∧
  (∀ (a0 : Nat) (a1 : Int32) (a2 : Int32) (a3 : Int32) (a4 : Int32) (a5 : Int32) (a6 : Int32) (y0 : Int32) (y1 : Int32) (st : List Value) (M : xM) (Q : Option Value → xM → Prop), xW xSR 183 102 [.ref a0, .int a1, .int a2, .int a3, .int a4, .int a5, .int a6] (.int y0 :: .int y1 :: st) M Q = if y1 = y0 then xW xSR 183 105 [.ref a0, .int a1, .int a2, .int a3, .int a4, .int a5, .int a6] (st) M Q else xW xSR 183 109 [.ref a0, .int a1, .int a2, .int a3, .int a4, .int a5, .int a6] (st) M Q) ∧
  (∀ (a0 : Nat) (a1 : Int32) (a2 : Int32) (a3 : Int32) (a4 : Int32) (a5 : Int32) (a6 : Int32) (st : List Value) (M : xM) (Q : Option Value → xM → Prop), xW xSR 183 105 [.ref a0, .int a1, .int a2, .int a3, .int a4, .int a5, .int a6] (st) M Q = xW xSR 183 106 [.ref a0, .int a1, .int a2, .int a3, .int a4, .int a5, .int a6] (.int (nI 1) :: st) M Q) ∧
  (∀ (a0 : Nat) (a1 : Int32) (a2 : Int32) (a3 : Int32) (a4 : Int32) (a5 : Int32) (a6 : Int32) (st : List Value) (M : xM) (Q : Option Value → xM → Prop), xW xSR 183 106 [.ref a0, .int a1, .int a2, .int a3, .int a4, .int a5, .int a6] (st) M Q = xW xSR 183 110 [.ref a0, .int a1, .int a2, .int a3, .int a4, .int a5, .int a6] (st) M Q) ∧
  (∀ (a0 : Nat) (a1 : Int32) (a2 : Int32) (a3 : Int32) (a4 : Int32) (a5 : Int32) (a6 : Int32) (st : List Value) (M : xM) (Q : Option Value → xM → Prop), xW xSR 183 109 [.ref a0, .int a1, .int a2, .int a3, .int a4, .int a5, .int a6] (st) M Q = xW xSR 183 110 [.ref a0, .int a1, .int a2, .int a3, .int a4, .int a5, .int a6] (.int (nI 0) :: st) M Q) ∧
  (∀ (a0 : Nat) (a1 : Int32) (a2 : Int32) (a3 : Int32) (a4 : Int32) (a5 : Int32) (a6 : Int32) (y0 : Int32) (y1 : Int32) (st : List Value) (M : xM) (Q : Option Value → xM → Prop), xW xSR 183 113 [.ref a0, .int a1, .int a2, .int a3, .int a4, .int a5, .int a6] (.int y0 :: .int y1 :: st) M Q = xW xSR 183 114 [.ref a0, .int a1, .int a2, .int a3, .int a4, .int a5, .int a6] (.int (y1 + y0) :: st) M Q) :=
  ⟨fun a0 a1 a2 a3 a4 a5 a6 st M Q => xw_s rfl rfl,
  fun a0 a1 a2 a3 a4 a5 a6 st M Q => xw_s rfl rfl,
  fun a0 a1 a2 a3 a4 a5 a6 st M Q => xw_s rfl rfl,
  fun a0 a1 a2 a3 a4 a5 a6 y0 y1 M Q => xw_call rfl rfl rfl,
  fun a0 a1 a2 a3 a4 a5 a6 y0 st M Q => xw_s rfl rfl,
  fun a0 a1 a2 a3 a4 a5 a6 st M Q => xw_s rfl rfl,
  fun a0 a1 a2 a3 a4 a5 a6 y0 st M Q => xw_br (c0 := y0 < nI 0) rfl rfl,
  fun a0 a1 a2 a3 a4 a5 a6 st M Q => xw_s rfl rfl,
  fun a0 a1 a2 a3 a4 a5 a6 st M Q => xw_s rfl rfl,
  fun a0 a1 a2 a3 a4 a5 a6 st M Q => xw_s rfl rfl,
  fun a0 a1 a2 a3 a4 a5 a6 st M Q => xw_s rfl rfl,
  fun a0 a1 a2 a3 a4 a5 a6 y0 y1 y2 M Q => xw_call rfl rfl rfl,
  fun a0 a1 a2 a3 a4 a5 a6 y0 st M Q => xw_brn (c0 := y0 ≠ nI 0) (c1 := y0 = nI 0) rfl rfl (Iff.rfl),
  fun a0 a1 a2 a3 a4 a5 a6 y0 M Q => xw_ret rfl rfl,
  fun a0 a1 a2 a3 a4 a5 a6 st M Q => xw_s rfl rfl,
  fun a0 a1 a2 a3 a4 a5 a6 st M Q => xw_s rfl rfl,
  fun a0 a1 a2 a3 a4 a5 a6 st M Q => xw_s rfl rfl,
  fun a0 a1 a2 a3 a4 a5 a6 st M Q => xw_s rfl rfl,
  fun a0 a1 a2 a3 a4 a5 a6 st M Q => xw_s rfl rfl,
  fun a0 a1 a2 a3 a4 a5 a6 st M Q => xw_s rfl rfl,
  fun a0 a1 a2 a3 a4 a5 a6 st M Q => xw_s rfl rfl,
  fun a0 a1 a2 a3 a4 a5 a6 st M Q => xw_s rfl rfl,
  fun a0 a1 a2 a3 a4 a5 a6 y0 y1 st M Q => xw_s rfl rfl,
  fun a0 a1 a2 a3 a4 a5 a6 y0 y1 st M Q => xw_s rfl rfl,
  fun a0 a1 a2 a3 a4 a5 a6 st M Q => xw_s rfl rfl,
  fun a0 a1 a2 a3 a4 a5 a6 y0 y1 st M Q => xw_s rfl rfl,
  fun a0 a1 a2 a3 a4 a5 a6 st M Q => xw_s rfl rfl,
  fun a0 a1 a2 a3 a4 a5 a6 y0 y1 st M Q => xw_s rfl rfl,
  fun a0 a1 a2 a3 a4 a5 a6 y0 st M Q h0 => xw_ald rfl rfl rfl (by decide) h0,
  fun a0 a1 a2 a3 a4 a5 a6 y0 y1 st M Q => xw_s rfl rfl,
  fun a0 a1 a2 a3 a4 a5 a6 st M Q => xw_s rfl rfl,
  fun a0 a1 a2 a3 a4 a5 a6 st M Q => xw_s rfl rfl,
  fun a0 a1 a2 a3 a4 a5 a6 st M Q => xw_s rfl rfl,
  fun a0 a1 a2 a3 a4 a5 a6 y0 y1 y3 y4 M Q => xw_call rfl rfl rfl,
  fun a0 a1 a2 a3 a4 a5 a6 y0 y1 st M Q => xw_s rfl rfl,
  fun a0 a1 a2 a3 a4 a5 a6 y0 st M Q h0 => xw_ald rfl rfl rfl (by decide) h0,
  fun a0 a1 a2 a3 a4 a5 a6 y0 st M Q => xw_s rfl rfl,
  fun a0 a1 a2 a3 a4 a5 a6 st M Q => xw_s rfl rfl,
  fun a0 a1 a2 a3 a4 a5 a6 y0 st M Q => xw_brn (c0 := nI 0 ≤ y0) (c1 := y0 < nI 0) rfl rfl (xge _ _),
  fun a0 a1 a2 a3 a4 a5 a6 st M Q => xw_s rfl rfl,
  fun a0 a1 a2 a3 a4 a5 a6 st M Q => xw_s rfl rfl,
  fun a0 a1 a2 a3 a4 a5 a6 st M Q => xw_s rfl rfl,
  fun a0 a1 a2 a3 a4 a5 a6 st M Q => xw_s rfl rfl,
  fun a0 a1 a2 a3 a4 a5 a6 st M Q => xw_s rfl rfl,
  fun a0 a1 a2 a3 a4 a5 a6 st M Q => xw_s rfl rfl,
  fun a0 a1 a2 a3 a4 a5 a6 st M Q => xw_s rfl rfl,
  fun a0 a1 a2 a3 a4 a5 a6 st M Q => xw_s rfl rfl,
  fun a0 a1 a2 a3 a4 a5 a6 st M Q => xw_s rfl rfl,
  fun a0 a1 a2 a3 a4 a5 a6 y0 y1 st M Q => xw_brn (c0 := y1 ≠ y0) (c1 := y1 = y0) rfl rfl (Iff.rfl),
  fun a0 a1 a2 a3 a4 a5 a6 st M Q => xw_s rfl rfl,
  fun a0 a1 a2 a3 a4 a5 a6 st M Q => xw_s rfl rfl,
  fun a0 a1 a2 a3 a4 a5 a6 st M Q => xw_s rfl rfl,
  fun a0 a1 a2 a3 a4 a5 a6 st M Q => xw_s rfl rfl,
  fun a0 a1 a2 a3 a4 a5 a6 st M Q => xw_s rfl rfl,
  fun a0 a1 a2 a3 a4 a5 a6 st M Q => xw_s rfl rfl,
  fun a0 a1 a2 a3 a4 a5 a6 st M Q => xw_s rfl rfl,
  fun a0 a1 a2 a3 a4 a5 a6 y0 y1 st M Q => xw_s rfl rfl,
  fun a0 a1 a2 a3 a4 a5 a6 y0 y1 st M Q => xw_s rfl rfl,
  fun a0 a1 a2 a3 a4 a5 a6 st M Q => xw_s rfl rfl,
  fun a0 a1 a2 a3 a4 a5 a6 y0 y1 st M Q => xw_s rfl rfl,
  fun a0 a1 a2 a3 a4 a5 a6 y0 st M Q h0 => xw_ald rfl rfl rfl (by decide) h0,
  fun a0 a1 a2 a3 a4 a5 a6 st M Q => xw_s rfl rfl,
  fun a0 a1 a2 a3 a4 a5 a6 y0 y1 st M Q => xw_brn (c0 := y1 ≠ y0) (c1 := y1 = y0) rfl rfl (Iff.rfl),
  fun a0 a1 a2 a3 a4 a5 a6 st M Q => xw_s rfl rfl,
  fun a0 a1 a2 a3 a4 a5 a6 st M Q => xw_s rfl rfl,
  fun a0 a1 a2 a3 a4 a5 a6 st M Q => xw_s rfl rfl,
  fun a0 a1 a2 a3 a4 a5 a6 y0 y1 st M Q => xw_s rfl rfl⟩
set_option maxRecDepth 20000 in
theorem h183_24 :
  (∀ (a0 : Nat) (a1 : Int32) (a2 : Int32) (a3 : Int32) (a4 : Int32) (a5 : Int32) (a6 : Value) (st : List Value) (M : xM) (Q : Option Value → xM → Prop), xW xSR 183 24 [.ref a0, .int a1, .int a2, .int a3, .int a4, .int a5, a6] (st) M Q = xW xSR 183 25 [.ref a0, .int a1, .int a2, .int a3, .int a4, .int a5, a6] (.int (-1) :: st) M Q) :=
  fun a0 a1 a2 a3 a4 a5 a6 st M Q => xw_s rfl rfl
set_option maxRecDepth 20000 in
theorem h183_88 :
  (∀ (a0 : Nat) (a1 : Int32) (a2 : Int32) (a3 : Int32) (a4 : Int32) (a5 : Int32) (a6 : Int32) (st : List Value) (M : xM) (Q : Option Value → xM → Prop), xW xSR 183 88 [.ref a0, .int a1, .int a2, .int a3, .int a4, .int a5, .int a6] (st) M Q = xW xSR 183 89 [.ref a0, .int a1, .int a2, .int a3, .int a4, .int a5, .int a6] (.ref a0 :: st) M Q) :=
  fun a0 a1 a2 a3 a4 a5 a6 st M Q => xw_s rfl rfl
set_option maxRecDepth 20000 in
theorem h183_110 :
  (∀ (a0 : Nat) (a1 : Int32) (a2 : Int32) (a3 : Int32) (a4 : Int32) (a5 : Int32) (a6 : Int32) (y0 : Int32) (y1 : Int32) (y2 : Int32) (y3 : Int32) (y4 : Int32) (y6 : Int32) (M : xM) (Q : Option Value → xM → Prop), xW xSR 183 110 [.ref a0, .int a1, .int a2, .int a3, .int a4, .int a5, .int a6] (.int y0 :: .int y1 :: .int y2 :: .int y3 :: .int y4 :: .ref 0 :: .int y6 :: []) M Q = xW xSR 169 0 [.ref 0, .int y4, .int y3, .int y2, .int y1, .int y0] [] M (fun v M' => xW xSR 183 113 [.ref a0, .int a1, .int a2, .int a3, .int a4, .int a5, .int a6] (xpush v [.int y6]) M' Q)) :=
  fun a0 a1 a2 a3 a4 a5 a6 y0 y1 y2 y3 y4 y6 M Q => xw_call rfl rfl rfl
set_option maxRecDepth 20000 in
theorem h183_114 :
  (∀ (a0 : Nat) (a1 : Int32) (a2 : Int32) (a3 : Int32) (a4 : Int32) (a5 : Int32) (a6 : Int32) (y0 : Int32) (M : xM) (Q : Option Value → xM → Prop), xW xSR 183 114 [.ref a0, .int a1, .int a2, .int a3, .int a4, .int a5, .int a6] ([.int y0]) M Q = Q (some (.int y0)) M) :=
  fun a0 a1 a2 a3 a4 a5 a6 y0 M Q => xw_ret rfl rfl
set_option maxRecDepth 20000 in
theorem j183 :
  (∀ (a0 : Nat) (a1 : Int32) (a2 : Int32) (a3 : Int32) (a4 : Int32) (a5 : Int32) (a6 : Value) (st : List Value) (M : xM) (Q : Option Value → xM → Prop), xW xSR 183 24 [.ref a0, .int a1, .int a2, .int a3, .int a4, .int a5, a6] (st) M Q = xW xSR 183 25 [.ref a0, .int a1, .int a2, .int a3, .int a4, .int a5, a6] (.int (-1) :: st) M Q) ∧
  (∀ (a0 : Nat) (a1 : Int32) (a2 : Int32) (a3 : Int32) (a4 : Int32) (a5 : Int32) (a6 : Int32) (st : List Value) (M : xM) (Q : Option Value → xM → Prop), xW xSR 183 88 [.ref a0, .int a1, .int a2, .int a3, .int a4, .int a5, .int a6] (st) M Q = xW xSR 183 89 [.ref a0, .int a1, .int a2, .int a3, .int a4, .int a5, .int a6] (.ref a0 :: st) M Q) ∧
  (∀ (a0 : Nat) (a1 : Int32) (a2 : Int32) (a3 : Int32) (a4 : Int32) (a5 : Int32) (a6 : Int32) (y0 : Int32) (y1 : Int32) (y2 : Int32) (y3 : Int32) (y4 : Int32) (y6 : Int32) (M : xM) (Q : Option Value → xM → Prop), xW xSR 183 110 [.ref a0, .int a1, .int a2, .int a3, .int a4, .int a5, .int a6] (.int y0 :: .int y1 :: .int y2 :: .int y3 :: .int y4 :: .ref 0 :: .int y6 :: []) M Q = xW xSR 169 0 [.ref 0, .int y4, .int y3, .int y2, .int y1, .int y0] [] M (fun v M' => xW xSR 183 113 [.ref a0, .int a1, .int a2, .int a3, .int a4, .int a5, .int a6] (xpush v [.int y6]) M' Q)) ∧
  (∀ (a0 : Nat) (a1 : Int32) (a2 : Int32) (a3 : Int32) (a4 : Int32) (a5 : Int32) (a6 : Int32) (y0 : Int32) (M : xM) (Q : Option Value → xM → Prop), xW xSR 183 114 [.ref a0, .int a1, .int a2, .int a3, .int a4, .int a5, .int a6] ([.int y0]) M Q = Q (some (.int y0)) M) :=
  ⟨fun a0 a1 a2 a3 a4 a5 a6 st M Q => xw_s rfl rfl,
  fun a0 a1 a2 a3 a4 a5 a6 st M Q => xw_s rfl rfl,
  fun a0 a1 a2 a3 a4 a5 a6 y0 y1 y2 y3 y4 y6 M Q => xw_call rfl rfl rfl,
  fun a0 a1 a2 a3 a4 a5 a6 y0 M Q => xw_ret rfl rfl⟩

set_option maxRecDepth 20000 in
theorem s184 :
  (∀ (a0 : Nat) (a1 : Int32) (a2 : Int32) (a3 : Int32) (a4 : Value) (a5 : Value) (a6 : Value) (a7 : Value) (a8 : Value) (a9 : Value) (a10 : Value) (st : List Value) (M : xM) (Q : Option Value → xM → Prop), xW xSR 184 0 [.ref a0, .int a1, .int a2, .int a3, a4, a5, a6, a7, a8, a9, a10] (st) M Q = xW xSR 184 1 [.ref a0, .int a1, .int a2, .int a3, a4, a5, a6, a7, a8, a9, a10] (.ref a0 :: st) M Q) ∧
  (∀ (a0 : Nat) (a1 : Int32) (a2 : Int32) (a3 : Int32) (a4 : Value) (a5 : Value) (a6 : Value) (a7 : Value) (a8 : Value) (a9 : Value) (a10 : Value) (st : List Value) (M : xM) (Q : Option Value → xM → Prop), xW xSR 184 1 [.ref a0, .int a1, .int a2, .int a3, a4, a5, a6, a7, a8, a9, a10] (st) M Q = xW xSR 184 2 [.ref a0, .int a1, .int a2, .int a3, a4, a5, a6, a7, a8, a9, a10] (.int a1 :: st) M Q) ∧
  (∀ (a0 : Nat) (a1 : Int32) (a2 : Int32) (a3 : Int32) (a4 : Value) (a5 : Value) (a6 : Value) (a7 : Value) (a8 : Value) (a9 : Value) (a10 : Value) (y0 : Int32) (M : xM) (Q : Option Value → xM → Prop), xW xSR 184 2 [.ref a0, .int a1, .int a2, .int a3, a4, a5, a6, a7, a8, a9, a10] (.int y0 :: .ref 0 :: []) M Q = xW xSR 141 0 [.ref 0, .int y0] [] M (fun v M' => xW xSR 184 5 [.ref a0, .int a1, .int a2, .int a3, a4, a5, a6, a7, a8, a9, a10] (xpush v []) M' Q)) ∧
  (∀ (a0 : Nat) (a1 : Int32) (a2 : Int32) (a3 : Int32) (a4 : Value) (a5 : Value) (a6 : Value) (a7 : Value) (a8 : Value) (a9 : Value) (a10 : Value) (y0 : Int32) (st : List Value) (M : xM) (Q : Option Value → xM → Prop), xW xSR 184 5 [.ref a0, .int a1, .int a2, .int a3, a4, a5, a6, a7, a8, a9, a10] (.int y0 :: st) M Q = if y0 = nI 0 then xW xSR 184 26 [.ref a0, .int a1, .int a2, .int a3, a4, a5, a6, a7, a8, a9, a10] (st) M Q else xW xSR 184 8 [.ref a0, .int a1, .int a2, .int a3, a4, a5, a6, a7, a8, a9, a10] (st) M Q) ∧
  (∀ (a0 : Nat) (a1 : Int32) (a2 : Int32) (a3 : Int32) (a4 : Value) (a5 : Value) (a6 : Value) (a7 : Value) (a8 : Value) (a9 : Value) (a10 : Value) (st : List Value) (M : xM) (Q : Option Value → xM → Prop), xW xSR 184 8 [.ref a0, .int a1, .int a2, .int a3, a4, a5, a6, a7, a8, a9, a10] (st) M Q = xW xSR 184 9 [.ref a0, .int a1, .int a2, .int a3, a4, a5, a6, a7, a8, a9, a10] (.ref a0 :: st) M Q) ∧
  (∀ (a0 : Nat) (a1 : Int32) (a2 : Int32) (a3 : Int32) (a4 : Value) (a5 : Value) (a6 : Value) (a7 : Value) (a8 : Value) (a9 : Value) (a10 : Value) (st : List Value) (M : xM) (Q : Option Value → xM → Prop), xW xSR 184 9 [.ref a0, .int a1, .int a2, .int a3, a4, a5, a6, a7, a8, a9, a10] (st) M Q = xW xSR 184 10 [.ref a0, .int a1, .int a2, .int a3, a4, a5, a6, a7, a8, a9, a10] (.int a2 :: st) M Q) ∧
  (∀ (a0 : Nat) (a1 : Int32) (a2 : Int32) (a3 : Int32) (a4 : Value) (a5 : Value) (a6 : Value) (a7 : Value) (a8 : Value) (a9 : Value) (a10 : Value) (y0 : Int32) (M : xM) (Q : Option Value → xM → Prop), xW xSR 184 10 [.ref a0, .int a1, .int a2, .int a3, a4, a5, a6, a7, a8, a9, a10] (.int y0 :: .ref 0 :: []) M Q = xW xSR 139 0 [.ref 0, .int y0] [] M (fun v M' => xW xSR 184 13 [.ref a0, .int a1, .int a2, .int a3, a4, a5, a6, a7, a8, a9, a10] (xpush v []) M' Q)) ∧
  (∀ (a0 : Nat) (a1 : Int32) (a2 : Int32) (a3 : Int32) (a4 : Value) (a5 : Value) (a6 : Value) (a7 : Value) (a8 : Value) (a9 : Value) (a10 : Value) (y0 : Int32) (st : List Value) (M : xM) (Q : Option Value → xM → Prop), xW xSR 184 13 [.ref a0, .int a1, .int a2, .int a3, a4, a5, a6, a7, a8, a9, a10] (.int y0 :: st) M Q = if y0 = nI 0 then xW xSR 184 26 [.ref a0, .int a1, .int a2, .int a3, a4, a5, a6, a7, a8, a9, a10] (st) M Q else xW xSR 184 16 [.ref a0, .int a1, .int a2, .int a3, a4, a5, a6, a7, a8, a9, a10] (st) M Q) ∧
  (∀ (a0 : Nat) (a1 : Int32) (a2 : Int32) (a3 : Int32) (a4 : Value) (a5 : Value) (a6 : Value) (a7 : Value) (a8 : Value) (a9 : Value) (a10 : Value) (st : List Value) (M : xM) (Q : Option Value → xM → Prop), xW xSR 184 16 [.ref a0, .int a1, .int a2, .int a3, a4, a5, a6, a7, a8, a9, a10] (st) M Q = xW xSR 184 17 [.ref a0, .int a1, .int a2, .int a3, a4, a5, a6, a7, a8, a9, a10] (.int a3 :: st) M Q) ∧
  (∀ (a0 : Nat) (a1 : Int32) (a2 : Int32) (a3 : Int32) (a4 : Value) (a5 : Value) (a6 : Value) (a7 : Value) (a8 : Value) (a9 : Value) (a10 : Value) (y0 : Int32) (st : List Value) (M : xM) (Q : Option Value → xM → Prop), xW xSR 184 17 [.ref a0, .int a1, .int a2, .int a3, a4, a5, a6, a7, a8, a9, a10] (.int y0 :: st) M Q = xW xSR 184 18 [.ref a0, .int a1, .int a2, .int a3, a4, a5, a6, a7, a8, a9, a10] (.long y0.toInt64 :: st) M Q) ∧
  (∀ (a0 : Nat) (a1 : Int32) (a2 : Int32) (a3 : Int32) (a4 : Value) (a5 : Value) (a6 : Value) (a7 : Value) (a8 : Value) (a9 : Value) (a10 : Value) (st : List Value) (M : xM) (Q : Option Value → xM → Prop), xW xSR 184 18 [.ref a0, .int a1, .int a2, .int a3, a4, a5, a6, a7, a8, a9, a10] (st) M Q = xW xSR 184 19 [.ref a0, .int a1, .int a2, .int a3, a4, a5, a6, a7, a8, a9, a10] (.long (lN 0) :: st) M Q) ∧
  (∀ (a0 : Nat) (a1 : Int32) (a2 : Int32) (a3 : Int32) (a4 : Value) (a5 : Value) (a6 : Value) (a7 : Value) (a8 : Value) (a9 : Value) (a10 : Value) (st : List Value) (M : xM) (Q : Option Value → xM → Prop), xW xSR 184 19 [.ref a0, .int a1, .int a2, .int a3, a4, a5, a6, a7, a8, a9, a10] (st) M Q = xW xSR 184 20 [.ref a0, .int a1, .int a2, .int a3, a4, a5, a6, a7, a8, a9, a10] (.long (lN 1) :: st) M Q) ∧
  (∀ (a0 : Nat) (a1 : Int32) (a2 : Int32) (a3 : Int32) (a4 : Value) (a5 : Value) (a6 : Value) (a7 : Value) (a8 : Value) (a9 : Value) (a10 : Value) (y0 : Int64) (y1 : Int64) (y2 : Int64) (M : xM) (Q : Option Value → xM → Prop), xW xSR 184 20 [.ref a0, .int a1, .int a2, .int a3, a4, a5, a6, a7, a8, a9, a10] (.long y0 :: .long y1 :: .long y2 :: []) M Q = xW xSR 135 0 [.long y2, .null, .long y1, .null, .long y0, .null] [] M (fun v M' => xW xSR 184 23 [.ref a0, .int a1, .int a2, .int a3, a4, a5, a6, a7, a8, a9, a10] (xpush v []) M' Q)) ∧
  (∀ (a0 : Nat) (a1 : Int32) (a2 : Int32) (a3 : Int32) (a4 : Value) (a5 : Value) (a6 : Value) (a7 : Value) (a8 : Value) (a9 : Value) (a10 : Value) (y0 : Int32) (st : List Value) (M : xM) (Q : Option Value → xM → Prop), xW xSR 184 23 [.ref a0, .int a1, .int a2, .int a3, a4, a5, a6, a7, a8, a9, a10] (.int y0 :: st) M Q = if y0 = nI 0 then xW xSR 184 26 [.ref a0, .int a1, .int a2, .int a3, a4, a5, a6, a7, a8, a9, a10] (st) M Q else xW xSR 184 28 [.ref a0, .int a1, .int a2, .int a3, a4, a5, a6, a7, a8, a9, a10] (st) M Q) ∧
  (∀ (a0 : Nat) (a1 : Int32) (a2 : Int32) (a3 : Int32) (a4 : Value) (a5 : Value) (a6 : Value) (a7 : Value) (a8 : Value) (a9 : Value) (a10 : Value) (y0 : Int32) (M : xM) (Q : Option Value → xM → Prop), xW xSR 184 27 [.ref a0, .int a1, .int a2, .int a3, a4, a5, a6, a7, a8, a9, a10] ([.int y0]) M Q = Q (some (.int y0)) M) ∧
  (∀ (a0 : Nat) (a1 : Int32) (a2 : Int32) (a3 : Int32) (a4 : Value) (a5 : Value) (a6 : Value) (a7 : Value) (a8 : Value) (a9 : Value) (a10 : Value) (st : List Value) (M : xM) (Q : Option Value → xM → Prop), xW xSR 184 28 [.ref a0, .int a1, .int a2, .int a3, a4, a5, a6, a7, a8, a9, a10] (st) M Q = xW xSR 184 29 [.ref a0, .int a1, .int a2, .int a3, a4, a5, a6, a7, a8, a9, a10] (.ref a0 :: st) M Q) ∧
  (∀ (a0 : Nat) (a1 : Int32) (a2 : Int32) (a3 : Int32) (a4 : Value) (a5 : Value) (a6 : Value) (a7 : Value) (a8 : Value) (a9 : Value) (a10 : Value) (st : List Value) (M : xM) (Q : Option Value → xM → Prop), xW xSR 184 29 [.ref a0, .int a1, .int a2, .int a3, a4, a5, a6, a7, a8, a9, a10] (.ref 0 :: st) M Q = xW xSR 184 32 [.ref a0, .int a1, .int a2, .int a3, a4, a5, a6, a7, a8, a9, a10] (.ref 1 :: st) M Q) ∧
  (∀ (a0 : Nat) (a1 : Int32) (a2 : Int32) (a3 : Int32) (a4 : Value) (a5 : Value) (a6 : Value) (a7 : Value) (a8 : Value) (a9 : Value) (a10 : Value) (st : List Value) (M : xM) (Q : Option Value → xM → Prop), xW xSR 184 32 [.ref a0, .int a1, .int a2, .int a3, a4, a5, a6, a7, a8, a9, a10] (st) M Q = xW xSR 184 34 [.ref a0, .int a1, .int a2, .int a3, a4, a5, a6, a7, a8, a9, a10] (.int (nI 51) :: st) M Q) ∧
  (∀ (a0 : Nat) (a1 : Int32) (a2 : Int32) (a3 : Int32) (a4 : Value) (a5 : Value) (a6 : Value) (a7 : Value) (a8 : Value) (a9 : Value) (a10 : Value) (st : List Value) (M : xM) (Q : Option Value → xM → Prop), xW xSR 184 34 [.ref a0, .int a1, .int a2, .int a3, a4, a5, a6, a7, a8, a9, a10] (st) M Q = xW xSR 184 35 [.ref a0, .int a1, .int a2, .int a3, a4, a5, a6, a7, a8, a9, a10] (.int (nI 3) :: st) M Q) ∧
  (∀ (a0 : Nat) (a1 : Int32) (a2 : Int32) (a3 : Int32) (a4 : Value) (a5 : Value) (a6 : Value) (a7 : Value) (a8 : Value) (a9 : Value) (a10 : Value) (st : List Value) (M : xM) (Q : Option Value → xM → Prop), xW xSR 184 35 [.ref a0, .int a1, .int a2, .int a3, a4, a5, a6, a7, a8, a9, a10] (st) M Q = xW xSR 184 36 [.ref a0, .int a1, .int a2, .int a3, a4, a5, a6, a7, a8, a9, a10] (.int a1 :: st) M Q) ∧
  (∀ (a0 : Nat) (a1 : Int32) (a2 : Int32) (a3 : Int32) (a4 : Value) (a5 : Value) (a6 : Value) (a7 : Value) (a8 : Value) (a9 : Value) (a10 : Value) (y0 : Int32) (y1 : Int32) (st : List Value) (M : xM) (Q : Option Value → xM → Prop), xW xSR 184 36 [.ref a0, .int a1, .int a2, .int a3, a4, a5, a6, a7, a8, a9, a10] (.int y0 :: .int y1 :: st) M Q = xW xSR 184 37 [.ref a0, .int a1, .int a2, .int a3, a4, a5, a6, a7, a8, a9, a10] (.int (y1 * y0) :: st) M Q) ∧
  (∀ (a0 : Nat) (a1 : Int32) (a2 : Int32) (a3 : Int32) (a4 : Value) (a5 : Value) (a6 : Value) (a7 : Value) (a8 : Value) (a9 : Value) (a10 : Value) (y0 : Int32) (y1 : Int32) (st : List Value) (M : xM) (Q : Option Value → xM → Prop), xW xSR 184 37 [.ref a0, .int a1, .int a2, .int a3, a4, a5, a6, a7, a8, a9, a10] (.int y0 :: .int y1 :: st) M Q = xW xSR 184 38 [.ref a0, .int a1, .int a2, .int a3, a4, a5, a6, a7, a8, a9, a10] (.int (y1 + y0) :: st) M Q) ∧
  (∀ (a0 : Nat) (a1 : Int32) (a2 : Int32) (a3 : Int32) (a4 : Value) (a5 : Value) (a6 : Value) (a7 : Value) (a8 : Value) (a9 : Value) (a10 : Value) (y0 : Nat) (st : List Value) (M : xM) (Q : Option Value → xM → Prop), y0 < 156 → xW xSR 184 38 [.ref a0, .int a1, .int a2, .int a3, a4, a5, a6, a7, a8, a9, a10] (.int (nI y0) :: .ref 1 :: st) M Q = xW xSR 184 39 [.ref a0, .int a1, .int a2, .int a3, a4, a5, a6, a7, a8, a9, a10] (.int (M 1 y0) :: st) M Q) ∧
  (∀ (a0 : Nat) (a1 : Int32) (a2 : Int32) (a3 : Int32) (a4 : Value) (a5 : Value) (a6 : Value) (a7 : Value) (a8 : Value) (a9 : Value) (a10 : Value) (y0 : Int32) (st : List Value) (M : xM) (Q : Option Value → xM → Prop), xW xSR 184 39 [.ref a0, .int a1, .int a2, .int a3, a4, a5, a6, a7, a8, a9, a10] (.int y0 :: st) M Q = xW xSR 184 41 [.ref a0, .int a1, .int a2, .int a3, .int y0, a5, a6, a7, a8, a9, a10] (st) M Q) ∧
  (∀ (a0 : Nat) (a1 : Int32) (a2 : Int32) (a3 : Int32) (a4 : Int32) (a5 : Value) (a6 : Value) (a7 : Value) (a8 : Value) (a9 : Value) (a10 : Value) (st : List Value) (M : xM) (Q : Option Value → xM → Prop), xW xSR 184 41 [.ref a0, .int a1, .int a2, .int a3, .int a4, a5, a6, a7, a8, a9, a10] (st) M Q = xW xSR 184 42 [.ref a0, .int a1, .int a2, .int a3, .int a4, a5, a6, a7, a8, a9, a10] (.ref a0 :: st) M Q) ∧
  (∀ (a0 : Nat) (a1 : Int32) (a2 : Int32) (a3 : Int32) (a4 : Int32) (a5 : Value) (a6 : Value) (a7 : Value) (a8 : Value) (a9 : Value) (a10 : Value) (st : List Value) (M : xM) (Q : Option Value → xM → Prop), xW xSR 184 42 [.ref a0, .int a1, .int a2, .int a3, .int a4, a5, a6, a7, a8, a9, a10] (.ref 0 :: st) M Q = xW xSR 184 45 [.ref a0, .int a1, .int a2, .int a3, .int a4, a5, a6, a7, a8, a9, a10] (.ref 1 :: st) M Q) ∧
  (∀ (a0 : Nat) (a1 : Int32) (a2 : Int32) (a3 : Int32) (a4 : Int32) (a5 : Value) (a6 : Value) (a7 : Value) (a8 : Value) (a9 : Value) (a10 : Value) (st : List Value) (M : xM) (Q : Option Value → xM → Prop), xW xSR 184 45 [.ref a0, .int a1, .int a2, .int a3, .int a4, a5, a6, a7, a8, a9, a10] (st) M Q = xW xSR 184 47 [.ref a0, .int a1, .int a2, .int a3, .int a4, a5, a6, a7, a8, a9, a10] (.int (nI 51) :: st) M Q) ∧
  (∀ (a0 : Nat) (a1 : Int32) (a2 : Int32) (a3 : Int32) (a4 : Int32) (a5 : Value) (a6 : Value) (a7 : Value) (a8 : Value) (a9 : Value) (a10 : Value) (st : List Value) (M : xM) (Q : Option Value → xM → Prop), xW xSR 184 47 [.ref a0, .int a1, .int a2, .int a3, .int a4, a5, a6, a7, a8, a9, a10] (st) M Q = xW xSR 184 48 [.ref a0, .int a1, .int a2, .int a3, .int a4, a5, a6, a7, a8, a9, a10] (.int (nI 3) :: st) M Q) ∧
  (∀ (a0 : Nat) (a1 : Int32) (a2 : Int32) (a3 : Int32) (a4 : Int32) (a5 : Value) (a6 : Value) (a7 : Value) (a8 : Value) (a9 : Value) (a10 : Value) (st : List Value) (M : xM) (Q : Option Value → xM → Prop), xW xSR 184 48 [.ref a0, .int a1, .int a2, .int a3, .int a4, a5, a6, a7, a8, a9, a10] (st) M Q = xW xSR 184 49 [.ref a0, .int a1, .int a2, .int a3, .int a4, a5, a6, a7, a8, a9, a10] (.int a1 :: st) M Q) ∧
  (∀ (a0 : Nat) (a1 : Int32) (a2 : Int32) (a3 : Int32) (a4 : Int32) (a5 : Value) (a6 : Value) (a7 : Value) (a8 : Value) (a9 : Value) (a10 : Value) (y0 : Int32) (y1 : Int32) (st : List Value) (M : xM) (Q : Option Value → xM → Prop), xW xSR 184 49 [.ref a0, .int a1, .int a2, .int a3, .int a4, a5, a6, a7, a8, a9, a10] (.int y0 :: .int y1 :: st) M Q = xW xSR 184 50 [.ref a0, .int a1, .int a2, .int a3, .int a4, a5, a6, a7, a8, a9, a10] (.int (y1 * y0) :: st) M Q) ∧
  (∀ (a0 : Nat) (a1 : Int32) (a2 : Int32) (a3 : Int32) (a4 : Int32) (a5 : Value) (a6 : Value) (a7 : Value) (a8 : Value) (a9 : Value) (a10 : Value) (y0 : Int32) (y1 : Int32) (st : List Value) (M : xM) (Q : Option Value → xM → Prop), xW xSR 184 50 [.ref a0, .int a1, .int a2, .int a3, .int a4, a5, a6, a7, a8, a9, a10] (.int y0 :: .int y1 :: st) M Q = xW xSR 184 51 [.ref a0, .int a1, .int a2, .int a3, .int a4, a5, a6, a7, a8, a9, a10] (.int (y1 + y0) :: st) M Q) ∧
  (∀ (a0 : Nat) (a1 : Int32) (a2 : Int32) (a3 : Int32) (a4 : Int32) (a5 : Value) (a6 : Value) (a7 : Value) (a8 : Value) (a9 : Value) (a10 : Value) (st : List Value) (M : xM) (Q : Option Value → xM → Prop), xW xSR 184 51 [.ref a0, .int a1, .int a2, .int a3, .int a4, a5, a6, a7, a8, a9, a10] (st) M Q = xW xSR 184 52 [.ref a0, .int a1, .int a2, .int a3, .int a4, a5, a6, a7, a8, a9, a10] (.int (nI 2) :: st) M Q) ∧
  (∀ (a0 : Nat) (a1 : Int32) (a2 : Int32) (a3 : Int32) (a4 : Int32) (a5 : Value) (a6 : Value) (a7 : Value) (a8 : Value) (a9 : Value) (a10 : Value) (y0 : Int32) (y1 : Int32) (st : List Value) (M : xM) (Q : Option Value → xM → Prop), xW xSR 184 52 [.ref a0, .int a1, .int a2, .int a3, .int a4, a5, a6, a7, a8, a9, a10] (.int y0 :: .int y1 :: st) M Q = xW xSR 184 53 [.ref a0, .int a1, .int a2, .int a3, .int a4, a5, a6, a7, a8, a9, a10] (.int (y1 + y0) :: st) M Q) ∧
  (∀ (a0 : Nat) (a1 : Int32) (a2 : Int32) (a3 : Int32) (a4 : Int32) (a5 : Value) (a6 : Value) (a7 : Value) (a8 : Value) (a9 : Value) (a10 : Value) (y0 : Nat) (st : List Value) (M : xM) (Q : Option Value → xM → Prop), y0 < 156 → xW xSR 184 53 [.ref a0, .int a1, .int a2, .int a3, .int a4, a5, a6, a7, a8, a9, a10] (.int (nI y0) :: .ref 1 :: st) M Q = xW xSR 184 54 [.ref a0, .int a1, .int a2, .int a3, .int a4, a5, a6, a7, a8, a9, a10] (.int (M 1 y0) :: st) M Q) ∧
  (∀ (a0 : Nat) (a1 : Int32) (a2 : Int32) (a3 : Int32) (a4 : Int32) (a5 : Value) (a6 : Value) (a7 : Value) (a8 : Value) (a9 : Value) (a10 : Value) (y0 : Int32) (st : List Value) (M : xM) (Q : Option Value → xM → Prop), xW xSR 184 54 [.ref a0, .int a1, .int a2, .int a3, .int a4, a5, a6, a7, a8, a9, a10] (.int y0 :: st) M Q = if y0 < nI 0 then xW xSR 184 57 [.ref a0, .int a1, .int a2, .int a3, .int a4, a5, a6, a7, a8, a9, a10] (st) M Q else xW xSR 184 61 [.ref a0, .int a1, .int a2, .int a3, .int a4, a5, a6, a7, a8, a9, a10] (st) M Q) ∧
  (∀ (a0 : Nat) (a1 : Int32) (a2 : Int32) (a3 : Int32) (a4 : Int32) (a5 : Value) (a6 : Value) (a7 : Value) (a8 : Value) (a9 : Value) (a10 : Value) (st : List Value) (M : xM) (Q : Option Value → xM → Prop), xW xSR 184 57 [.ref a0, .int a1, .int a2, .int a3, .int a4, a5, a6, a7, a8, a9, a10] (st) M Q = xW xSR 184 58 [.ref a0, .int a1, .int a2, .int a3, .int a4, a5, a6, a7, a8, a9, a10] (.int (nI 3) :: st) M Q) ∧
  (∀ (a0 : Nat) (a1 : Int32) (a2 : Int32) (a3 : Int32) (a4 : Int32) (a5 : Value) (a6 : Value) (a7 : Value) (a8 : Value) (a9 : Value) (a10 : Value) (st : List Value) (M : xM) (Q : Option Value → xM → Prop), xW xSR 184 58 [.ref a0, .int a1, .int a2, .int a3, .int a4, a5, a6, a7, a8, a9, a10] (st) M Q = xW xSR 184 74 [.ref a0, .int a1, .int a2, .int a3, .int a4, a5, a6, a7, a8, a9, a10] (st) M Q) ∧
  (∀ (a0 : Nat) (a1 : Int32) (a2 : Int32) (a3 : Int32) (a4 : Int32) (a5 : Value) (a6 : Value) (a7 : Value) (a8 : Value) (a9 : Value) (a10 : Value) (st : List Value) (M : xM) (Q : Option Value → xM → Prop), xW xSR 184 61 [.ref a0, .int a1, .int a2, .int a3, .int a4, a5, a6, a7, a8, a9, a10] (st) M Q = xW xSR 184 62 [.ref a0, .int a1, .int a2, .int a3, .int a4, a5, a6, a7, a8, a9, a10] (.ref a0 :: st) M Q) ∧
  (∀ (a0 : Nat) (a1 : Int32) (a2 : Int32) (a3 : Int32) (a4 : Int32) (a5 : Value) (a6 : Value) (a7 : Value) (a8 : Value) (a9 : Value) (a10 : Value) (st : List Value) (M : xM) (Q : Option Value → xM → Prop), xW xSR 184 62 [.ref a0, .int a1, .int a2, .int a3, .int a4, a5, a6, a7, a8, a9, a10] (.ref 0 :: st) M Q = xW xSR 184 65 [.ref a0, .int a1, .int a2, .int a3, .int a4, a5, a6, a7, a8, a9, a10] (.ref 1 :: st) M Q) ∧
  (∀ (a0 : Nat) (a1 : Int32) (a2 : Int32) (a3 : Int32) (a4 : Int32) (a5 : Value) (a6 : Value) (a7 : Value) (a8 : Value) (a9 : Value) (a10 : Value) (st : List Value) (M : xM) (Q : Option Value → xM → Prop), xW xSR 184 65 [.ref a0, .int a1, .int a2, .int a3, .int a4, a5, a6, a7, a8, a9, a10] (st) M Q = xW xSR 184 67 [.ref a0, .int a1, .int a2, .int a3, .int a4, a5, a6, a7, a8, a9, a10] (.int (nI 51) :: st) M Q) ∧
  (∀ (a0 : Nat) (a1 : Int32) (a2 : Int32) (a3 : Int32) (a4 : Int32) (a5 : Value) (a6 : Value) (a7 : Value) (a8 : Value) (a9 : Value) (a10 : Value) (st : List Value) (M : xM) (Q : Option Value → xM → Prop), xW xSR 184 67 [.ref a0, .int a1, .int a2, .int a3, .int a4, a5, a6, a7, a8, a9, a10] (st) M Q = xW xSR 184 68 [.ref a0, .int a1, .int a2, .int a3, .int a4, a5, a6, a7, a8, a9, a10] (.int (nI 3) :: st) M Q) ∧
  (∀ (a0 : Nat) (a1 : Int32) (a2 : Int32) (a3 : Int32) (a4 : Int32) (a5 : Value) (a6 : Value) (a7 : Value) (a8 : Value) (a9 : Value) (a10 : Value) (st : List Value) (M : xM) (Q : Option Value → xM → Prop), xW xSR 184 68 [.ref a0, .int a1, .int a2, .int a3, .int a4, a5, a6, a7, a8, a9, a10] (st) M Q = xW xSR 184 69 [.ref a0, .int a1, .int a2, .int a3, .int a4, a5, a6, a7, a8, a9, a10] (.int a1 :: st) M Q) ∧
  (∀ (a0 : Nat) (a1 : Int32) (a2 : Int32) (a3 : Int32) (a4 : Int32) (a5 : Value) (a6 : Value) (a7 : Value) (a8 : Value) (a9 : Value) (a10 : Value) (y0 : Int32) (y1 : Int32) (st : List Value) (M : xM) (Q : Option Value → xM → Prop), xW xSR 184 69 [.ref a0, .int a1, .int a2, .int a3, .int a4, a5, a6, a7, a8, a9, a10] (.int y0 :: .int y1 :: st) M Q = xW xSR 184 70 [.ref a0, .int a1, .int a2, .int a3, .int a4, a5, a6, a7, a8, a9, a10] (.int (y1 * y0) :: st) M Q) ∧
  (∀ (a0 : Nat) (a1 : Int32) (a2 : Int32) (a3 : Int32) (a4 : Int32) (a5 : Value) (a6 : Value) (a7 : Value) (a8 : Value) (a9 : Value) (a10 : Value) (y0 : Int32) (y1 : Int32) (st : List Value) (M : xM) (Q : Option Value → xM → Prop), xW xSR 184 70 [.ref a0, .int a1, .int a2, .int a3, .int a4, a5, a6, a7, a8, a9, a10] (.int y0 :: .int y1 :: st) M Q = xW xSR 184 71 [.ref a0, .int a1, .int a2, .int a3, .int a4, a5, a6, a7, a8, a9, a10] (.int (y1 + y0) :: st) M Q) ∧
  (∀ (a0 : Nat) (a1 : Int32) (a2 : Int32) (a3 : Int32) (a4 : Int32) (a5 : Value) (a6 : Value) (a7 : Value) (a8 : Value) (a9 : Value) (a10 : Value) (st : List Value) (M : xM) (Q : Option Value → xM → Prop), xW xSR 184 71 [.ref a0, .int a1, .int a2, .int a3, .int a4, a5, a6, a7, a8, a9, a10] (st) M Q = xW xSR 184 72 [.ref a0, .int a1, .int a2, .int a3, .int a4, a5, a6, a7, a8, a9, a10] (.int (nI 2) :: st) M Q) ∧
  (∀ (a0 : Nat) (a1 : Int32) (a2 : Int32) (a3 : Int32) (a4 : Int32) (a5 : Value) (a6 : Value) (a7 : Value) (a8 : Value) (a9 : Value) (a10 : Value) (y0 : Int32) (y1 : Int32) (st : List Value) (M : xM) (Q : Option Value → xM → Prop), xW xSR 184 72 [.ref a0, .int a1, .int a2, .int a3, .int a4, a5, a6, a7, a8, a9, a10] (.int y0 :: .int y1 :: st) M Q = xW xSR 184 73 [.ref a0, .int a1, .int a2, .int a3, .int a4, a5, a6, a7, a8, a9, a10] (.int (y1 + y0) :: st) M Q) ∧
  (∀ (a0 : Nat) (a1 : Int32) (a2 : Int32) (a3 : Int32) (a4 : Int32) (a5 : Value) (a6 : Value) (a7 : Value) (a8 : Value) (a9 : Value) (a10 : Value) (y0 : Nat) (st : List Value) (M : xM) (Q : Option Value → xM → Prop), y0 < 156 → xW xSR 184 73 [.ref a0, .int a1, .int a2, .int a3, .int a4, a5, a6, a7, a8, a9, a10] (.int (nI y0) :: .ref 1 :: st) M Q = xW xSR 184 74 [.ref a0, .int a1, .int a2, .int a3, .int a4, a5, a6, a7, a8, a9, a10] (.int (M 1 y0) :: st) M Q) ∧
  (∀ (a0 : Nat) (a1 : Int32) (a2 : Int32) (a3 : Int32) (a4 : Int32) (a5 : Int32) (a6 : Value) (a7 : Value) (a8 : Value) (a9 : Value) (a10 : Value) (st : List Value) (M : xM) (Q : Option Value → xM → Prop), xW xSR 184 76 [.ref a0, .int a1, .int a2, .int a3, .int a4, .int a5, a6, a7, a8, a9, a10] (st) M Q = xW xSR 184 78 [.ref a0, .int a1, .int a2, .int a3, .int a4, .int a5, a6, a7, a8, a9, a10] (.int a4 :: st) M Q) ∧
  (∀ (a0 : Nat) (a1 : Int32) (a2 : Int32) (a3 : Int32) (a4 : Int32) (a5 : Int32) (a6 : Value) (a7 : Value) (a8 : Value) (a9 : Value) (a10 : Value) (st : List Value) (M : xM) (Q : Option Value → xM → Prop), xW xSR 184 78 [.ref a0, .int a1, .int a2, .int a3, .int a4, .int a5, a6, a7, a8, a9, a10] (st) M Q = xW xSR 184 79 [.ref a0, .int a1, .int a2, .int a3, .int a4, .int a5, a6, a7, a8, a9, a10] (.int a2 :: st) M Q) ∧
  (∀ (a0 : Nat) (a1 : Int32) (a2 : Int32) (a3 : Int32) (a4 : Int32) (a5 : Int32) (a6 : Value) (a7 : Value) (a8 : Value) (a9 : Value) (a10 : Value) (y0 : Int32) (y1 : Int32) (st : List Value) (M : xM) (Q : Option Value → xM → Prop), xW xSR 184 79 [.ref a0, .int a1, .int a2, .int a3, .int a4, .int a5, a6, a7, a8, a9, a10] (.int y0 :: .int y1 :: st) M Q = if y1 = y0 then xW xSR 184 82 [.ref a0, .int a1, .int a2, .int a3, .int a4, .int a5, a6, a7, a8, a9, a10] (st) M Q else xW xSR 184 93 [.ref a0, .int a1, .int a2, .int a3, .int a4, .int a5, a6, a7, a8, a9, a10] (st) M Q) ∧
  (∀ (a0 : Nat) (a1 : Int32) (a2 : Int32) (a3 : Int32) (a4 : Int32) (a5 : Int32) (a6 : Value) (a7 : Value) (a8 : Value) (a9 : Value) (a10 : Value) (st : List Value) (M : xM) (Q : Option Value → xM → Prop), xW xSR 184 82 [.ref a0, .int a1, .int a2, .int a3, .int a4, .int a5, a6, a7, a8, a9, a10] (st) M Q = xW xSR 184 83 [.ref a0, .int a1, .int a2, .int a3, .int a4, .int a5, a6, a7, a8, a9, a10] (.int a3 :: st) M Q) ∧
  (∀ (a0 : Nat) (a1 : Int32) (a2 : Int32) (a3 : Int32) (a4 : Int32) (a5 : Int32) (a6 : Value) (a7 : Value) (a8 : Value) (a9 : Value) (a10 : Value) (y0 : Int32) (st : List Value) (M : xM) (Q : Option Value → xM → Prop), xW xSR 184 83 [.ref a0, .int a1, .int a2, .int a3, .int a4, .int a5, a6, a7, a8, a9, a10] (.int y0 :: st) M Q = if y0 = nI 0 then xW xSR 184 86 [.ref a0, .int a1, .int a2, .int a3, .int a4, .int a5, a6, a7, a8, a9, a10] (st) M Q else xW xSR 184 90 [.ref a0, .int a1, .int a2, .int a3, .int a4, .int a5, a6, a7, a8, a9, a10] (st) M Q) ∧
  (∀ (a0 : Nat) (a1 : Int32) (a2 : Int32) (a3 : Int32) (a4 : Int32) (a5 : Int32) (a6 : Value) (a7 : Value) (a8 : Value) (a9 : Value) (a10 : Value) (st : List Value) (M : xM) (Q : Option Value → xM → Prop), xW xSR 184 86 [.ref a0, .int a1, .int a2, .int a3, .int a4, .int a5, a6, a7, a8, a9, a10] (st) M Q = xW xSR 184 87 [.ref a0, .int a1, .int a2, .int a3, .int a4, .int a5, a6, a7, a8, a9, a10] (.int (nI 0) :: st) M Q) ∧
  (∀ (a0 : Nat) (a1 : Int32) (a2 : Int32) (a3 : Int32) (a4 : Int32) (a5 : Int32) (a6 : Value) (a7 : Value) (a8 : Value) (a9 : Value) (a10 : Value) (st : List Value) (M : xM) (Q : Option Value → xM → Prop), xW xSR 184 87 [.ref a0, .int a1, .int a2, .int a3, .int a4, .int a5, a6, a7, a8, a9, a10] (st) M Q = xW xSR 184 92 [.ref a0, .int a1, .int a2, .int a3, .int a4, .int a5, a6, a7, a8, a9, a10] (st) M Q) ∧
  (∀ (a0 : Nat) (a1 : Int32) (a2 : Int32) (a3 : Int32) (a4 : Int32) (a5 : Int32) (a6 : Value) (a7 : Value) (a8 : Value) (a9 : Value) (a10 : Value) (st : List Value) (M : xM) (Q : Option Value → xM → Prop), xW xSR 184 90 [.ref a0, .int a1, .int a2, .int a3, .int a4, .int a5, a6, a7, a8, a9, a10] (st) M Q = xW xSR 184 92 [.ref a0, .int a1, .int a2, .int a3, .int a4, .int a5, a6, a7, a8, a9, a10] (.int (-4) :: st) M Q) ∧
  (∀ (a0 : Nat) (a1 : Int32) (a2 : Int32) (a3 : Int32) (a4 : Int32) (a5 : Int32) (a6 : Value) (a7 : Value) (a8 : Value) (a9 : Value) (a10 : Value) (st : List Value) (M : xM) (Q : Option Value → xM → Prop), xW xSR 184 93 [.ref a0, .int a1, .int a2, .int a3, .int a4, .int a5, a6, a7, a8, a9, a10] (st) M Q = xW xSR 184 94 [.ref a0, .int a1, .int a2, .int a3, .int a4, .int a5, a6, a7, a8, a9, a10] (.int (nI 0) :: st) M Q) ∧
  (∀ (a0 : Nat) (a1 : Int32) (a2 : Int32) (a3 : Int32) (a4 : Int32) (a5 : Int32) (a6 : Value) (a7 : Value) (a8 : Value) (a9 : Value) (a10 : Value) (y0 : Int32) (st : List Value) (M : xM) (Q : Option Value → xM → Prop), xW xSR 184 94 [.ref a0, .int a1, .int a2, .int a3, .int a4, .int a5, a6, a7, a8, a9, a10] (.int y0 :: st) M Q = xW xSR 184 96 [.ref a0, .int a1, .int a2, .int a3, .int a4, .int a5, .int y0, a7, a8, a9, a10] (st) M Q) ∧
  (∀ (a0 : Nat) (a1 : Int32) (a2 : Int32) (a3 : Int32) (a4 : Int32) (a5 : Int32) (a6 : Int32) (a7 : Value) (a8 : Value) (a9 : Value) (a10 : Value) (st : List Value) (M : xM) (Q : Option Value → xM → Prop), xW xSR 184 98 [.ref a0, .int a1, .int a2, .int a3, .int a4, .int a5, .int a6, a7, a8, a9, a10] (st) M Q = xW xSR 184 100 [.ref a0, .int a1, .int a2, .int a3, .int a4, .int a5, .int a6, a7, a8, a9, a10] (.int (nI 32) :: st) M Q) ∧
  (∀ (a0 : Nat) (a1 : Int32) (a2 : Int32) (a3 : Int32) (a4 : Int32) (a5 : Int32) (a6 : Int32) (a7 : Value) (a8 : Value) (a9 : Value) (a10 : Value) (y0 : Int32) (y1 : Int32) (st : List Value) (M : xM) (Q : Option Value → xM → Prop), xW xSR 184 100 [.ref a0, .int a1, .int a2, .int a3, .int a4, .int a5, .int a6, a7, a8, a9, a10] (.int y0 :: .int y1 :: st) M Q = if y1 < y0 then xW xSR 184 103 [.ref a0, .int a1, .int a2, .int a3, .int a4, .int a5, .int a6, a7, a8, a9, a10] (st) M Q else xW xSR 184 129 [.ref a0, .int a1, .int a2, .int a3, .int a4, .int a5, .int a6, a7, a8, a9, a10] (st) M Q) ∧
  (∀ (a0 : Nat) (a1 : Int32) (a2 : Int32) (a3 : Int32) (a4 : Int32) (a5 : Int32) (a6 : Int32) (a7 : Value) (a8 : Value) (a9 : Value) (a10 : Value) (st : List Value) (M : xM) (Q : Option Value → xM → Prop), xW xSR 184 103 [.ref a0, .int a1, .int a2, .int a3, .int a4, .int a5, .int a6, a7, a8, a9, a10] (st) M Q = xW xSR 184 104 [.ref a0, .int a1, .int a2, .int a3, .int a4, .int a5, .int a6, a7, a8, a9, a10] (.ref a0 :: st) M Q) ∧
  (∀ (a0 : Nat) (a1 : Int32) (a2 : Int32) (a3 : Int32) (a4 : Int32) (a5 : Int32) (a6 : Int32) (a7 : Value) (a8 : Value) (a9 : Value) (a10 : Value) (st : List Value) (M : xM) (Q : Option Value → xM → Prop), xW xSR 184 104 [.ref a0, .int a1, .int a2, .int a3, .int a4, .int a5, .int a6, a7, a8, a9, a10] (.ref 0 :: st) M Q = xW xSR 184 107 [.ref a0, .int a1, .int a2, .int a3, .int a4, .int a5, .int a6, a7, a8, a9, a10] (.ref 9 :: st) M Q) ∧
  (∀ (a0 : Nat) (a1 : Int32) (a2 : Int32) (a3 : Int32) (a4 : Int32) (a5 : Int32) (a6 : Int32) (a7 : Value) (a8 : Value) (a9 : Value) (a10 : Value) (st : List Value) (M : xM) (Q : Option Value → xM → Prop), xW xSR 184 107 [.ref a0, .int a1, .int a2, .int a3, .int a4, .int a5, .int a6, a7, a8, a9, a10] (st) M Q = xW xSR 184 109 [.ref a0, .int a1, .int a2, .int a3, .int a4, .int a5, .int a6, a7, a8, a9, a10] (.int a6 :: st) M Q) ∧
  (∀ (a0 : Nat) (a1 : Int32) (a2 : Int32) (a3 : Int32) (a4 : Int32) (a5 : Int32) (a6 : Int32) (a7 : Value) (a8 : Value) (a9 : Value) (a10 : Value) (st : List Value) (M : xM) (Q : Option Value → xM → Prop), xW xSR 184 109 [.ref a0, .int a1, .int a2, .int a3, .int a4, .int a5, .int a6, a7, a8, a9, a10] (st) M Q = xW xSR 184 111 [.ref a0, .int a1, .int a2, .int a3, .int a4, .int a5, .int a6, a7, a8, a9, a10] (.int a6 :: st) M Q) ∧
  (∀ (a0 : Nat) (a1 : Int32) (a2 : Int32) (a3 : Int32) (a4 : Int32) (a5 : Int32) (a6 : Int32) (a7 : Value) (a8 : Value) (a9 : Value) (a10 : Value) (st : List Value) (M : xM) (Q : Option Value → xM → Prop), xW xSR 184 111 [.ref a0, .int a1, .int a2, .int a3, .int a4, .int a5, .int a6, a7, a8, a9, a10] (st) M Q = xW xSR 184 112 [.ref a0, .int a1, .int a2, .int a3, .int a4, .int a5, .int a6, a7, a8, a9, a10] (.int (nI 4) :: st) M Q) ∧
  (∀ (a0 : Nat) (a1 : Int32) (a2 : Int32) (a3 : Int32) (a4 : Int32) (a5 : Int32) (a6 : Int32) (a7 : Value) (a8 : Value) (a9 : Value) (a10 : Value) (y0 : Nat) (y1 : Int32) (st : List Value) (M : xM) (Q : Option Value → xM → Prop), 0 < y0 → y0 < 2 ^ 31 → xW xSR 184 112 [.ref a0, .int a1, .int a2, .int a3, .int a4, .int a5, .int a6, a7, a8, a9, a10] (.int (nI y0) :: .int y1 :: st) M Q = xW xSR 184 113 [.ref a0, .int a1, .int a2, .int a3, .int a4, .int a5, .int a6, a7, a8, a9, a10] (.int (y1 / nI y0) :: st) M Q) ∧
  (∀ (a0 : Nat) (a1 : Int32) (a2 : Int32) (a3 : Int32) (a4 : Int32) (a5 : Int32) (a6 : Int32) (a7 : Value) (a8 : Value) (a9 : Value) (a10 : Value) (st : List Value) (M : xM) (Q : Option Value → xM → Prop), xW xSR 184 113 [.ref a0, .int a1, .int a2, .int a3, .int a4, .int a5, .int a6, a7, a8, a9, a10] (st) M Q = xW xSR 184 114 [.ref a0, .int a1, .int a2, .int a3, .int a4, .int a5, .int a6, a7, a8, a9, a10] (.int a2 :: st) M Q) ∧
  (∀ (a0 : Nat) (a1 : Int32) (a2 : Int32) (a3 : Int32) (a4 : Int32) (a5 : Int32) (a6 : Int32) (a7 : Value) (a8 : Value) (a9 : Value) (a10 : Value) (y0 : Int32) (y1 : Int32) (st : List Value) (M : xM) (Q : Option Value → xM → Prop), xW xSR 184 114 [.ref a0, .int a1, .int a2, .int a3, .int a4, .int a5, .int a6, a7, a8, a9, a10] (.int y0 :: .int y1 :: st) M Q = if y1 = y0 then xW xSR 184 117 [.ref a0, .int a1, .int a2, .int a3, .int a4, .int a5, .int a6, a7, a8, a9, a10] (st) M Q else xW xSR 184 121 [.ref a0, .int a1, .int a2, .int a3, .int a4, .int a5, .int a6, a7, a8, a9, a10] (st) M Q) ∧
  (∀ (a0 : Nat) (a1 : Int32) (a2 : Int32) (a3 : Int32) (a4 : Int32) (a5 : Int32) (a6 : Int32) (a7 : Value) (a8 : Value) (a9 : Value) (a10 : Value) (st : List Value) (M : xM) (Q : Option Value → xM → Prop), xW xSR 184 117 [.ref a0, .int a1, .int a2, .int a3, .int a4, .int a5, .int a6, a7, a8, a9, a10] (st) M Q = xW xSR 184 118 [.ref a0, .int a1, .int a2, .int a3, .int a4, .int a5, .int a6, a7, a8, a9, a10] (.int (nI 0) :: st) M Q) ∧
  (∀ (a0 : Nat) (a1 : Int32) (a2 : Int32) (a3 : Int32) (a4 : Int32) (a5 : Int32) (a6 : Int32) (a7 : Value) (a8 : Value) (a9 : Value) (a10 : Value) (st : List Value) (M : xM) (Q : Option Value → xM → Prop), xW xSR 184 118 [.ref a0, .int a1, .int a2, .int a3, .int a4, .int a5, .int a6, a7, a8, a9, a10] (st) M Q = xW xSR 184 122 [.ref a0, .int a1, .int a2, .int a3, .int a4, .int a5, .int a6, a7, a8, a9, a10] (st) M Q) ∧
  (∀ (a0 : Nat) (a1 : Int32) (a2 : Int32) (a3 : Int32) (a4 : Int32) (a5 : Int32) (a6 : Int32) (a7 : Value) (a8 : Value) (a9 : Value) (a10 : Value) (st : List Value) (M : xM) (Q : Option Value → xM → Prop), xW xSR 184 121 [.ref a0, .int a1, .int a2, .int a3, .int a4, .int a5, .int a6, a7, a8, a9, a10] (st) M Q = xW xSR 184 122 [.ref a0, .int a1, .int a2, .int a3, .int a4, .int a5, .int a6, a7, a8, a9, a10] (.int (-1) :: st) M Q) ∧
  (∀ (a0 : Nat) (a1 : Int32) (a2 : Int32) (a3 : Int32) (a4 : Int32) (a5 : Int32) (a6 : Int32) (a7 : Value) (a8 : Value) (a9 : Value) (a10 : Value) (st : List Value) (M : xM) (Q : Option Value → xM → Prop), xW xSR 184 123 [.ref a0, .int a1, .int a2, .int a3, .int a4, .int a5, .int a6, a7, a8, a9, a10] (st) M Q = xW xSR 184 126 [.ref a0, .int a1, .int a2, .int a3, .int a4, .int a5, .int (a6 + nI 1), a7, a8, a9, a10] (st) M Q) ∧
  (∀ (a0 : Nat) (a1 : Int32) (a2 : Int32) (a3 : Int32) (a4 : Int32) (a5 : Int32) (a6 : Int32) (a7 : Value) (a8 : Value) (a9 : Value) (a10 : Value) (st : List Value) (M : xM) (Q : Option Value → xM → Prop), xW xSR 184 126 [.ref a0, .int a1, .int a2, .int a3, .int a4, .int a5, .int a6, a7, a8, a9, a10] (st) M Q = xW xSR 184 96 [.ref a0, .int a1, .int a2, .int a3, .int a4, .int a5, .int a6, a7, a8, a9, a10] (st) M Q) ∧
  (∀ (a0 : Nat) (a1 : Int32) (a2 : Int32) (a3 : Int32) (a4 : Int32) (a5 : Int32) (a6 : Int32) (a7 : Value) (a8 : Value) (a9 : Value) (a10 : Value) (st : List Value) (M : xM) (Q : Option Value → xM → Prop), xW xSR 184 129 [.ref a0, .int a1, .int a2, .int a3, .int a4, .int a5, .int a6, a7, a8, a9, a10] (st) M Q = xW xSR 184 130 [.ref a0, .int a1, .int a2, .int a3, .int a4, .int a5, .int a6, a7, a8, a9, a10] (.int (nI 0) :: st) M Q) ∧
  (∀ (a0 : Nat) (a1 : Int32) (a2 : Int32) (a3 : Int32) (a4 : Int32) (a5 : Int32) (a6 : Int32) (a7 : Value) (a8 : Value) (a9 : Value) (a10 : Value) (y0 : Int32) (st : List Value) (M : xM) (Q : Option Value → xM → Prop), xW xSR 184 130 [.ref a0, .int a1, .int a2, .int a3, .int a4, .int a5, .int a6, a7, a8, a9, a10] (.int y0 :: st) M Q = xW xSR 184 132 [.ref a0, .int a1, .int a2, .int a3, .int a4, .int a5, .int y0, a7, a8, a9, a10] (st) M Q) ∧
  (∀ (a0 : Nat) (a1 : Int32) (a2 : Int32) (a3 : Int32) (a4 : Int32) (a5 : Int32) (a6 : Int32) (a7 : Value) (a8 : Value) (a9 : Value) (a10 : Value) (st : List Value) (M : xM) (Q : Option Value → xM → Prop), xW xSR 184 134 [.ref a0, .int a1, .int a2, .int a3, .int a4, .int a5, .int a6, a7, a8, a9, a10] (st) M Q = xW xSR 184 136 [.ref a0, .int a1, .int a2, .int a3, .int a4, .int a5, .int a6, a7, a8, a9, a10] (.int (nI 7) :: st) M Q) ∧
  (∀ (a0 : Nat) (a1 : Int32) (a2 : Int32) (a3 : Int32) (a4 : Int32) (a5 : Int32) (a6 : Int32) (a7 : Value) (a8 : Value) (a9 : Value) (a10 : Value) (y0 : Int32) (y1 : Int32) (st : List Value) (M : xM) (Q : Option Value → xM → Prop), xW xSR 184 136 [.ref a0, .int a1, .int a2, .int a3, .int a4, .int a5, .int a6, a7, a8, a9, a10] (.int y0 :: .int y1 :: st) M Q = if y1 < y0 then xW xSR 184 139 [.ref a0, .int a1, .int a2, .int a3, .int a4, .int a5, .int a6, a7, a8, a9, a10] (st) M Q else xW xSR 184 296 [.ref a0, .int a1, .int a2, .int a3, .int a4, .int a5, .int a6, a7, a8, a9, a10] (st) M Q) ∧
  (∀ (a0 : Nat) (a1 : Int32) (a2 : Int32) (a3 : Int32) (a4 : Int32) (a5 : Int32) (a6 : Int32) (a7 : Value) (a8 : Value) (a9 : Value) (a10 : Value) (st : List Value) (M : xM) (Q : Option Value → xM → Prop), xW xSR 184 139 [.ref a0, .int a1, .int a2, .int a3, .int a4, .int a5, .int a6, a7, a8, a9, a10] (st) M Q = xW xSR 184 140 [.ref a0, .int a1, .int a2, .int a3, .int a4, .int a5, .int a6, a7, a8, a9, a10] (.int (nI 0) :: st) M Q) ∧
  (∀ (a0 : Nat) (a1 : Int32) (a2 : Int32) (a3 : Int32) (a4 : Int32) (a5 : Int32) (a6 : Int32) (a7 : Value) (a8 : Value) (a9 : Value) (a10 : Value) (y0 : Int32) (st : List Value) (M : xM) (Q : Option Value → xM → Prop), xW xSR 184 140 [.ref a0, .int a1, .int a2, .int a3, .int a4, .int a5, .int a6, a7, a8, a9, a10] (.int y0 :: st) M Q = xW xSR 184 142 [.ref a0, .int a1, .int a2, .int a3, .int a4, .int a5, .int a6, .int y0, a8, a9, a10] (st) M Q) ∧
  (∀ (a0 : Nat) (a1 : Int32) (a2 : Int32) (a3 : Int32) (a4 : Int32) (a5 : Int32) (a6 : Int32) (a7 : Int32) (a8 : Value) (a9 : Value) (a10 : Value) (st : List Value) (M : xM) (Q : Option Value → xM → Prop), xW xSR 184 144 [.ref a0, .int a1, .int a2, .int a3, .int a4, .int a5, .int a6, .int a7, a8, a9, a10] (st) M Q = xW xSR 184 146 [.ref a0, .int a1, .int a2, .int a3, .int a4, .int a5, .int a6, .int a7, a8, a9, a10] (.int (nI 32) :: st) M Q) ∧
  (∀ (a0 : Nat) (a1 : Int32) (a2 : Int32) (a3 : Int32) (a4 : Int32) (a5 : Int32) (a6 : Int32) (a7 : Int32) (a8 : Value) (a9 : Value) (a10 : Value) (y0 : Int32) (y1 : Int32) (st : List Value) (M : xM) (Q : Option Value → xM → Prop), xW xSR 184 146 [.ref a0, .int a1, .int a2, .int a3, .int a4, .int a5, .int a6, .int a7, a8, a9, a10] (.int y0 :: .int y1 :: st) M Q = if y1 < y0 then xW xSR 184 149 [.ref a0, .int a1, .int a2, .int a3, .int a4, .int a5, .int a6, .int a7, a8, a9, a10] (st) M Q else xW xSR 184 260 [.ref a0, .int a1, .int a2, .int a3, .int a4, .int a5, .int a6, .int a7, a8, a9, a10] (st) M Q) ∧
  (∀ (a0 : Nat) (a1 : Int32) (a2 : Int32) (a3 : Int32) (a4 : Int32) (a5 : Int32) (a6 : Int32) (a7 : Int32) (a8 : Value) (a9 : Value) (a10 : Value) (st : List Value) (M : xM) (Q : Option Value → xM → Prop), xW xSR 184 149 [.ref a0, .int a1, .int a2, .int a3, .int a4, .int a5, .int a6, .int a7, a8, a9, a10] (st) M Q = xW xSR 184 151 [.ref a0, .int a1, .int a2, .int a3, .int a4, .int a5, .int a6, .int a7, a8, a9, a10] (.int a7 :: st) M Q) ∧
  (∀ (a0 : Nat) (a1 : Int32) (a2 : Int32) (a3 : Int32) (a4 : Int32) (a5 : Int32) (a6 : Int32) (a7 : Int32) (a8 : Value) (a9 : Value) (a10 : Value) (st : List Value) (M : xM) (Q : Option Value → xM → Prop), xW xSR 184 151 [.ref a0, .int a1, .int a2, .int a3, .int a4, .int a5, .int a6, .int a7, a8, a9, a10] (st) M Q = xW xSR 184 152 [.ref a0, .int a1, .int a2, .int a3, .int a4, .int a5, .int a6, .int a7, a8, a9, a10] (.int (nI 4) :: st) M Q) ∧
  (∀ (a0 : Nat) (a1 : Int32) (a2 : Int32) (a3 : Int32) (a4 : Int32) (a5 : Int32) (a6 : Int32) (a7 : Int32) (a8 : Value) (a9 : Value) (a10 : Value) (y0 : Nat) (y1 : Int32) (st : List Value) (M : xM) (Q : Option Value → xM → Prop), 0 < y0 → y0 < 2 ^ 31 → xW xSR 184 152 [.ref a0, .int a1, .int a2, .int a3, .int a4, .int a5, .int a6, .int a7, a8, a9, a10] (.int (nI y0) :: .int y1 :: st) M Q = xW xSR 184 153 [.ref a0, .int a1, .int a2, .int a3, .int a4, .int a5, .int a6, .int a7, a8, a9, a10] (.int (y1 / nI y0) :: st) M Q) ∧
  (∀ (a0 : Nat) (a1 : Int32) (a2 : Int32) (a3 : Int32) (a4 : Int32) (a5 : Int32) (a6 : Int32) (a7 : Int32) (a8 : Value) (a9 : Value) (a10 : Value) (st : List Value) (M : xM) (Q : Option Value → xM → Prop), xW xSR 184 153 [.ref a0, .int a1, .int a2, .int a3, .int a4, .int a5, .int a6, .int a7, a8, a9, a10] (st) M Q = xW xSR 184 154 [.ref a0, .int a1, .int a2, .int a3, .int a4, .int a5, .int a6, .int a7, a8, a9, a10] (.int a2 :: st) M Q) ∧
  (∀ (a0 : Nat) (a1 : Int32) (a2 : Int32) (a3 : Int32) (a4 : Int32) (a5 : Int32) (a6 : Int32) (a7 : Int32) (a8 : Value) (a9 : Value) (a10 : Value) (y0 : Int32) (y1 : Int32) (st : List Value) (M : xM) (Q : Option Value → xM → Prop), xW xSR 184 154 [.ref a0, .int a1, .int a2, .int a3, .int a4, .int a5, .int a6, .int a7, a8, a9, a10] (.int y0 :: .int y1 :: st) M Q = if y1 = y0 then xW xSR 184 157 [.ref a0, .int a1, .int a2, .int a3, .int a4, .int a5, .int a6, .int a7, a8, a9, a10] (st) M Q else xW xSR 184 161 [.ref a0, .int a1, .int a2, .int a3, .int a4, .int a5, .int a6, .int a7, a8, a9, a10] (st) M Q) ∧
  (∀ (a0 : Nat) (a1 : Int32) (a2 : Int32) (a3 : Int32) (a4 : Int32) (a5 : Int32) (a6 : Int32) (a7 : Int32) (a8 : Value) (a9 : Value) (a10 : Value) (st : List Value) (M : xM) (Q : Option Value → xM → Prop), xW xSR 184 157 [.ref a0, .int a1, .int a2, .int a3, .int a4, .int a5, .int a6, .int a7, a8, a9, a10] (st) M Q = xW xSR 184 158 [.ref a0, .int a1, .int a2, .int a3, .int a4, .int a5, .int a6, .int a7, a8, a9, a10] (.int (nI 0) :: st) M Q) ∧
  (∀ (a0 : Nat) (a1 : Int32) (a2 : Int32) (a3 : Int32) (a4 : Int32) (a5 : Int32) (a6 : Int32) (a7 : Int32) (a8 : Value) (a9 : Value) (a10 : Value) (st : List Value) (M : xM) (Q : Option Value → xM → Prop), xW xSR 184 158 [.ref a0, .int a1, .int a2, .int a3, .int a4, .int a5, .int a6, .int a7, a8, a9, a10] (st) M Q = xW xSR 184 162 [.ref a0, .int a1, .int a2, .int a3, .int a4, .int a5, .int a6, .int a7, a8, a9, a10] (st) M Q) ∧
  (∀ (a0 : Nat) (a1 : Int32) (a2 : Int32) (a3 : Int32) (a4 : Int32) (a5 : Int32) (a6 : Int32) (a7 : Int32) (a8 : Value) (a9 : Value) (a10 : Value) (st : List Value) (M : xM) (Q : Option Value → xM → Prop), xW xSR 184 161 [.ref a0, .int a1, .int a2, .int a3, .int a4, .int a5, .int a6, .int a7, a8, a9, a10] (st) M Q = xW xSR 184 162 [.ref a0, .int a1, .int a2, .int a3, .int a4, .int a5, .int a6, .int a7, a8, a9, a10] (.int (-1) :: st) M Q) ∧
  (∀ (a0 : Nat) (a1 : Int32) (a2 : Int32) (a3 : Int32) (a4 : Int32) (a5 : Int32) (a6 : Int32) (a7 : Int32) (a8 : Int32) (a9 : Value) (a10 : Value) (st : List Value) (M : xM) (Q : Option Value → xM → Prop), xW xSR 184 164 [.ref a0, .int a1, .int a2, .int a3, .int a4, .int a5, .int a6, .int a7, .int a8, a9, a10] (st) M Q = xW xSR 184 165 [.ref a0, .int a1, .int a2, .int a3, .int a4, .int a5, .int a6, .int a7, .int a8, a9, a10] (.int (nI 0) :: st) M Q) ∧
  (∀ (a0 : Nat) (a1 : Int32) (a2 : Int32) (a3 : Int32) (a4 : Int32) (a5 : Int32) (a6 : Int32) (a7 : Int32) (a8 : Int32) (a9 : Value) (a10 : Value) (y0 : Int32) (st : List Value) (M : xM) (Q : Option Value → xM → Prop), xW xSR 184 165 [.ref a0, .int a1, .int a2, .int a3, .int a4, .int a5, .int a6, .int a7, .int a8, a9, a10] (.int y0 :: st) M Q = xW xSR 184 167 [.ref a0, .int a1, .int a2, .int a3, .int a4, .int a5, .int a6, .int a7, .int a8, .int y0, a10] (st) M Q) ∧
  (∀ (a0 : Nat) (a1 : Int32) (a2 : Int32) (a3 : Int32) (a4 : Int32) (a5 : Int32) (a6 : Int32) (a7 : Int32) (a8 : Int32) (a9 : Int32) (a10 : Value) (st : List Value) (M : xM) (Q : Option Value → xM → Prop), xW xSR 184 169 [.ref a0, .int a1, .int a2, .int a3, .int a4, .int a5, .int a6, .int a7, .int a8, .int a9, a10] (st) M Q = xW xSR 184 170 [.ref a0, .int a1, .int a2, .int a3, .int a4, .int a5, .int a6, .int a7, .int a8, .int a9, a10] (.ref a0 :: st) M Q) ∧
  (∀ (a0 : Nat) (a1 : Int32) (a2 : Int32) (a3 : Int32) (a4 : Int32) (a5 : Int32) (a6 : Int32) (a7 : Int32) (a8 : Int32) (a9 : Int32) (a10 : Value) (st : List Value) (M : xM) (Q : Option Value → xM → Prop), xW xSR 184 170 [.ref a0, .int a1, .int a2, .int a3, .int a4, .int a5, .int a6, .int a7, .int a8, .int a9, a10] (.ref 0 :: st) M Q = xW xSR 184 173 [.ref a0, .int a1, .int a2, .int a3, .int a4, .int a5, .int a6, .int a7, .int a8, .int a9, a10] (.ref 1 :: st) M Q) ∧
  (∀ (a0 : Nat) (a1 : Int32) (a2 : Int32) (a3 : Int32) (a4 : Int32) (a5 : Int32) (a6 : Int32) (a7 : Int32) (a8 : Int32) (a9 : Int32) (a10 : Value) (st : List Value) (M : xM) (Q : Option Value → xM → Prop), xW xSR 184 173 [.ref a0, .int a1, .int a2, .int a3, .int a4, .int a5, .int a6, .int a7, .int a8, .int a9, a10] (st) M Q = xW xSR 184 174 [.ref a0, .int a1, .int a2, .int a3, .int a4, .int a5, .int a6, .int a7, .int a8, .int a9, a10] (.int (nI 1) :: st) M Q) ∧
  (∀ (a0 : Nat) (a1 : Int32) (a2 : Int32) (a3 : Int32) (a4 : Int32) (a5 : Int32) (a6 : Int32) (a7 : Int32) (a8 : Int32) (a9 : Int32) (a10 : Value) (y0 : Nat) (st : List Value) (M : xM) (Q : Option Value → xM → Prop), y0 < 156 → xW xSR 184 174 [.ref a0, .int a1, .int a2, .int a3, .int a4, .int a5, .int a6, .int a7, .int a8, .int a9, a10] (.int (nI y0) :: .ref 1 :: st) M Q = xW xSR 184 175 [.ref a0, .int a1, .int a2, .int a3, .int a4, .int a5, .int a6, .int a7, .int a8, .int a9, a10] (.int (M 1 y0) :: st) M Q) ∧
  (∀ (a0 : Nat) (a1 : Int32) (a2 : Int32) (a3 : Int32) (a4 : Int32) (a5 : Int32) (a6 : Int32) (a7 : Int32) (a8 : Int32) (a9 : Int32) (a10 : Value) (y0 : Int32) (y1 : Int32) (st : List Value) (M : xM) (Q : Option Value → xM → Prop), xW xSR 184 175 [.ref a0, .int a1, .int a2, .int a3, .int a4, .int a5, .int a6, .int a7, .int a8, .int a9, a10] (.int y0 :: .int y1 :: st) M Q = if y1 < y0 then xW xSR 184 178 [.ref a0, .int a1, .int a2, .int a3, .int a4, .int a5, .int a6, .int a7, .int a8, .int a9, a10] (st) M Q else xW xSR 184 245 [.ref a0, .int a1, .int a2, .int a3, .int a4, .int a5, .int a6, .int a7, .int a8, .int a9, a10] (st) M Q) ∧
  (∀ (a0 : Nat) (a1 : Int32) (a2 : Int32) (a3 : Int32) (a4 : Int32) (a5 : Int32) (a6 : Int32) (a7 : Int32) (a8 : Int32) (a9 : Int32) (a10 : Value) (st : List Value) (M : xM) (Q : Option Value → xM → Prop), xW xSR 184 178 [.ref a0, .int a1, .int a2, .int a3, .int a4, .int a5, .int a6, .int a7, .int a8, .int a9, a10] (st) M Q = xW xSR 184 180 [.ref a0, .int a1, .int a2, .int a3, .int a4, .int a5, .int a6, .int a7, .int a8, .int a9, a10] (.int a7 :: st) M Q) ∧
  (∀ (a0 : Nat) (a1 : Int32) (a2 : Int32) (a3 : Int32) (a4 : Int32) (a5 : Int32) (a6 : Int32) (a7 : Int32) (a8 : Int32) (a9 : Int32) (a10 : Value) (st : List Value) (M : xM) (Q : Option Value → xM → Prop), xW xSR 184 180 [.ref a0, .int a1, .int a2, .int a3, .int a4, .int a5, .int a6, .int a7, .int a8, .int a9, a10] (st) M Q = xW xSR 184 181 [.ref a0, .int a1, .int a2, .int a3, .int a4, .int a5, .int a6, .int a7, .int a8, .int a9, a10] (.int (nI 4) :: st) M Q) ∧
  (∀ (a0 : Nat) (a1 : Int32) (a2 : Int32) (a3 : Int32) (a4 : Int32) (a5 : Int32) (a6 : Int32) (a7 : Int32) (a8 : Int32) (a9 : Int32) (a10 : Value) (y0 : Nat) (y1 : Int32) (st : List Value) (M : xM) (Q : Option Value → xM → Prop), 0 < y0 → y0 < 2 ^ 31 → xW xSR 184 181 [.ref a0, .int a1, .int a2, .int a3, .int a4, .int a5, .int a6, .int a7, .int a8, .int a9, a10] (.int (nI y0) :: .int y1 :: st) M Q = xW xSR 184 182 [.ref a0, .int a1, .int a2, .int a3, .int a4, .int a5, .int a6, .int a7, .int a8, .int a9, a10] (.int (y1 / nI y0) :: st) M Q) ∧
  (∀ (a0 : Nat) (a1 : Int32) (a2 : Int32) (a3 : Int32) (a4 : Int32) (a5 : Int32) (a6 : Int32) (a7 : Int32) (a8 : Int32) (a9 : Int32) (a10 : Value) (st : List Value) (M : xM) (Q : Option Value → xM → Prop), xW xSR 184 182 [.ref a0, .int a1, .int a2, .int a3, .int a4, .int a5, .int a6, .int a7, .int a8, .int a9, a10] (st) M Q = xW xSR 184 183 [.ref a0, .int a1, .int a2, .int a3, .int a4, .int a5, .int a6, .int a7, .int a8, .int a9, a10] (.ref a0 :: st) M Q) ∧
  (∀ (a0 : Nat) (a1 : Int32) (a2 : Int32) (a3 : Int32) (a4 : Int32) (a5 : Int32) (a6 : Int32) (a7 : Int32) (a8 : Int32) (a9 : Int32) (a10 : Value) (st : List Value) (M : xM) (Q : Option Value → xM → Prop), xW xSR 184 183 [.ref a0, .int a1, .int a2, .int a3, .int a4, .int a5, .int a6, .int a7, .int a8, .int a9, a10] (.ref 0 :: st) M Q = xW xSR 184 186 [.ref a0, .int a1, .int a2, .int a3, .int a4, .int a5, .int a6, .int a7, .int a8, .int a9, a10] (.ref 1 :: st) M Q) ∧
  (∀ (a0 : Nat) (a1 : Int32) (a2 : Int32) (a3 : Int32) (a4 : Int32) (a5 : Int32) (a6 : Int32) (a7 : Int32) (a8 : Int32) (a9 : Int32) (a10 : Value) (st : List Value) (M : xM) (Q : Option Value → xM → Prop), xW xSR 184 186 [.ref a0, .int a1, .int a2, .int a3, .int a4, .int a5, .int a6, .int a7, .int a8, .int a9, a10] (st) M Q = xW xSR 184 187 [.ref a0, .int a1, .int a2, .int a3, .int a4, .int a5, .int a6, .int a7, .int a8, .int a9, a10] (.int (nI 0) :: st) M Q) ∧
  (∀ (a0 : Nat) (a1 : Int32) (a2 : Int32) (a3 : Int32) (a4 : Int32) (a5 : Int32) (a6 : Int32) (a7 : Int32) (a8 : Int32) (a9 : Int32) (a10 : Value) (y0 : Nat) (st : List Value) (M : xM) (Q : Option Value → xM → Prop), y0 < 156 → xW xSR 184 187 [.ref a0, .int a1, .int a2, .int a3, .int a4, .int a5, .int a6, .int a7, .int a8, .int a9, a10] (.int (nI y0) :: .ref 1 :: st) M Q = xW xSR 184 188 [.ref a0, .int a1, .int a2, .int a3, .int a4, .int a5, .int a6, .int a7, .int a8, .int a9, a10] (.int (M 1 y0) :: st) M Q) ∧
  (∀ (a0 : Nat) (a1 : Int32) (a2 : Int32) (a3 : Int32) (a4 : Int32) (a5 : Int32) (a6 : Int32) (a7 : Int32) (a8 : Int32) (a9 : Int32) (a10 : Value) (y0 : Int32) (y1 : Int32) (st : List Value) (M : xM) (Q : Option Value → xM → Prop), xW xSR 184 188 [.ref a0, .int a1, .int a2, .int a3, .int a4, .int a5, .int a6, .int a7, .int a8, .int a9, a10] (.int y0 :: .int y1 :: st) M Q = if y1 < y0 then xW xSR 184 191 [.ref a0, .int a1, .int a2, .int a3, .int a4, .int a5, .int a6, .int a7, .int a8, .int a9, a10] (st) M Q else xW xSR 184 245 [.ref a0, .int a1, .int a2, .int a3, .int a4, .int a5, .int a6, .int a7, .int a8, .int a9, a10] (st) M Q) ∧
  (∀ (a0 : Nat) (a1 : Int32) (a2 : Int32) (a3 : Int32) (a4 : Int32) (a5 : Int32) (a6 : Int32) (a7 : Int32) (a8 : Int32) (a9 : Int32) (a10 : Value) (st : List Value) (M : xM) (Q : Option Value → xM → Prop), xW xSR 184 191 [.ref a0, .int a1, .int a2, .int a3, .int a4, .int a5, .int a6, .int a7, .int a8, .int a9, a10] (st) M Q = xW xSR 184 193 [.ref a0, .int a1, .int a2, .int a3, .int a4, .int a5, .int a6, .int a7, .int a8, .int a9, a10] (.int a8 :: st) M Q) ∧
  (∀ (a0 : Nat) (a1 : Int32) (a2 : Int32) (a3 : Int32) (a4 : Int32) (a5 : Int32) (a6 : Int32) (a7 : Int32) (a8 : Int32) (a9 : Int32) (a10 : Value) (y0 : Int32) (st : List Value) (M : xM) (Q : Option Value → xM → Prop), xW xSR 184 193 [.ref a0, .int a1, .int a2, .int a3, .int a4, .int a5, .int a6, .int a7, .int a8, .int a9, a10] (.int y0 :: st) M Q = if y0 = nI 0 then xW xSR 184 245 [.ref a0, .int a1, .int a2, .int a3, .int a4, .int a5, .int a6, .int a7, .int a8, .int a9, a10] (st) M Q else xW xSR 184 196 [.ref a0, .int a1, .int a2, .int a3, .int a4, .int a5, .int a6, .int a7, .int a8, .int a9, a10] (st) M Q) ∧
  (∀ (a0 : Nat) (a1 : Int32) (a2 : Int32) (a3 : Int32) (a4 : Int32) (a5 : Int32) (a6 : Int32) (a7 : Int32) (a8 : Int32) (a9 : Int32) (a10 : Value) (st : List Value) (M : xM) (Q : Option Value → xM → Prop), xW xSR 184 196 [.ref a0, .int a1, .int a2, .int a3, .int a4, .int a5, .int a6, .int a7, .int a8, .int a9, a10] (st) M Q = xW xSR 184 197 [.ref a0, .int a1, .int a2, .int a3, .int a4, .int a5, .int a6, .int a7, .int a8, .int a9, a10] (.ref a0 :: st) M Q) ∧
  (∀ (a0 : Nat) (a1 : Int32) (a2 : Int32) (a3 : Int32) (a4 : Int32) (a5 : Int32) (a6 : Int32) (a7 : Int32) (a8 : Int32) (a9 : Int32) (a10 : Value) (st : List Value) (M : xM) (Q : Option Value → xM → Prop), xW xSR 184 197 [.ref a0, .int a1, .int a2, .int a3, .int a4, .int a5, .int a6, .int a7, .int a8, .int a9, a10] (st) M Q = xW xSR 184 198 [.ref a0, .int a1, .int a2, .int a3, .int a4, .int a5, .int a6, .int a7, .int a8, .int a9, a10] (.int a1 :: st) M Q) ∧
  (∀ (a0 : Nat) (a1 : Int32) (a2 : Int32) (a3 : Int32) (a4 : Int32) (a5 : Int32) (a6 : Int32) (a7 : Int32) (a8 : Int32) (a9 : Int32) (a10 : Value) (st : List Value) (M : xM) (Q : Option Value → xM → Prop), xW xSR 184 198 [.ref a0, .int a1, .int a2, .int a3, .int a4, .int a5, .int a6, .int a7, .int a8, .int a9, a10] (st) M Q = xW xSR 184 200 [.ref a0, .int a1, .int a2, .int a3, .int a4, .int a5, .int a6, .int a7, .int a8, .int a9, a10] (.int a9 :: st) M Q) ∧
  (∀ (a0 : Nat) (a1 : Int32) (a2 : Int32) (a3 : Int32) (a4 : Int32) (a5 : Int32) (a6 : Int32) (a7 : Int32) (a8 : Int32) (a9 : Int32) (a10 : Value) (st : List Value) (M : xM) (Q : Option Value → xM → Prop), xW xSR 184 200 [.ref a0, .int a1, .int a2, .int a3, .int a4, .int a5, .int a6, .int a7, .int a8, .int a9, a10] (st) M Q = xW xSR 184 202 [.ref a0, .int a1, .int a2, .int a3, .int a4, .int a5, .int a6, .int a7, .int a8, .int a9, a10] (.int a7 :: st) M Q) ∧
  (∀ (a0 : Nat) (a1 : Int32) (a2 : Int32) (a3 : Int32) (a4 : Int32) (a5 : Int32) (a6 : Int32) (a7 : Int32) (a8 : Int32) (a9 : Int32) (a10 : Value) (st : List Value) (M : xM) (Q : Option Value → xM → Prop), xW xSR 184 202 [.ref a0, .int a1, .int a2, .int a3, .int a4, .int a5, .int a6, .int a7, .int a8, .int a9, a10] (st) M Q = xW xSR 184 203 [.ref a0, .int a1, .int a2, .int a3, .int a4, .int a5, .int a6, .int a7, .int a8, .int a9, a10] (.int (nI 4) :: st) M Q) ∧
  (∀ (a0 : Nat) (a1 : Int32) (a2 : Int32) (a3 : Int32) (a4 : Int32) (a5 : Int32) (a6 : Int32) (a7 : Int32) (a8 : Int32) (a9 : Int32) (a10 : Value) (y0 : Nat) (y1 : Int32) (st : List Value) (M : xM) (Q : Option Value → xM → Prop), 0 < y0 → y0 < 2 ^ 31 → xW xSR 184 203 [.ref a0, .int a1, .int a2, .int a3, .int a4, .int a5, .int a6, .int a7, .int a8, .int a9, a10] (.int (nI y0) :: .int y1 :: st) M Q = xW xSR 184 204 [.ref a0, .int a1, .int a2, .int a3, .int a4, .int a5, .int a6, .int a7, .int a8, .int a9, a10] (.int (y1 / nI y0) :: st) M Q) ∧
  (∀ (a0 : Nat) (a1 : Int32) (a2 : Int32) (a3 : Int32) (a4 : Int32) (a5 : Int32) (a6 : Int32) (a7 : Int32) (a8 : Int32) (a9 : Int32) (a10 : Value) (st : List Value) (M : xM) (Q : Option Value → xM → Prop), xW xSR 184 204 [.ref a0, .int a1, .int a2, .int a3, .int a4, .int a5, .int a6, .int a7, .int a8, .int a9, a10] (st) M Q = xW xSR 184 206 [.ref a0, .int a1, .int a2, .int a3, .int a4, .int a5, .int a6, .int a7, .int a8, .int a9, a10] (.int a7 :: st) M Q) ∧
  (∀ (a0 : Nat) (a1 : Int32) (a2 : Int32) (a3 : Int32) (a4 : Int32) (a5 : Int32) (a6 : Int32) (a7 : Int32) (a8 : Int32) (a9 : Int32) (a10 : Value) (st : List Value) (M : xM) (Q : Option Value → xM → Prop), xW xSR 184 206 [.ref a0, .int a1, .int a2, .int a3, .int a4, .int a5, .int a6, .int a7, .int a8, .int a9, a10] (st) M Q = xW xSR 184 207 [.ref a0, .int a1, .int a2, .int a3, .int a4, .int a5, .int a6, .int a7, .int a8, .int a9, a10] (.int (nI 4) :: st) M Q) ∧
  (∀ (a0 : Nat) (a1 : Int32) (a2 : Int32) (a3 : Int32) (a4 : Int32) (a5 : Int32) (a6 : Int32) (a7 : Int32) (a8 : Int32) (a9 : Int32) (a10 : Value) (y0 : Nat) (y1 : Int32) (st : List Value) (M : xM) (Q : Option Value → xM → Prop), 0 < y0 → y0 < 2 ^ 31 → xW xSR 184 207 [.ref a0, .int a1, .int a2, .int a3, .int a4, .int a5, .int a6, .int a7, .int a8, .int a9, a10] (.int (nI y0) :: .int y1 :: st) M Q = xW xSR 184 208 [.ref a0, .int a1, .int a2, .int a3, .int a4, .int a5, .int a6, .int a7, .int a8, .int a9, a10] (.int (y1 - y1 / nI y0 * nI y0) :: st) M Q) ∧
  (∀ (a0 : Nat) (a1 : Int32) (a2 : Int32) (a3 : Int32) (a4 : Int32) (a5 : Int32) (a6 : Int32) (a7 : Int32) (a8 : Int32) (a9 : Int32) (a10 : Value) (y0 : Int32) (y1 : Int32) (y2 : Int32) (y3 : Int32) (M : xM) (Q : Option Value → xM → Prop), xW xSR 184 208 [.ref a0, .int a1, .int a2, .int a3, .int a4, .int a5, .int a6, .int a7, .int a8, .int a9, a10] (.int y0 :: .int y1 :: .int y2 :: .int y3 :: .ref 0 :: []) M Q = xW xSR 183 0 [.ref 0, .int y3, .int y2, .int y1, .int y0, .null, .null] [] M (fun v M' => xW xSR 184 211 [.ref a0, .int a1, .int a2, .int a3, .int a4, .int a5, .int a6, .int a7, .int a8, .int a9, a10] (xpush v []) M' Q)) ∧
  (∀ (a0 : Nat) (a1 : Int32) (a2 : Int32) (a3 : Int32) (a4 : Int32) (a5 : Int32) (a6 : Int32) (a7 : Int32) (a8 : Int32) (a9 : Int32) (a10 : Value) (y0 : Int32) (st : List Value) (M : xM) (Q : Option Value → xM → Prop), xW xSR 184 211 [.ref a0, .int a1, .int a2, .int a3, .int a4, .int a5, .int a6, .int a7, .int a8, .int a9, a10] (.int y0 :: st) M Q = xW xSR 184 213 [.ref a0, .int a1, .int a2, .int a3, .int a4, .int a5, .int a6, .int a7, .int a8, .int a9, .int y0] (st) M Q) ∧
  (∀ (a0 : Nat) (a1 : Int32) (a2 : Int32) (a3 : Int32) (a4 : Int32) (a5 : Int32) (a6 : Int32) (a7 : Int32) (a8 : Int32) (a9 : Int32) (a10 : Int32) (st : List Value) (M : xM) (Q : Option Value → xM → Prop), xW xSR 184 213 [.ref a0, .int a1, .int a2, .int a3, .int a4, .int a5, .int a6, .int a7, .int a8, .int a9, .int a10] (st) M Q = xW xSR 184 215 [.ref a0, .int a1, .int a2, .int a3, .int a4, .int a5, .int a6, .int a7, .int a8, .int a9, .int a10] (.int a10 :: st) M Q) ∧
  (∀ (a0 : Nat) (a1 : Int32) (a2 : Int32) (a3 : Int32) (a4 : Int32) (a5 : Int32) (a6 : Int32) (a7 : Int32) (a8 : Int32) (a9 : Int32) (a10 : Int32) (y0 : Int32) (st : List Value) (M : xM) (Q : Option Value → xM → Prop), xW xSR 184 215 [.ref a0, .int a1, .int a2, .int a3, .int a4, .int a5, .int a6, .int a7, .int a8, .int a9, .int a10] (.int y0 :: st) M Q = if y0 < nI 0 then xW xSR 184 235 [.ref a0, .int a1, .int a2, .int a3, .int a4, .int a5, .int a6, .int a7, .int a8, .int a9, .int a10] (st) M Q else xW xSR 184 218 [.ref a0, .int a1, .int a2, .int a3, .int a4, .int a5, .int a6, .int a7, .int a8, .int a9, .int a10] (st) M Q) ∧
  (∀ (a0 : Nat) (a1 : Int32) (a2 : Int32) (a3 : Int32) (a4 : Int32) (a5 : Int32) (a6 : Int32) (a7 : Int32) (a8 : Int32) (a9 : Int32) (a10 : Int32) (st : List Value) (M : xM) (Q : Option Value → xM → Prop), xW xSR 184 218 [.ref a0, .int a1, .int a2, .int a3, .int a4, .int a5, .int a6, .int a7, .int a8, .int a9, .int a10] (st) M Q = xW xSR 184 220 [.ref a0, .int a1, .int a2, .int a3, .int a4, .int a5, .int a6, .int a7, .int a8, .int a9, .int a10] (.int a8 :: st) M Q) ∧
  (∀ (a0 : Nat) (a1 : Int32) (a2 : Int32) (a3 : Int32) (a4 : Int32) (a5 : Int32) (a6 : Int32) (a7 : Int32) (a8 : Int32) (a9 : Int32) (a10 : Int32) (y0 : Int32) (st : List Value) (M : xM) (Q : Option Value → xM → Prop), xW xSR 184 220 [.ref a0, .int a1, .int a2, .int a3, .int a4, .int a5, .int a6, .int a7, .int a8, .int a9, .int a10] (.int y0 :: st) M Q = if y0 < nI 0 then xW xSR 184 230 [.ref a0, .int a1, .int a2, .int a3, .int a4, .int a5, .int a6, .int a7, .int a8, .int a9, .int a10] (st) M Q else xW xSR 184 223 [.ref a0, .int a1, .int a2, .int a3, .int a4, .int a5, .int a6, .int a7, .int a8, .int a9, .int a10] (st) M Q) ∧
  (∀ (a0 : Nat) (a1 : Int32) (a2 : Int32) (a3 : Int32) (a4 : Int32) (a5 : Int32) (a6 : Int32) (a7 : Int32) (a8 : Int32) (a9 : Int32) (a10 : Int32) (st : List Value) (M : xM) (Q : Option Value → xM → Prop), xW xSR 184 223 [.ref a0, .int a1, .int a2, .int a3, .int a4, .int a5, .int a6, .int a7, .int a8, .int a9, .int a10] (st) M Q = xW xSR 184 225 [.ref a0, .int a1, .int a2, .int a3, .int a4, .int a5, .int a6, .int a7, .int a8, .int a9, .int a10] (.int a10 :: st) M Q) ∧
  (∀ (a0 : Nat) (a1 : Int32) (a2 : Int32) (a3 : Int32) (a4 : Int32) (a5 : Int32) (a6 : Int32) (a7 : Int32) (a8 : Int32) (a9 : Int32) (a10 : Int32) (st : List Value) (M : xM) (Q : Option Value → xM → Prop), xW xSR 184 225 [.ref a0, .int a1, .int a2, .int a3, .int a4, .int a5, .int a6, .int a7, .int a8, .int a9, .int a10] (st) M Q = xW xSR 184 227 [.ref a0, .int a1, .int a2, .int a3, .int a4, .int a5, .int a6, .int a7, .int a8, .int a9, .int a10] (.int a8 :: st) M Q) ∧
  (∀ (a0 : Nat) (a1 : Int32) (a2 : Int32) (a3 : Int32) (a4 : Int32) (a5 : Int32) (a6 : Int32) (a7 : Int32) (a8 : Int32) (a9 : Int32) (a10 : Int32) (y0 : Int32) (y1 : Int32) (st : List Value) (M : xM) (Q : Option Value → xM → Prop), xW xSR 184 227 [.ref a0, .int a1, .int a2, .int a3, .int a4, .int a5, .int a6, .int a7, .int a8, .int a9, .int a10] (.int y0 :: .int y1 :: st) M Q = if y1 < y0 then xW xSR 184 230 [.ref a0, .int a1, .int a2, .int a3, .int a4, .int a5, .int a6, .int a7, .int a8, .int a9, .int a10] (st) M Q else xW xSR 184 235 [.ref a0, .int a1, .int a2, .int a3, .int a4, .int a5, .int a6, .int a7, .int a8, .int a9, .int a10] (st) M Q) ∧
  (∀ (a0 : Nat) (a1 : Int32) (a2 : Int32) (a3 : Int32) (a4 : Int32) (a5 : Int32) (a6 : Int32) (a7 : Int32) (a8 : Int32) (a9 : Int32) (a10 : Int32) (st : List Value) (M : xM) (Q : Option Value → xM → Prop), xW xSR 184 232 [.ref a0, .int a1, .int a2, .int a3, .int a4, .int a5, .int a6, .int a7, .int a8, .int a9, .int a10] (st) M Q = xW xSR 184 237 [.ref a0, .int a1, .int a2, .int a3, .int a4, .int a5, .int a6, .int a7, .int a8, .int a9, .int a10] (st) M Q) ∧
  (∀ (a0 : Nat) (a1 : Int32) (a2 : Int32) (a3 : Int32) (a4 : Int32) (a5 : Int32) (a6 : Int32) (a7 : Int32) (a8 : Int32) (a9 : Int32) (a10 : Int32) (st : List Value) (M : xM) (Q : Option Value → xM → Prop), xW xSR 184 239 [.ref a0, .int a1, .int a2, .int a3, .int a4, .int a5, .int a6, .int a7, .int a8, .int a9, .int a10] (st) M Q = xW xSR 184 242 [.ref a0, .int a1, .int a2, .int a3, .int a4, .int a5, .int a6, .int a7, .int a8, .int (a9 + nI 1), .int a10] (st) M Q) ∧
  (∀ (a0 : Nat) (a1 : Int32) (a2 : Int32) (a3 : Int32) (a4 : Int32) (a5 : Int32) (a6 : Int32) (a7 : Int32) (a8 : Int32) (a9 : Int32) (a10 : Int32) (st : List Value) (M : xM) (Q : Option Value → xM → Prop), xW xSR 184 242 [.ref a0, .int a1, .int a2, .int a3, .int a4, .int a5, .int a6, .int a7, .int a8, .int a9, .int a10] (st) M Q = xW xSR 184 167 [.ref a0, .int a1, .int a2, .int a3, .int a4, .int a5, .int a6, .int a7, .int a8, .int a9, .int a10] (st) M Q) ∧
  (∀ (a0 : Nat) (a1 : Int32) (a2 : Int32) (a3 : Int32) (a4 : Int32) (a5 : Int32) (a6 : Int32) (a7 : Int32) (a8 : Int32) (a9 : Int32) (a10 : Value) (st : List Value) (M : xM) (Q : Option Value → xM → Prop), xW xSR 184 246 [.ref a0, .int a1, .int a2, .int a3, .int a4, .int a5, .int a6, .int a7, .int a8, .int a9, a10] (.ref 0 :: st) M Q = xW xSR 184 249 [.ref a0, .int a1, .int a2, .int a3, .int a4, .int a5, .int a6, .int a7, .int a8, .int a9, a10] (.ref 10 :: st) M Q) ∧
  (∀ (a0 : Nat) (a1 : Int32) (a2 : Int32) (a3 : Int32) (a4 : Int32) (a5 : Int32) (a6 : Int32) (a7 : Int32) (a8 : Int32) (a9 : Int32) (a10 : Value) (st : List Value) (M : xM) (Q : Option Value → xM → Prop), xW xSR 184 249 [.ref a0, .int a1, .int a2, .int a3, .int a4, .int a5, .int a6, .int a7, .int a8, .int a9, a10] (st) M Q = xW xSR 184 251 [.ref a0, .int a1, .int a2, .int a3, .int a4, .int a5, .int a6, .int a7, .int a8, .int a9, a10] (.int a7 :: st) M Q) ∧
  (∀ (a0 : Nat) (a1 : Int32) (a2 : Int32) (a3 : Int32) (a4 : Int32) (a5 : Int32) (a6 : Int32) (a7 : Int32) (a8 : Int32) (a9 : Int32) (a10 : Value) (st : List Value) (M : xM) (Q : Option Value → xM → Prop), xW xSR 184 251 [.ref a0, .int a1, .int a2, .int a3, .int a4, .int a5, .int a6, .int a7, .int a8, .int a9, a10] (st) M Q = xW xSR 184 253 [.ref a0, .int a1, .int a2, .int a3, .int a4, .int a5, .int a6, .int a7, .int a8, .int a9, a10] (.int a8 :: st) M Q) ∧
  (∀ (a0 : Nat) (a1 : Int32) (a2 : Int32) (a3 : Int32) (a4 : Int32) (a5 : Int32) (a6 : Int32) (a7 : Int32) (a8 : Int32) (a9 : Int32) (a10 : Value) (y0 : Int32) (y1 : Nat) (st : List Value) (M : xM) (Q : Option Value → xM → Prop), y1 < 32 → xW xSR 184 253 [.ref a0, .int a1, .int a2, .int a3, .int a4, .int a5, .int a6, .int a7, .int a8, .int a9, a10] (.int y0 :: .int (nI y1) :: .ref 10 :: st) M Q = xW xSR 184 254 [.ref a0, .int a1, .int a2, .int a3, .int a4, .int a5, .int a6, .int a7, .int a8, .int a9, a10] (st) (xup M 10 y1 y0) Q) ∧
  (∀ (a0 : Nat) (a1 : Int32) (a2 : Int32) (a3 : Int32) (a4 : Int32) (a5 : Int32) (a6 : Int32) (a7 : Int32) (a8 : Int32) (a9 : Int32) (a10 : Value) (st : List Value) (M : xM) (Q : Option Value → xM → Prop), xW xSR 184 254 [.ref a0, .int a1, .int a2, .int a3, .int a4, .int a5, .int a6, .int a7, .int a8, .int a9, a10] (st) M Q = xW xSR 184 257 [.ref a0, .int a1, .int a2, .int a3, .int a4, .int a5, .int a6, .int (a7 + nI 1), .int a8, .int a9, a10] (st) M Q) ∧
  (∀ (a0 : Nat) (a1 : Int32) (a2 : Int32) (a3 : Int32) (a4 : Int32) (a5 : Int32) (a6 : Int32) (a7 : Int32) (a8 : Int32) (a9 : Int32) (a10 : Value) (st : List Value) (M : xM) (Q : Option Value → xM → Prop), xW xSR 184 257 [.ref a0, .int a1, .int a2, .int a3, .int a4, .int a5, .int a6, .int a7, .int a8, .int a9, a10] (st) M Q = xW xSR 184 142 [.ref a0, .int a1, .int a2, .int a3, .int a4, .int a5, .int a6, .int a7, .int a8, .int a9, a10] (st) M Q) ∧
  (∀ (a0 : Nat) (a1 : Int32) (a2 : Int32) (a3 : Int32) (a4 : Int32) (a5 : Int32) (a6 : Int32) (a7 : Int32) (a8 : Value) (a9 : Value) (a10 : Value) (st : List Value) (M : xM) (Q : Option Value → xM → Prop), xW xSR 184 260 [.ref a0, .int a1, .int a2, .int a3, .int a4, .int a5, .int a6, .int a7, a8, a9, a10] (st) M Q = xW xSR 184 261 [.ref a0, .int a1, .int a2, .int a3, .int a4, .int a5, .int a6, .int a7, a8, a9, a10] (.int (nI 0) :: st) M Q) ∧
  (∀ (a0 : Nat) (a1 : Int32) (a2 : Int32) (a3 : Int32) (a4 : Int32) (a5 : Int32) (a6 : Int32) (a7 : Int32) (a8 : Value) (a9 : Value) (a10 : Value) (y0 : Int32) (st : List Value) (M : xM) (Q : Option Value → xM → Prop), xW xSR 184 261 [.ref a0, .int a1, .int a2, .int a3, .int a4, .int a5, .int a6, .int a7, a8, a9, a10] (.int y0 :: st) M Q = xW xSR 184 263 [.ref a0, .int a1, .int a2, .int a3, .int a4, .int a5, .int a6, .int y0, a8, a9, a10] (st) M Q) ∧
  (∀ (a0 : Nat) (a1 : Int32) (a2 : Int32) (a3 : Int32) (a4 : Int32) (a5 : Int32) (a6 : Int32) (a7 : Int32) (a8 : Value) (a9 : Value) (a10 : Value) (st : List Value) (M : xM) (Q : Option Value → xM → Prop), xW xSR 184 265 [.ref a0, .int a1, .int a2, .int a3, .int a4, .int a5, .int a6, .int a7, a8, a9, a10] (st) M Q = xW xSR 184 267 [.ref a0, .int a1, .int a2, .int a3, .int a4, .int a5, .int a6, .int a7, a8, a9, a10] (.int (nI 32) :: st) M Q) ∧
  (∀ (a0 : Nat) (a1 : Int32) (a2 : Int32) (a3 : Int32) (a4 : Int32) (a5 : Int32) (a6 : Int32) (a7 : Int32) (a8 : Value) (a9 : Value) (a10 : Value) (y0 : Int32) (y1 : Int32) (st : List Value) (M : xM) (Q : Option Value → xM → Prop), xW xSR 184 267 [.ref a0, .int a1, .int a2, .int a3, .int a4, .int a5, .int a6, .int a7, a8, a9, a10] (.int y0 :: .int y1 :: st) M Q = if y1 < y0 then xW xSR 184 270 [.ref a0, .int a1, .int a2, .int a3, .int a4, .int a5, .int a6, .int a7, a8, a9, a10] (st) M Q else xW xSR 184 290 [.ref a0, .int a1, .int a2, .int a3, .int a4, .int a5, .int a6, .int a7, a8, a9, a10] (st) M Q) ∧
  (∀ (a0 : Nat) (a1 : Int32) (a2 : Int32) (a3 : Int32) (a4 : Int32) (a5 : Int32) (a6 : Int32) (a7 : Int32) (a8 : Value) (a9 : Value) (a10 : Value) (st : List Value) (M : xM) (Q : Option Value → xM → Prop), xW xSR 184 270 [.ref a0, .int a1, .int a2, .int a3, .int a4, .int a5, .int a6, .int a7, a8, a9, a10] (st) M Q = xW xSR 184 271 [.ref a0, .int a1, .int a2, .int a3, .int a4, .int a5, .int a6, .int a7, a8, a9, a10] (.ref a0 :: st) M Q) ∧
  (∀ (a0 : Nat) (a1 : Int32) (a2 : Int32) (a3 : Int32) (a4 : Int32) (a5 : Int32) (a6 : Int32) (a7 : Int32) (a8 : Value) (a9 : Value) (a10 : Value) (st : List Value) (M : xM) (Q : Option Value → xM → Prop), xW xSR 184 271 [.ref a0, .int a1, .int a2, .int a3, .int a4, .int a5, .int a6, .int a7, a8, a9, a10] (.ref 0 :: st) M Q = xW xSR 184 274 [.ref a0, .int a1, .int a2, .int a3, .int a4, .int a5, .int a6, .int a7, a8, a9, a10] (.ref 9 :: st) M Q) ∧
  (∀ (a0 : Nat) (a1 : Int32) (a2 : Int32) (a3 : Int32) (a4 : Int32) (a5 : Int32) (a6 : Int32) (a7 : Int32) (a8 : Value) (a9 : Value) (a10 : Value) (st : List Value) (M : xM) (Q : Option Value → xM → Prop), xW xSR 184 274 [.ref a0, .int a1, .int a2, .int a3, .int a4, .int a5, .int a6, .int a7, a8, a9, a10] (st) M Q = xW xSR 184 276 [.ref a0, .int a1, .int a2, .int a3, .int a4, .int a5, .int a6, .int a7, a8, a9, a10] (.int a7 :: st) M Q) ∧
  (∀ (a0 : Nat) (a1 : Int32) (a2 : Int32) (a3 : Int32) (a4 : Int32) (a5 : Int32) (a6 : Int32) (a7 : Int32) (a8 : Value) (a9 : Value) (a10 : Value) (st : List Value) (M : xM) (Q : Option Value → xM → Prop), xW xSR 184 276 [.ref a0, .int a1, .int a2, .int a3, .int a4, .int a5, .int a6, .int a7, a8, a9, a10] (st) M Q = xW xSR 184 277 [.ref a0, .int a1, .int a2, .int a3, .int a4, .int a5, .int a6, .int a7, a8, a9, a10] (.ref a0 :: st) M Q) ∧
  (∀ (a0 : Nat) (a1 : Int32) (a2 : Int32) (a3 : Int32) (a4 : Int32) (a5 : Int32) (a6 : Int32) (a7 : Int32) (a8 : Value) (a9 : Value) (a10 : Value) (st : List Value) (M : xM) (Q : Option Value → xM → Prop), xW xSR 184 277 [.ref a0, .int a1, .int a2, .int a3, .int a4, .int a5, .int a6, .int a7, a8, a9, a10] (.ref 0 :: st) M Q = xW xSR 184 280 [.ref a0, .int a1, .int a2, .int a3, .int a4, .int a5, .int a6, .int a7, a8, a9, a10] (.ref 10 :: st) M Q) ∧
  (∀ (a0 : Nat) (a1 : Int32) (a2 : Int32) (a3 : Int32) (a4 : Int32) (a5 : Int32) (a6 : Int32) (a7 : Int32) (a8 : Value) (a9 : Value) (a10 : Value) (st : List Value) (M : xM) (Q : Option Value → xM → Prop), xW xSR 184 280 [.ref a0, .int a1, .int a2, .int a3, .int a4, .int a5, .int a6, .int a7, a8, a9, a10] (st) M Q = xW xSR 184 282 [.ref a0, .int a1, .int a2, .int a3, .int a4, .int a5, .int a6, .int a7, a8, a9, a10] (.int a7 :: st) M Q) ∧
  (∀ (a0 : Nat) (a1 : Int32) (a2 : Int32) (a3 : Int32) (a4 : Int32) (a5 : Int32) (a6 : Int32) (a7 : Int32) (a8 : Value) (a9 : Value) (a10 : Value) (y0 : Nat) (st : List Value) (M : xM) (Q : Option Value → xM → Prop), y0 < 32 → xW xSR 184 282 [.ref a0, .int a1, .int a2, .int a3, .int a4, .int a5, .int a6, .int a7, a8, a9, a10] (.int (nI y0) :: .ref 10 :: st) M Q = xW xSR 184 283 [.ref a0, .int a1, .int a2, .int a3, .int a4, .int a5, .int a6, .int a7, a8, a9, a10] (.int (M 10 y0) :: st) M Q) ∧
  (∀ (a0 : Nat) (a1 : Int32) (a2 : Int32) (a3 : Int32) (a4 : Int32) (a5 : Int32) (a6 : Int32) (a7 : Int32) (a8 : Value) (a9 : Value) (a10 : Value) (y0 : Int32) (y1 : Nat) (st : List Value) (M : xM) (Q : Option Value → xM → Prop), y1 < 32 → xW xSR 184 283 [.ref a0, .int a1, .int a2, .int a3, .int a4, .int a5, .int a6, .int a7, a8, a9, a10] (.int y0 :: .int (nI y1) :: .ref 9 :: st) M Q = xW xSR 184 284 [.ref a0, .int a1, .int a2, .int a3, .int a4, .int a5, .int a6, .int a7, a8, a9, a10] (st) (xup M 9 y1 y0) Q) ∧
  (∀ (a0 : Nat) (a1 : Int32) (a2 : Int32) (a3 : Int32) (a4 : Int32) (a5 : Int32) (a6 : Int32) (a7 : Int32) (a8 : Value) (a9 : Value) (a10 : Value) (st : List Value) (M : xM) (Q : Option Value → xM → Prop), xW xSR 184 284 [.ref a0, .int a1, .int a2, .int a3, .int a4, .int a5, .int a6, .int a7, a8, a9, a10] (st) M Q = xW xSR 184 287 [.ref a0, .int a1, .int a2, .int a3, .int a4, .int a5, .int a6, .int (a7 + nI 1), a8, a9, a10] (st) M Q) ∧
  (∀ (a0 : Nat) (a1 : Int32) (a2 : Int32) (a3 : Int32) (a4 : Int32) (a5 : Int32) (a6 : Int32) (a7 : Int32) (a8 : Value) (a9 : Value) (a10 : Value) (st : List Value) (M : xM) (Q : Option Value → xM → Prop), xW xSR 184 287 [.ref a0, .int a1, .int a2, .int a3, .int a4, .int a5, .int a6, .int a7, a8, a9, a10] (st) M Q = xW xSR 184 263 [.ref a0, .int a1, .int a2, .int a3, .int a4, .int a5, .int a6, .int a7, a8, a9, a10] (st) M Q) ∧
  (∀ (a0 : Nat) (a1 : Int32) (a2 : Int32) (a3 : Int32) (a4 : Int32) (a5 : Int32) (a6 : Int32) (a7 : Int32) (a8 : Value) (a9 : Value) (a10 : Value) (st : List Value) (M : xM) (Q : Option Value → xM → Prop), xW xSR 184 290 [.ref a0, .int a1, .int a2, .int a3, .int a4, .int a5, .int a6, .int a7, a8, a9, a10] (st) M Q = xW xSR 184 293 [.ref a0, .int a1, .int a2, .int a3, .int a4, .int a5, .int (a6 + nI 1), .int a7, a8, a9, a10] (st) M Q) ∧
  (∀ (a0 : Nat) (a1 : Int32) (a2 : Int32) (a3 : Int32) (a4 : Int32) (a5 : Int32) (a6 : Int32) (a7 : Int32) (a8 : Value) (a9 : Value) (a10 : Value) (st : List Value) (M : xM) (Q : Option Value → xM → Prop), xW xSR 184 293 [.ref a0, .int a1, .int a2, .int a3, .int a4, .int a5, .int a6, .int a7, a8, a9, a10] (st) M Q = xW xSR 184 132 [.ref a0, .int a1, .int a2, .int a3, .int a4, .int a5, .int a6, .int a7, a8, a9, a10] (st) M Q) ∧
  (∀ (a0 : Nat) (a1 : Int32) (a2 : Int32) (a3 : Int32) (a4 : Int32) (a5 : Int32) (a6 : Int32) (a7 : Value) (a8 : Value) (a9 : Value) (a10 : Value) (st : List Value) (M : xM) (Q : Option Value → xM → Prop), xW xSR 184 296 [.ref a0, .int a1, .int a2, .int a3, .int a4, .int a5, .int a6, a7, a8, a9, a10] (st) M Q = xW xSR 184 297 [.ref a0, .int a1, .int a2, .int a3, .int a4, .int a5, .int a6, a7, a8, a9, a10] (.int (-1) :: st) M Q) ∧
  (∀ (a0 : Nat) (a1 : Int32) (a2 : Int32) (a3 : Int32) (a4 : Int32) (a5 : Int32) (a6 : Int32) (a7 : Value) (a8 : Value) (a9 : Value) (a10 : Value) (y0 : Int32) (st : List Value) (M : xM) (Q : Option Value → xM → Prop), xW xSR 184 297 [.ref a0, .int a1, .int a2, .int a3, .int a4, .int a5, .int a6, a7, a8, a9, a10] (.int y0 :: st) M Q = xW xSR 184 299 [.ref a0, .int a1, .int a2, .int a3, .int a4, .int a5, .int y0, a7, a8, a9, a10] (st) M Q) ∧
  (∀ (a0 : Nat) (a1 : Int32) (a2 : Int32) (a3 : Int32) (a4 : Int32) (a5 : Int32) (a6 : Int32) (a7 : Value) (a8 : Value) (a9 : Value) (a10 : Value) (st : List Value) (M : xM) (Q : Option Value → xM → Prop), xW xSR 184 299 [.ref a0, .int a1, .int a2, .int a3, .int a4, .int a5, .int a6, a7, a8, a9, a10] (st) M Q = xW xSR 184 301 [.ref a0, .int a1, .int a2, .int a3, .int a4, .int a5, .int a6, a7, a8, a9, a10] (.int (-4) :: st) M Q) ∧
  (∀ (a0 : Nat) (a1 : Int32) (a2 : Int32) (a3 : Int32) (a4 : Int32) (a5 : Int32) (a6 : Int32) (a7 : Value) (a8 : Value) (a9 : Value) (a10 : Value) (y0 : Int32) (st : List Value) (M : xM) (Q : Option Value → xM → Prop), xW xSR 184 301 [.ref a0, .int a1, .int a2, .int a3, .int a4, .int a5, .int a6, a7, a8, a9, a10] (.int y0 :: st) M Q = xW xSR 184 303 [.ref a0, .int a1, .int a2, .int a3, .int a4, .int a5, .int a6, .int y0, a8, a9, a10] (st) M Q) ∧
  (∀ (a0 : Nat) (a1 : Int32) (a2 : Int32) (a3 : Int32) (a4 : Int32) (a5 : Int32) (a6 : Int32) (a7 : Int32) (a8 : Value) (a9 : Value) (a10 : Value) (st : List Value) (M : xM) (Q : Option Value → xM → Prop), xW xSR 184 303 [.ref a0, .int a1, .int a2, .int a3, .int a4, .int a5, .int a6, .int a7, a8, a9, a10] (st) M Q = xW xSR 184 304 [.ref a0, .int a1, .int a2, .int a3, .int a4, .int a5, .int a6, .int a7, a8, a9, a10] (.int (nI 0) :: st) M Q) ∧
  (∀ (a0 : Nat) (a1 : Int32) (a2 : Int32) (a3 : Int32) (a4 : Int32) (a5 : Int32) (a6 : Int32) (a7 : Int32) (a8 : Value) (a9 : Value) (a10 : Value) (y0 : Int32) (st : List Value) (M : xM) (Q : Option Value → xM → Prop), xW xSR 184 304 [.ref a0, .int a1, .int a2, .int a3, .int a4, .int a5, .int a6, .int a7, a8, a9, a10] (.int y0 :: st) M Q = xW xSR 184 306 [.ref a0, .int a1, .int a2, .int a3, .int a4, .int a5, .int a6, .int a7, .int y0, a9, a10] (st) M Q) ∧
  (∀ (a0 : Nat) (a1 : Int32) (a2 : Int32) (a3 : Int32) (a4 : Int32) (a5 : Int32) (a6 : Int32) (a7 : Int32) (a8 : Int32) (a9 : Value) (a10 : Value) (st : List Value) (M : xM) (Q : Option Value → xM → Prop), xW xSR 184 308 [.ref a0, .int a1, .int a2, .int a3, .int a4, .int a5, .int a6, .int a7, .int a8, a9, a10] (st) M Q = xW xSR 184 309 [.ref a0, .int a1, .int a2, .int a3, .int a4, .int a5, .int a6, .int a7, .int a8, a9, a10] (.ref a0 :: st) M Q) ∧
  (∀ (a0 : Nat) (a1 : Int32) (a2 : Int32) (a3 : Int32) (a4 : Int32) (a5 : Int32) (a6 : Int32) (a7 : Int32) (a8 : Int32) (a9 : Value) (a10 : Value) (st : List Value) (M : xM) (Q : Option Value → xM → Prop), xW xSR 184 309 [.ref a0, .int a1, .int a2, .int a3, .int a4, .int a5, .int a6, .int a7, .int a8, a9, a10] (.ref 0 :: st) M Q = xW xSR 184 312 [.ref a0, .int a1, .int a2, .int a3, .int a4, .int a5, .int a6, .int a7, .int a8, a9, a10] (.ref 1 :: st) M Q) ∧
  (∀ (a0 : Nat) (a1 : Int32) (a2 : Int32) (a3 : Int32) (a4 : Int32) (a5 : Int32) (a6 : Int32) (a7 : Int32) (a8 : Int32) (a9 : Value) (a10 : Value) (st : List Value) (M : xM) (Q : Option Value → xM → Prop), xW xSR 184 312 [.ref a0, .int a1, .int a2, .int a3, .int a4, .int a5, .int a6, .int a7, .int a8, a9, a10] (st) M Q = xW xSR 184 313 [.ref a0, .int a1, .int a2, .int a3, .int a4, .int a5, .int a6, .int a7, .int a8, a9, a10] (.int (nI 1) :: st) M Q) ∧
  (∀ (a0 : Nat) (a1 : Int32) (a2 : Int32) (a3 : Int32) (a4 : Int32) (a5 : Int32) (a6 : Int32) (a7 : Int32) (a8 : Int32) (a9 : Value) (a10 : Value) (y0 : Nat) (st : List Value) (M : xM) (Q : Option Value → xM → Prop), y0 < 156 → xW xSR 184 313 [.ref a0, .int a1, .int a2, .int a3, .int a4, .int a5, .int a6, .int a7, .int a8, a9, a10] (.int (nI y0) :: .ref 1 :: st) M Q = xW xSR 184 314 [.ref a0, .int a1, .int a2, .int a3, .int a4, .int a5, .int a6, .int a7, .int a8, a9, a10] (.int (M 1 y0) :: st) M Q) ∧
  (∀ (a0 : Nat) (a1 : Int32) (a2 : Int32) (a3 : Int32) (a4 : Int32) (a5 : Int32) (a6 : Int32) (a7 : Int32) (a8 : Int32) (a9 : Value) (a10 : Value) (y0 : Int32) (y1 : Int32) (st : List Value) (M : xM) (Q : Option Value → xM → Prop), xW xSR 184 314 [.ref a0, .int a1, .int a2, .int a3, .int a4, .int a5, .int a6, .int a7, .int a8, a9, a10] (.int y0 :: .int y1 :: st) M Q = if y1 < y0 then xW xSR 184 317 [.ref a0, .int a1, .int a2, .int a3, .int a4, .int a5, .int a6, .int a7, .int a8, a9, a10] (st) M Q else xW xSR 184 388 [.ref a0, .int a1, .int a2, .int a3, .int a4, .int a5, .int a6, .int a7, .int a8, a9, a10] (st) M Q) ∧
  (∀ (a0 : Nat) (a1 : Int32) (a2 : Int32) (a3 : Int32) (a4 : Int32) (a5 : Int32) (a6 : Int32) (a7 : Int32) (a8 : Int32) (a9 : Value) (a10 : Value) (st : List Value) (M : xM) (Q : Option Value → xM → Prop), xW xSR 184 317 [.ref a0, .int a1, .int a2, .int a3, .int a4, .int a5, .int a6, .int a7, .int a8, a9, a10] (st) M Q = xW xSR 184 318 [.ref a0, .int a1, .int a2, .int a3, .int a4, .int a5, .int a6, .int a7, .int a8, a9, a10] (.ref a0 :: st) M Q) ∧
  (∀ (a0 : Nat) (a1 : Int32) (a2 : Int32) (a3 : Int32) (a4 : Int32) (a5 : Int32) (a6 : Int32) (a7 : Int32) (a8 : Int32) (a9 : Value) (a10 : Value) (st : List Value) (M : xM) (Q : Option Value → xM → Prop), xW xSR 184 318 [.ref a0, .int a1, .int a2, .int a3, .int a4, .int a5, .int a6, .int a7, .int a8, a9, a10] (st) M Q = xW xSR 184 319 [.ref a0, .int a1, .int a2, .int a3, .int a4, .int a5, .int a6, .int a7, .int a8, a9, a10] (.int a1 :: st) M Q) ∧
  (∀ (a0 : Nat) (a1 : Int32) (a2 : Int32) (a3 : Int32) (a4 : Int32) (a5 : Int32) (a6 : Int32) (a7 : Int32) (a8 : Int32) (a9 : Value) (a10 : Value) (st : List Value) (M : xM) (Q : Option Value → xM → Prop), xW xSR 184 319 [.ref a0, .int a1, .int a2, .int a3, .int a4, .int a5, .int a6, .int a7, .int a8, a9, a10] (st) M Q = xW xSR 184 321 [.ref a0, .int a1, .int a2, .int a3, .int a4, .int a5, .int a6, .int a7, .int a8, a9, a10] (.int a8 :: st) M Q) ∧
  (∀ (a0 : Nat) (a1 : Int32) (a2 : Int32) (a3 : Int32) (a4 : Int32) (a5 : Int32) (a6 : Int32) (a7 : Int32) (a8 : Int32) (a9 : Value) (a10 : Value) (st : List Value) (M : xM) (Q : Option Value → xM → Prop), xW xSR 184 321 [.ref a0, .int a1, .int a2, .int a3, .int a4, .int a5, .int a6, .int a7, .int a8, a9, a10] (st) M Q = xW xSR 184 323 [.ref a0, .int a1, .int a2, .int a3, .int a4, .int a5, .int a6, .int a7, .int a8, a9, a10] (.int a4 :: st) M Q) ∧
  (∀ (a0 : Nat) (a1 : Int32) (a2 : Int32) (a3 : Int32) (a4 : Int32) (a5 : Int32) (a6 : Int32) (a7 : Int32) (a8 : Int32) (a9 : Value) (a10 : Value) (st : List Value) (M : xM) (Q : Option Value → xM → Prop), xW xSR 184 323 [.ref a0, .int a1, .int a2, .int a3, .int a4, .int a5, .int a6, .int a7, .int a8, a9, a10] (st) M Q = xW xSR 184 325 [.ref a0, .int a1, .int a2, .int a3, .int a4, .int a5, .int a6, .int a7, .int a8, a9, a10] (.int a5 :: st) M Q) ∧
  (∀ (a0 : Nat) (a1 : Int32) (a2 : Int32) (a3 : Int32) (a4 : Int32) (a5 : Int32) (a6 : Int32) (a7 : Int32) (a8 : Int32) (a9 : Value) (a10 : Value) (y0 : Int32) (y1 : Int32) (y2 : Int32) (y3 : Int32) (M : xM) (Q : Option Value → xM → Prop), xW xSR 184 325 [.ref a0, .int a1, .int a2, .int a3, .int a4, .int a5, .int a6, .int a7, .int a8, a9, a10] (.int y0 :: .int y1 :: .int y2 :: .int y3 :: .ref 0 :: []) M Q = xW xSR 183 0 [.ref 0, .int y3, .int y2, .int y1, .int y0, .null, .null] [] M (fun v M' => xW xSR 184 328 [.ref a0, .int a1, .int a2, .int a3, .int a4, .int a5, .int a6, .int a7, .int a8, a9, a10] (xpush v []) M' Q)) ∧
  (∀ (a0 : Nat) (a1 : Int32) (a2 : Int32) (a3 : Int32) (a4 : Int32) (a5 : Int32) (a6 : Int32) (a7 : Int32) (a8 : Int32) (a9 : Value) (a10 : Value) (y0 : Int32) (st : List Value) (M : xM) (Q : Option Value → xM → Prop), xW xSR 184 328 [.ref a0, .int a1, .int a2, .int a3, .int a4, .int a5, .int a6, .int a7, .int a8, a9, a10] (.int y0 :: st) M Q = xW xSR 184 330 [.ref a0, .int a1, .int a2, .int a3, .int a4, .int a5, .int a6, .int a7, .int a8, .int y0, a10] (st) M Q) ∧
  (∀ (a0 : Nat) (a1 : Int32) (a2 : Int32) (a3 : Int32) (a4 : Int32) (a5 : Int32) (a6 : Int32) (a7 : Int32) (a8 : Int32) (a9 : Int32) (a10 : Value) (st : List Value) (M : xM) (Q : Option Value → xM → Prop), xW xSR 184 330 [.ref a0, .int a1, .int a2, .int a3, .int a4, .int a5, .int a6, .int a7, .int a8, .int a9, a10] (st) M Q = xW xSR 184 332 [.ref a0, .int a1, .int a2, .int a3, .int a4, .int a5, .int a6, .int a7, .int a8, .int a9, a10] (.int a9 :: st) M Q) ∧
  (∀ (a0 : Nat) (a1 : Int32) (a2 : Int32) (a3 : Int32) (a4 : Int32) (a5 : Int32) (a6 : Int32) (a7 : Int32) (a8 : Int32) (a9 : Int32) (a10 : Value) (y0 : Int32) (st : List Value) (M : xM) (Q : Option Value → xM → Prop), xW xSR 184 332 [.ref a0, .int a1, .int a2, .int a3, .int a4, .int a5, .int a6, .int a7, .int a8, .int a9, a10] (.int y0 :: st) M Q = if y0 < nI 0 then xW xSR 184 351 [.ref a0, .int a1, .int a2, .int a3, .int a4, .int a5, .int a6, .int a7, .int a8, .int a9, a10] (st) M Q else xW xSR 184 335 [.ref a0, .int a1, .int a2, .int a3, .int a4, .int a5, .int a6, .int a7, .int a8, .int a9, a10] (st) M Q) ∧
  (∀ (a0 : Nat) (a1 : Int32) (a2 : Int32) (a3 : Int32) (a4 : Int32) (a5 : Int32) (a6 : Int32) (a7 : Int32) (a8 : Int32) (a9 : Int32) (a10 : Value) (st : List Value) (M : xM) (Q : Option Value → xM → Prop), xW xSR 184 335 [.ref a0, .int a1, .int a2, .int a3, .int a4, .int a5, .int a6, .int a7, .int a8, .int a9, a10] (st) M Q = xW xSR 184 337 [.ref a0, .int a1, .int a2, .int a3, .int a4, .int a5, .int a6, .int a7, .int a8, .int a9, a10] (.int a6 :: st) M Q) ∧
  (∀ (a0 : Nat) (a1 : Int32) (a2 : Int32) (a3 : Int32) (a4 : Int32) (a5 : Int32) (a6 : Int32) (a7 : Int32) (a8 : Int32) (a9 : Int32) (a10 : Value) (y0 : Int32) (st : List Value) (M : xM) (Q : Option Value → xM → Prop), xW xSR 184 337 [.ref a0, .int a1, .int a2, .int a3, .int a4, .int a5, .int a6, .int a7, .int a8, .int a9, a10] (.int y0 :: st) M Q = if y0 < nI 0 then xW xSR 184 347 [.ref a0, .int a1, .int a2, .int a3, .int a4, .int a5, .int a6, .int a7, .int a8, .int a9, a10] (st) M Q else xW xSR 184 340 [.ref a0, .int a1, .int a2, .int a3, .int a4, .int a5, .int a6, .int a7, .int a8, .int a9, a10] (st) M Q) ∧
  (∀ (a0 : Nat) (a1 : Int32) (a2 : Int32) (a3 : Int32) (a4 : Int32) (a5 : Int32) (a6 : Int32) (a7 : Int32) (a8 : Int32) (a9 : Int32) (a10 : Value) (st : List Value) (M : xM) (Q : Option Value → xM → Prop), xW xSR 184 340 [.ref a0, .int a1, .int a2, .int a3, .int a4, .int a5, .int a6, .int a7, .int a8, .int a9, a10] (st) M Q = xW xSR 184 342 [.ref a0, .int a1, .int a2, .int a3, .int a4, .int a5, .int a6, .int a7, .int a8, .int a9, a10] (.int a9 :: st) M Q) ∧
  (∀ (a0 : Nat) (a1 : Int32) (a2 : Int32) (a3 : Int32) (a4 : Int32) (a5 : Int32) (a6 : Int32) (a7 : Int32) (a8 : Int32) (a9 : Int32) (a10 : Value) (st : List Value) (M : xM) (Q : Option Value → xM → Prop), xW xSR 184 342 [.ref a0, .int a1, .int a2, .int a3, .int a4, .int a5, .int a6, .int a7, .int a8, .int a9, a10] (st) M Q = xW xSR 184 344 [.ref a0, .int a1, .int a2, .int a3, .int a4, .int a5, .int a6, .int a7, .int a8, .int a9, a10] (.int a6 :: st) M Q) ∧
  (∀ (a0 : Nat) (a1 : Int32) (a2 : Int32) (a3 : Int32) (a4 : Int32) (a5 : Int32) (a6 : Int32) (a7 : Int32) (a8 : Int32) (a9 : Int32) (a10 : Value) (y0 : Int32) (y1 : Int32) (st : List Value) (M : xM) (Q : Option Value → xM → Prop), xW xSR 184 344 [.ref a0, .int a1, .int a2, .int a3, .int a4, .int a5, .int a6, .int a7, .int a8, .int a9, a10] (.int y0 :: .int y1 :: st) M Q = if y1 < y0 then xW xSR 184 347 [.ref a0, .int a1, .int a2, .int a3, .int a4, .int a5, .int a6, .int a7, .int a8, .int a9, a10] (st) M Q else xW xSR 184 351 [.ref a0, .int a1, .int a2, .int a3, .int a4, .int a5, .int a6, .int a7, .int a8, .int a9, a10] (st) M Q) ∧
  (∀ (a0 : Nat) (a1 : Int32) (a2 : Int32) (a3 : Int32) (a4 : Int32) (a5 : Int32) (a6 : Int32) (a7 : Int32) (a8 : Int32) (a9 : Int32) (a10 : Value) (st : List Value) (M : xM) (Q : Option Value → xM → Prop), xW xSR 184 348 [.ref a0, .int a1, .int a2, .int a3, .int a4, .int a5, .int a6, .int a7, .int a8, .int a9, a10] (st) M Q = xW xSR 184 352 [.ref a0, .int a1, .int a2, .int a3, .int a4, .int a5, .int a6, .int a7, .int a8, .int a9, a10] (st) M Q) ∧
  (∀ (a0 : Nat) (a1 : Int32) (a2 : Int32) (a3 : Int32) (a4 : Int32) (a5 : Int32) (a6 : Int32) (a7 : Int32) (a8 : Int32) (a9 : Int32) (a10 : Int32) (st : List Value) (M : xM) (Q : Option Value → xM → Prop), xW xSR 184 354 [.ref a0, .int a1, .int a2, .int a3, .int a4, .int a5, .int a6, .int a7, .int a8, .int a9, .int a10] (st) M Q = xW xSR 184 356 [.ref a0, .int a1, .int a2, .int a3, .int a4, .int a5, .int a6, .int a7, .int a8, .int a9, .int a10] (.int a10 :: st) M Q) ∧
  (∀ (a0 : Nat) (a1 : Int32) (a2 : Int32) (a3 : Int32) (a4 : Int32) (a5 : Int32) (a6 : Int32) (a7 : Int32) (a8 : Int32) (a9 : Int32) (a10 : Int32) (y0 : Int32) (st : List Value) (M : xM) (Q : Option Value → xM → Prop), xW xSR 184 356 [.ref a0, .int a1, .int a2, .int a3, .int a4, .int a5, .int a6, .int a7, .int a8, .int a9, .int a10] (.int y0 :: st) M Q = if y0 = nI 0 then xW xSR 184 364 [.ref a0, .int a1, .int a2, .int a3, .int a4, .int a5, .int a6, .int a7, .int a8, .int a9, .int a10] (st) M Q else xW xSR 184 359 [.ref a0, .int a1, .int a2, .int a3, .int a4, .int a5, .int a6, .int a7, .int a8, .int a9, .int a10] (st) M Q) ∧
  (∀ (a0 : Nat) (a1 : Int32) (a2 : Int32) (a3 : Int32) (a4 : Int32) (a5 : Int32) (a6 : Int32) (a7 : Int32) (a8 : Int32) (a9 : Int32) (a10 : Int32) (st : List Value) (M : xM) (Q : Option Value → xM → Prop), xW xSR 184 359 [.ref a0, .int a1, .int a2, .int a3, .int a4, .int a5, .int a6, .int a7, .int a8, .int a9, .int a10] (st) M Q = xW xSR 184 361 [.ref a0, .int a1, .int a2, .int a3, .int a4, .int a5, .int a6, .int a7, .int a8, .int a9, .int a10] (.int a8 :: st) M Q) ∧
  (∀ (a0 : Nat) (a1 : Int32) (a2 : Int32) (a3 : Int32) (a4 : Int32) (a5 : Int32) (a6 : Int32) (a7 : Int32) (a8 : Int32) (a9 : Int32) (a10 : Int32) (st : List Value) (M : xM) (Q : Option Value → xM → Prop), xW xSR 184 361 [.ref a0, .int a1, .int a2, .int a3, .int a4, .int a5, .int a6, .int a7, .int a8, .int a9, .int a10] (st) M Q = xW xSR 184 366 [.ref a0, .int a1, .int a2, .int a3, .int a4, .int a5, .int a6, .int a7, .int a8, .int a9, .int a10] (st) M Q) ∧
  (∀ (a0 : Nat) (a1 : Int32) (a2 : Int32) (a3 : Int32) (a4 : Int32) (a5 : Int32) (a6 : Int32) (a7 : Int32) (a8 : Int32) (a9 : Int32) (a10 : Int32) (st : List Value) (M : xM) (Q : Option Value → xM → Prop), xW xSR 184 364 [.ref a0, .int a1, .int a2, .int a3, .int a4, .int a5, .int a6, .int a7, .int a8, .int a9, .int a10] (st) M Q = xW xSR 184 366 [.ref a0, .int a1, .int a2, .int a3, .int a4, .int a5, .int a6, .int a7, .int a8, .int a9, .int a10] (.int a7 :: st) M Q) ∧
  (∀ (a0 : Nat) (a1 : Int32) (a2 : Int32) (a3 : Int32) (a4 : Int32) (a5 : Int32) (a6 : Int32) (a7 : Int32) (a8 : Int32) (a9 : Int32) (a10 : Int32) (st : List Value) (M : xM) (Q : Option Value → xM → Prop), xW xSR 184 368 [.ref a0, .int a1, .int a2, .int a3, .int a4, .int a5, .int a6, .int a7, .int a8, .int a9, .int a10] (st) M Q = xW xSR 184 370 [.ref a0, .int a1, .int a2, .int a3, .int a4, .int a5, .int a6, .int a7, .int a8, .int a9, .int a10] (.int a10 :: st) M Q) ∧
  (∀ (a0 : Nat) (a1 : Int32) (a2 : Int32) (a3 : Int32) (a4 : Int32) (a5 : Int32) (a6 : Int32) (a7 : Int32) (a8 : Int32) (a9 : Int32) (a10 : Int32) (y0 : Int32) (st : List Value) (M : xM) (Q : Option Value → xM → Prop), xW xSR 184 370 [.ref a0, .int a1, .int a2, .int a3, .int a4, .int a5, .int a6, .int a7, .int a8, .int a9, .int a10] (.int y0 :: st) M Q = if y0 = nI 0 then xW xSR 184 378 [.ref a0, .int a1, .int a2, .int a3, .int a4, .int a5, .int a6, .int a7, .int a8, .int a9, .int a10] (st) M Q else xW xSR 184 373 [.ref a0, .int a1, .int a2, .int a3, .int a4, .int a5, .int a6, .int a7, .int a8, .int a9, .int a10] (st) M Q) ∧
  (∀ (a0 : Nat) (a1 : Int32) (a2 : Int32) (a3 : Int32) (a4 : Int32) (a5 : Int32) (a6 : Int32) (a7 : Int32) (a8 : Int32) (a9 : Int32) (a10 : Int32) (st : List Value) (M : xM) (Q : Option Value → xM → Prop), xW xSR 184 373 [.ref a0, .int a1, .int a2, .int a3, .int a4, .int a5, .int a6, .int a7, .int a8, .int a9, .int a10] (st) M Q = xW xSR 184 375 [.ref a0, .int a1, .int a2, .int a3, .int a4, .int a5, .int a6, .int a7, .int a8, .int a9, .int a10] (.int a9 :: st) M Q) ∧
  (∀ (a0 : Nat) (a1 : Int32) (a2 : Int32) (a3 : Int32) (a4 : Int32) (a5 : Int32) (a6 : Int32) (a7 : Int32) (a8 : Int32) (a9 : Int32) (a10 : Int32) (st : List Value) (M : xM) (Q : Option Value → xM → Prop), xW xSR 184 375 [.ref a0, .int a1, .int a2, .int a3, .int a4, .int a5, .int a6, .int a7, .int a8, .int a9, .int a10] (st) M Q = xW xSR 184 380 [.ref a0, .int a1, .int a2, .int a3, .int a4, .int a5, .int a6, .int a7, .int a8, .int a9, .int a10] (st) M Q) ∧
  (∀ (a0 : Nat) (a1 : Int32) (a2 : Int32) (a3 : Int32) (a4 : Int32) (a5 : Int32) (a6 : Int32) (a7 : Int32) (a8 : Int32) (a9 : Int32) (a10 : Int32) (st : List Value) (M : xM) (Q : Option Value → xM → Prop), xW xSR 184 378 [.ref a0, .int a1, .int a2, .int a3, .int a4, .int a5, .int a6, .int a7, .int a8, .int a9, .int a10] (st) M Q = xW xSR 184 380 [.ref a0, .int a1, .int a2, .int a3, .int a4, .int a5, .int a6, .int a7, .int a8, .int a9, .int a10] (.int a6 :: st) M Q) ∧
  (∀ (a0 : Nat) (a1 : Int32) (a2 : Int32) (a3 : Int32) (a4 : Int32) (a5 : Int32) (a6 : Int32) (a7 : Int32) (a8 : Int32) (a9 : Int32) (a10 : Int32) (st : List Value) (M : xM) (Q : Option Value → xM → Prop), xW xSR 184 382 [.ref a0, .int a1, .int a2, .int a3, .int a4, .int a5, .int a6, .int a7, .int a8, .int a9, .int a10] (st) M Q = xW xSR 184 385 [.ref a0, .int a1, .int a2, .int a3, .int a4, .int a5, .int a6, .int a7, .int (a8 + nI 1), .int a9, .int a10] (st) M Q) ∧
  (∀ (a0 : Nat) (a1 : Int32) (a2 : Int32) (a3 : Int32) (a4 : Int32) (a5 : Int32) (a6 : Int32) (a7 : Int32) (a8 : Int32) (a9 : Int32) (a10 : Int32) (st : List Value) (M : xM) (Q : Option Value → xM → Prop), xW xSR 184 385 [.ref a0, .int a1, .int a2, .int a3, .int a4, .int a5, .int a6, .int a7, .int a8, .int a9, .int a10] (st) M Q = xW xSR 184 306 [.ref a0, .int a1, .int a2, .int a3, .int a4, .int a5, .int a6, .int a7, .int a8, .int a9, .int a10] (st) M Q) ∧
  (∀ (a0 : Nat) (a1 : Int32) (a2 : Int32) (a3 : Int32) (a4 : Int32) (a5 : Int32) (a6 : Int32) (a7 : Int32) (a8 : Int32) (a9 : Value) (a10 : Value) (st : List Value) (M : xM) (Q : Option Value → xM → Prop), xW xSR 184 388 [.ref a0, .int a1, .int a2, .int a3, .int a4, .int a5, .int a6, .int a7, .int a8, a9, a10] (st) M Q = xW xSR 184 390 [.ref a0, .int a1, .int a2, .int a3, .int a4, .int a5, .int a6, .int a7, .int a8, a9, a10] (.int a6 :: st) M Q) ∧
  (∀ (a0 : Nat) (a1 : Int32) (a2 : Int32) (a3 : Int32) (a4 : Int32) (a5 : Int32) (a6 : Int32) (a7 : Int32) (a8 : Int32) (a9 : Value) (a10 : Value) (y0 : Int32) (st : List Value) (M : xM) (Q : Option Value → xM → Prop), xW xSR 184 390 [.ref a0, .int a1, .int a2, .int a3, .int a4, .int a5, .int a6, .int a7, .int a8, a9, a10] (.int y0 :: st) M Q = if y0 < nI 0 then xW xSR 184 393 [.ref a0, .int a1, .int a2, .int a3, .int a4, .int a5, .int a6, .int a7, .int a8, a9, a10] (st) M Q else xW xSR 184 398 [.ref a0, .int a1, .int a2, .int a3, .int a4, .int a5, .int a6, .int a7, .int a8, a9, a10] (st) M Q) ∧
  (∀ (a0 : Nat) (a1 : Int32) (a2 : Int32) (a3 : Int32) (a4 : Int32) (a5 : Int32) (a6 : Int32) (a7 : Int32) (a8 : Int32) (a9 : Value) (a10 : Value) (st : List Value) (M : xM) (Q : Option Value → xM → Prop), xW xSR 184 393 [.ref a0, .int a1, .int a2, .int a3, .int a4, .int a5, .int a6, .int a7, .int a8, a9, a10] (st) M Q = xW xSR 184 395 [.ref a0, .int a1, .int a2, .int a3, .int a4, .int a5, .int a6, .int a7, .int a8, a9, a10] (.int (-4) :: st) M Q) ∧
  (∀ (a0 : Nat) (a1 : Int32) (a2 : Int32) (a3 : Int32) (a4 : Int32) (a5 : Int32) (a6 : Int32) (a7 : Int32) (a8 : Int32) (a9 : Value) (a10 : Value) (st : List Value) (M : xM) (Q : Option Value → xM → Prop), xW xSR 184 395 [.ref a0, .int a1, .int a2, .int a3, .int a4, .int a5, .int a6, .int a7, .int a8, a9, a10] (st) M Q = xW xSR 184 409 [.ref a0, .int a1, .int a2, .int a3, .int a4, .int a5, .int a6, .int a7, .int a8, a9, a10] (st) M Q) ∧
  (∀ (a0 : Nat) (a1 : Int32) (a2 : Int32) (a3 : Int32) (a4 : Int32) (a5 : Int32) (a6 : Int32) (a7 : Int32) (a8 : Int32) (a9 : Value) (a10 : Value) (st : List Value) (M : xM) (Q : Option Value → xM → Prop), xW xSR 184 398 [.ref a0, .int a1, .int a2, .int a3, .int a4, .int a5, .int a6, .int a7, .int a8, a9, a10] (st) M Q = xW xSR 184 399 [.ref a0, .int a1, .int a2, .int a3, .int a4, .int a5, .int a6, .int a7, .int a8, a9, a10] (.int a3 :: st) M Q) ∧
  (∀ (a0 : Nat) (a1 : Int32) (a2 : Int32) (a3 : Int32) (a4 : Int32) (a5 : Int32) (a6 : Int32) (a7 : Int32) (a8 : Int32) (a9 : Value) (a10 : Value) (y0 : Int32) (st : List Value) (M : xM) (Q : Option Value → xM → Prop), xW xSR 184 399 [.ref a0, .int a1, .int a2, .int a3, .int a4, .int a5, .int a6, .int a7, .int a8, a9, a10] (.int y0 :: st) M Q = if y0 = nI 0 then xW xSR 184 402 [.ref a0, .int a1, .int a2, .int a3, .int a4, .int a5, .int a6, .int a7, .int a8, a9, a10] (st) M Q else xW xSR 184 407 [.ref a0, .int a1, .int a2, .int a3, .int a4, .int a5, .int a6, .int a7, .int a8, a9, a10] (st) M Q) ∧
  (∀ (a0 : Nat) (a1 : Int32) (a2 : Int32) (a3 : Int32) (a4 : Int32) (a5 : Int32) (a6 : Int32) (a7 : Int32) (a8 : Int32) (a9 : Value) (a10 : Value) (st : List Value) (M : xM) (Q : Option Value → xM → Prop), xW xSR 184 402 [.ref a0, .int a1, .int a2, .int a3, .int a4, .int a5, .int a6, .int a7, .int a8, a9, a10] (st) M Q = xW xSR 184 404 [.ref a0, .int a1, .int a2, .int a3, .int a4, .int a5, .int a6, .int a7, .int a8, a9, a10] (.int a6 :: st) M Q) ∧
  (∀ (a0 : Nat) (a1 : Int32) (a2 : Int32) (a3 : Int32) (a4 : Int32) (a5 : Int32) (a6 : Int32) (a7 : Int32) (a8 : Int32) (a9 : Value) (a10 : Value) (st : List Value) (M : xM) (Q : Option Value → xM → Prop), xW xSR 184 404 [.ref a0, .int a1, .int a2, .int a3, .int a4, .int a5, .int a6, .int a7, .int a8, a9, a10] (st) M Q = xW xSR 184 409 [.ref a0, .int a1, .int a2, .int a3, .int a4, .int a5, .int a6, .int a7, .int a8, a9, a10] (st) M Q) ∧
  (∀ (a0 : Nat) (a1 : Int32) (a2 : Int32) (a3 : Int32) (a4 : Int32) (a5 : Int32) (a6 : Int32) (a7 : Int32) (a8 : Int32) (a9 : Value) (a10 : Value) (st : List Value) (M : xM) (Q : Option Value → xM → Prop), xW xSR 184 407 [.ref a0, .int a1, .int a2, .int a3, .int a4, .int a5, .int a6, .int a7, .int a8, a9, a10] (st) M Q = xW xSR 184 409 [.ref a0, .int a1, .int a2, .int a3, .int a4, .int a5, .int a6, .int a7, .int a8, a9, a10] (.int a7 :: st) M Q) :=
  ⟨fun a0 a1 a2 a3 a4 a5 a6 a7 a8 a9 a10 st M Q => xw_s rfl rfl,
  fun a0 a1 a2 a3 a4 a5 a6 a7 a8 a9 a10 st M Q => xw_s rfl rfl,
  fun a0 a1 a2 a3 a4 a5 a6 a7 a8 a9 a10 y0 M Q => xw_call rfl rfl rfl,
  fun a0 a1 a2 a3 a4 a5 a6 a7 a8 a9 a10 y0 st M Q => xw_br (c0 := y0 = nI 0) rfl rfl,
  fun a0 a1 a2 a3 a4 a5 a6 a7 a8 a9 a10 st M Q => xw_s rfl rfl,
  fun a0 a1 a2 a3 a4 a5 a6 a7 a8 a9 a10 st M Q => xw_s rfl rfl,
  fun a0 a1 a2 a3 a4 a5 a6 a7 a8 a9 a10 y0 M Q => xw_call rfl rfl rfl,
  fun a0 a1 a2 a3 a4 a5 a6 a7 a8 a9 a10 y0 st M Q => xw_br (c0 := y0 = nI 0) rfl rfl,
  fun a0 a1 a2 a3 a4 a5 a6 a7 a8 a9 a10 st M Q => xw_s rfl rfl,
  fun a0 a1 a2 a3 a4 a5 a6 a7 a8 a9 a10 y0 st M Q => xw_s rfl rfl,
  fun a0 a1 a2 a3 a4 a5 a6 a7 a8 a9 a10 st M Q => xw_s rfl rfl,
  fun a0 a1 a2 a3 a4 a5 a6 a7 a8 a9 a10 st M Q => xw_s rfl rfl,
  fun a0 a1 a2 a3 a4 a5 a6 a7 a8 a9 a10 y0 y1 y2 M Q => xw_call rfl rfl rfl,
  fun a0 a1 a2 a3 a4 a5 a6 a7 a8 a9 a10 y0 st M Q => xw_brn (c0 := y0 ≠ nI 0) (c1 := y0 = nI 0) rfl rfl (Iff.rfl),
  fun a0 a1 a2 a3 a4 a5 a6 a7 a8 a9 a10 y0 M Q => xw_ret rfl rfl,
  fun a0 a1 a2 a3 a4 a5 a6 a7 a8 a9 a10 st M Q => xw_s rfl rfl,
  fun a0 a1 a2 a3 a4 a5 a6 a7 a8 a9 a10 st M Q => xw_s rfl rfl,
  fun a0 a1 a2 a3 a4 a5 a6 a7 a8 a9 a10 st M Q => xw_s rfl rfl,
  fun a0 a1 a2 a3 a4 a5 a6 a7 a8 a9 a10 st M Q => xw_s rfl rfl,
  fun a0 a1 a2 a3 a4 a5 a6 a7 a8 a9 a10 st M Q => xw_s rfl rfl,
  fun a0 a1 a2 a3 a4 a5 a6 a7 a8 a9 a10 y0 y1 st M Q => xw_s rfl rfl,
  fun a0 a1 a2 a3 a4 a5 a6 a7 a8 a9 a10 y0 y1 st M Q => xw_s rfl rfl,
  fun a0 a1 a2 a3 a4 a5 a6 a7 a8 a9 a10 y0 st M Q h0 => xw_ald rfl rfl rfl (by decide) h0,
  fun a0 a1 a2 a3 a4 a5 a6 a7 a8 a9 a10 y0 st M Q => xw_s rfl rfl,
  fun a0 a1 a2 a3 a4 a5 a6 a7 a8 a9 a10 st M Q => xw_s rfl rfl,
  fun a0 a1 a2 a3 a4 a5 a6 a7 a8 a9 a10 st M Q => xw_s rfl rfl,
  fun a0 a1 a2 a3 a4 a5 a6 a7 a8 a9 a10 st M Q => xw_s rfl rfl,
  fun a0 a1 a2 a3 a4 a5 a6 a7 a8 a9 a10 st M Q => xw_s rfl rfl,
  fun a0 a1 a2 a3 a4 a5 a6 a7 a8 a9 a10 st M Q => xw_s rfl rfl,
  fun a0 a1 a2 a3 a4 a5 a6 a7 a8 a9 a10 y0 y1 st M Q => xw_s rfl rfl,
  fun a0 a1 a2 a3 a4 a5 a6 a7 a8 a9 a10 y0 y1 st M Q => xw_s rfl rfl,
  fun a0 a1 a2 a3 a4 a5 a6 a7 a8 a9 a10 st M Q => xw_s rfl rfl,
  fun a0 a1 a2 a3 a4 a5 a6 a7 a8 a9 a10 y0 y1 st M Q => xw_s rfl rfl,
  fun a0 a1 a2 a3 a4 a5 a6 a7 a8 a9 a10 y0 st M Q h0 => xw_ald rfl rfl rfl (by decide) h0,
  fun a0 a1 a2 a3 a4 a5 a6 a7 a8 a9 a10 y0 st M Q => xw_brn (c0 := nI 0 ≤ y0) (c1 := y0 < nI 0) rfl rfl (xge _ _),
  fun a0 a1 a2 a3 a4 a5 a6 a7 a8 a9 a10 st M Q => xw_s rfl rfl,
  fun a0 a1 a2 a3 a4 a5 a6 a7 a8 a9 a10 st M Q => xw_s rfl rfl,
  fun a0 a1 a2 a3 a4 a5 a6 a7 a8 a9 a10 st M Q => xw_s rfl rfl,
  fun a0 a1 a2 a3 a4 a5 a6 a7 a8 a9 a10 st M Q => xw_s rfl rfl,
  fun a0 a1 a2 a3 a4 a5 a6 a7 a8 a9 a10 st M Q => xw_s rfl rfl,
  fun a0 a1 a2 a3 a4 a5 a6 a7 a8 a9 a10 st M Q => xw_s rfl rfl,
  fun a0 a1 a2 a3 a4 a5 a6 a7 a8 a9 a10 st M Q => xw_s rfl rfl,
  fun a0 a1 a2 a3 a4 a5 a6 a7 a8 a9 a10 y0 y1 st M Q => xw_s rfl rfl,
  fun a0 a1 a2 a3 a4 a5 a6 a7 a8 a9 a10 y0 y1 st M Q => xw_s rfl rfl,
  fun a0 a1 a2 a3 a4 a5 a6 a7 a8 a9 a10 st M Q => xw_s rfl rfl,
  fun a0 a1 a2 a3 a4 a5 a6 a7 a8 a9 a10 y0 y1 st M Q => xw_s rfl rfl,
  fun a0 a1 a2 a3 a4 a5 a6 a7 a8 a9 a10 y0 st M Q h0 => xw_ald rfl rfl rfl (by decide) h0,
  fun a0 a1 a2 a3 a4 a5 a6 a7 a8 a9 a10 st M Q => xw_s rfl rfl,
  fun a0 a1 a2 a3 a4 a5 a6 a7 a8 a9 a10 st M Q => xw_s rfl rfl,
  fun a0 a1 a2 a3 a4 a5 a6 a7 a8 a9 a10 y0 y1 st M Q => xw_brn (c0 := y1 ≠ y0) (c1 := y1 = y0) rfl rfl (Iff.rfl),
  fun a0 a1 a2 a3 a4 a5 a6 a7 a8 a9 a10 st M Q => xw_s rfl rfl,
  fun a0 a1 a2 a3 a4 a5 a6 a7 a8 a9 a10 y0 st M Q => xw_brn (c0 := y0 ≠ nI 0) (c1 := y0 = nI 0) rfl rfl (Iff.rfl),
  fun a0 a1 a2 a3 a4 a5 a6 a7 a8 a9 a10 st M Q => xw_s rfl rfl,
  fun a0 a1 a2 a3 a4 a5 a6 a7 a8 a9 a10 st M Q => xw_s rfl rfl,
  fun a0 a1 a2 a3 a4 a5 a6 a7 a8 a9 a10 st M Q => xw_s rfl rfl,
  fun a0 a1 a2 a3 a4 a5 a6 a7 a8 a9 a10 st M Q => xw_s rfl rfl,
  fun a0 a1 a2 a3 a4 a5 a6 a7 a8 a9 a10 y0 st M Q => xw_s rfl rfl,
  fun a0 a1 a2 a3 a4 a5 a6 a7 a8 a9 a10 st M Q => xw_s rfl rfl,
  fun a0 a1 a2 a3 a4 a5 a6 a7 a8 a9 a10 y0 y1 st M Q => xw_brn (c0 := y0 ≤ y1) (c1 := y1 < y0) rfl rfl (xge _ _),
  fun a0 a1 a2 a3 a4 a5 a6 a7 a8 a9 a10 st M Q => xw_s rfl rfl,
  fun a0 a1 a2 a3 a4 a5 a6 a7 a8 a9 a10 st M Q => xw_s rfl rfl,
  fun a0 a1 a2 a3 a4 a5 a6 a7 a8 a9 a10 st M Q => xw_s rfl rfl,
  fun a0 a1 a2 a3 a4 a5 a6 a7 a8 a9 a10 st M Q => xw_s rfl rfl,
  fun a0 a1 a2 a3 a4 a5 a6 a7 a8 a9 a10 st M Q => xw_s rfl rfl,
  fun a0 a1 a2 a3 a4 a5 a6 a7 a8 a9 a10 y0 y1 st M Q h0 h1 => xw_div (f := fun x y => x / y) rfl rfl (nI_ne0 h0 h1),
  fun a0 a1 a2 a3 a4 a5 a6 a7 a8 a9 a10 st M Q => xw_s rfl rfl,
  fun a0 a1 a2 a3 a4 a5 a6 a7 a8 a9 a10 y0 y1 st M Q => xw_brn (c0 := y1 ≠ y0) (c1 := y1 = y0) rfl rfl (Iff.rfl),
  fun a0 a1 a2 a3 a4 a5 a6 a7 a8 a9 a10 st M Q => xw_s rfl rfl,
  fun a0 a1 a2 a3 a4 a5 a6 a7 a8 a9 a10 st M Q => xw_s rfl rfl,
  fun a0 a1 a2 a3 a4 a5 a6 a7 a8 a9 a10 st M Q => xw_s rfl rfl,
  fun a0 a1 a2 a3 a4 a5 a6 a7 a8 a9 a10 st M Q => xw_s rfl rfl,
  fun a0 a1 a2 a3 a4 a5 a6 a7 a8 a9 a10 st M Q => xw_s rfl rfl,
  fun a0 a1 a2 a3 a4 a5 a6 a7 a8 a9 a10 st M Q => xw_s rfl rfl,
  fun a0 a1 a2 a3 a4 a5 a6 a7 a8 a9 a10 y0 st M Q => xw_s rfl rfl,
  fun a0 a1 a2 a3 a4 a5 a6 a7 a8 a9 a10 st M Q => xw_s rfl rfl,
  fun a0 a1 a2 a3 a4 a5 a6 a7 a8 a9 a10 y0 y1 st M Q => xw_brn (c0 := y0 ≤ y1) (c1 := y1 < y0) rfl rfl (xge _ _),
  fun a0 a1 a2 a3 a4 a5 a6 a7 a8 a9 a10 st M Q => xw_s rfl rfl,
  fun a0 a1 a2 a3 a4 a5 a6 a7 a8 a9 a10 y0 st M Q => xw_s rfl rfl,
  fun a0 a1 a2 a3 a4 a5 a6 a7 a8 a9 a10 st M Q => xw_s rfl rfl,
  fun a0 a1 a2 a3 a4 a5 a6 a7 a8 a9 a10 y0 y1 st M Q => xw_brn (c0 := y0 ≤ y1) (c1 := y1 < y0) rfl rfl (xge _ _),
  fun a0 a1 a2 a3 a4 a5 a6 a7 a8 a9 a10 st M Q => xw_s rfl rfl,
  fun a0 a1 a2 a3 a4 a5 a6 a7 a8 a9 a10 st M Q => xw_s rfl rfl,
  fun a0 a1 a2 a3 a4 a5 a6 a7 a8 a9 a10 y0 y1 st M Q h0 h1 => xw_div (f := fun x y => x / y) rfl rfl (nI_ne0 h0 h1),
  fun a0 a1 a2 a3 a4 a5 a6 a7 a8 a9 a10 st M Q => xw_s rfl rfl,
  fun a0 a1 a2 a3 a4 a5 a6 a7 a8 a9 a10 y0 y1 st M Q => xw_brn (c0 := y1 ≠ y0) (c1 := y1 = y0) rfl rfl (Iff.rfl),
  fun a0 a1 a2 a3 a4 a5 a6 a7 a8 a9 a10 st M Q => xw_s rfl rfl,
  fun a0 a1 a2 a3 a4 a5 a6 a7 a8 a9 a10 st M Q => xw_s rfl rfl,
  fun a0 a1 a2 a3 a4 a5 a6 a7 a8 a9 a10 st M Q => xw_s rfl rfl,
  fun a0 a1 a2 a3 a4 a5 a6 a7 a8 a9 a10 st M Q => xw_s rfl rfl,
  fun a0 a1 a2 a3 a4 a5 a6 a7 a8 a9 a10 y0 st M Q => xw_s rfl rfl,
  fun a0 a1 a2 a3 a4 a5 a6 a7 a8 a9 a10 st M Q => xw_s rfl rfl,
  fun a0 a1 a2 a3 a4 a5 a6 a7 a8 a9 a10 st M Q => xw_s rfl rfl,
  fun a0 a1 a2 a3 a4 a5 a6 a7 a8 a9 a10 st M Q => xw_s rfl rfl,
  fun a0 a1 a2 a3 a4 a5 a6 a7 a8 a9 a10 y0 st M Q h0 => xw_ald rfl rfl rfl (by decide) h0,
  fun a0 a1 a2 a3 a4 a5 a6 a7 a8 a9 a10 y0 y1 st M Q => xw_brn (c0 := y0 ≤ y1) (c1 := y1 < y0) rfl rfl (xge _ _),
  fun a0 a1 a2 a3 a4 a5 a6 a7 a8 a9 a10 st M Q => xw_s rfl rfl,
  fun a0 a1 a2 a3 a4 a5 a6 a7 a8 a9 a10 st M Q => xw_s rfl rfl,
  fun a0 a1 a2 a3 a4 a5 a6 a7 a8 a9 a10 y0 y1 st M Q h0 h1 => xw_div (f := fun x y => x / y) rfl rfl (nI_ne0 h0 h1),
  fun a0 a1 a2 a3 a4 a5 a6 a7 a8 a9 a10 st M Q => xw_s rfl rfl,
  fun a0 a1 a2 a3 a4 a5 a6 a7 a8 a9 a10 st M Q => xw_s rfl rfl,
  fun a0 a1 a2 a3 a4 a5 a6 a7 a8 a9 a10 st M Q => xw_s rfl rfl,
  fun a0 a1 a2 a3 a4 a5 a6 a7 a8 a9 a10 y0 st M Q h0 => xw_ald rfl rfl rfl (by decide) h0,
  fun a0 a1 a2 a3 a4 a5 a6 a7 a8 a9 a10 y0 y1 st M Q => xw_brn (c0 := y0 ≤ y1) (c1 := y1 < y0) rfl rfl (xge _ _),
  fun a0 a1 a2 a3 a4 a5 a6 a7 a8 a9 a10 st M Q => xw_s rfl rfl,
  fun a0 a1 a2 a3 a4 a5 a6 a7 a8 a9 a10 y0 st M Q => xw_br (c0 := y0 = nI 0) rfl rfl,
  fun a0 a1 a2 a3 a4 a5 a6 a7 a8 a9 a10 st M Q => xw_s rfl rfl,
  fun a0 a1 a2 a3 a4 a5 a6 a7 a8 a9 a10 st M Q => xw_s rfl rfl,
  fun a0 a1 a2 a3 a4 a5 a6 a7 a8 a9 a10 st M Q => xw_s rfl rfl,
  fun a0 a1 a2 a3 a4 a5 a6 a7 a8 a9 a10 st M Q => xw_s rfl rfl,
  fun a0 a1 a2 a3 a4 a5 a6 a7 a8 a9 a10 st M Q => xw_s rfl rfl,
  fun a0 a1 a2 a3 a4 a5 a6 a7 a8 a9 a10 y0 y1 st M Q h0 h1 => xw_div (f := fun x y => x / y) rfl rfl (nI_ne0 h0 h1),
  fun a0 a1 a2 a3 a4 a5 a6 a7 a8 a9 a10 st M Q => xw_s rfl rfl,
  fun a0 a1 a2 a3 a4 a5 a6 a7 a8 a9 a10 st M Q => xw_s rfl rfl,
  fun a0 a1 a2 a3 a4 a5 a6 a7 a8 a9 a10 y0 y1 st M Q h0 h1 => xw_div (f := fun x y => x - x / y * y) rfl rfl (nI_ne0 h0 h1),
  fun a0 a1 a2 a3 a4 a5 a6 a7 a8 a9 a10 y0 y1 y2 y3 M Q => xw_call rfl rfl rfl,
  fun a0 a1 a2 a3 a4 a5 a6 a7 a8 a9 a10 y0 st M Q => xw_s rfl rfl,
  fun a0 a1 a2 a3 a4 a5 a6 a7 a8 a9 a10 st M Q => xw_s rfl rfl,
  fun a0 a1 a2 a3 a4 a5 a6 a7 a8 a9 a10 y0 st M Q => xw_br (c0 := y0 < nI 0) rfl rfl,
  fun a0 a1 a2 a3 a4 a5 a6 a7 a8 a9 a10 st M Q => xw_s rfl rfl,
  fun a0 a1 a2 a3 a4 a5 a6 a7 a8 a9 a10 y0 st M Q => xw_br (c0 := y0 < nI 0) rfl rfl,
  fun a0 a1 a2 a3 a4 a5 a6 a7 a8 a9 a10 st M Q => xw_s rfl rfl,
  fun a0 a1 a2 a3 a4 a5 a6 a7 a8 a9 a10 st M Q => xw_s rfl rfl,
  fun a0 a1 a2 a3 a4 a5 a6 a7 a8 a9 a10 y0 y1 st M Q => xw_brn (c0 := y0 ≤ y1) (c1 := y1 < y0) rfl rfl (xge _ _),
  fun a0 a1 a2 a3 a4 a5 a6 a7 a8 a9 a10 st M Q => xw_s rfl rfl,
  fun a0 a1 a2 a3 a4 a5 a6 a7 a8 a9 a10 st M Q => xw_s rfl rfl,
  fun a0 a1 a2 a3 a4 a5 a6 a7 a8 a9 a10 st M Q => xw_s rfl rfl,
  fun a0 a1 a2 a3 a4 a5 a6 a7 a8 a9 a10 st M Q => xw_s rfl rfl,
  fun a0 a1 a2 a3 a4 a5 a6 a7 a8 a9 a10 st M Q => xw_s rfl rfl,
  fun a0 a1 a2 a3 a4 a5 a6 a7 a8 a9 a10 st M Q => xw_s rfl rfl,
  fun a0 a1 a2 a3 a4 a5 a6 a7 a8 a9 a10 y0 y1 st M Q h0 => xw_ast (f := fun x => x) rfl rfl rfl (by decide) h0,
  fun a0 a1 a2 a3 a4 a5 a6 a7 a8 a9 a10 st M Q => xw_s rfl rfl,
  fun a0 a1 a2 a3 a4 a5 a6 a7 a8 a9 a10 st M Q => xw_s rfl rfl,
  fun a0 a1 a2 a3 a4 a5 a6 a7 a8 a9 a10 st M Q => xw_s rfl rfl,
  fun a0 a1 a2 a3 a4 a5 a6 a7 a8 a9 a10 y0 st M Q => xw_s rfl rfl,
  fun a0 a1 a2 a3 a4 a5 a6 a7 a8 a9 a10 st M Q => xw_s rfl rfl,
  fun a0 a1 a2 a3 a4 a5 a6 a7 a8 a9 a10 y0 y1 st M Q => xw_brn (c0 := y0 ≤ y1) (c1 := y1 < y0) rfl rfl (xge _ _),
  fun a0 a1 a2 a3 a4 a5 a6 a7 a8 a9 a10 st M Q => xw_s rfl rfl,
  fun a0 a1 a2 a3 a4 a5 a6 a7 a8 a9 a10 st M Q => xw_s rfl rfl,
  fun a0 a1 a2 a3 a4 a5 a6 a7 a8 a9 a10 st M Q => xw_s rfl rfl,
  fun a0 a1 a2 a3 a4 a5 a6 a7 a8 a9 a10 st M Q => xw_s rfl rfl,
  fun a0 a1 a2 a3 a4 a5 a6 a7 a8 a9 a10 st M Q => xw_s rfl rfl,
  fun a0 a1 a2 a3 a4 a5 a6 a7 a8 a9 a10 st M Q => xw_s rfl rfl,
  fun a0 a1 a2 a3 a4 a5 a6 a7 a8 a9 a10 y0 st M Q h0 => xw_ald rfl rfl rfl (by decide) h0,
  fun a0 a1 a2 a3 a4 a5 a6 a7 a8 a9 a10 y0 y1 st M Q h0 => xw_ast (f := fun x => x) rfl rfl rfl (by decide) h0,
  fun a0 a1 a2 a3 a4 a5 a6 a7 a8 a9 a10 st M Q => xw_s rfl rfl,
  fun a0 a1 a2 a3 a4 a5 a6 a7 a8 a9 a10 st M Q => xw_s rfl rfl,
  fun a0 a1 a2 a3 a4 a5 a6 a7 a8 a9 a10 st M Q => xw_s rfl rfl,
  fun a0 a1 a2 a3 a4 a5 a6 a7 a8 a9 a10 st M Q => xw_s rfl rfl,
  fun a0 a1 a2 a3 a4 a5 a6 a7 a8 a9 a10 st M Q => xw_s rfl rfl,
  fun a0 a1 a2 a3 a4 a5 a6 a7 a8 a9 a10 y0 st M Q => xw_s rfl rfl,
  fun a0 a1 a2 a3 a4 a5 a6 a7 a8 a9 a10 st M Q => xw_s rfl rfl,
  fun a0 a1 a2 a3 a4 a5 a6 a7 a8 a9 a10 y0 st M Q => xw_s rfl rfl,
  fun a0 a1 a2 a3 a4 a5 a6 a7 a8 a9 a10 st M Q => xw_s rfl rfl,
  fun a0 a1 a2 a3 a4 a5 a6 a7 a8 a9 a10 y0 st M Q => xw_s rfl rfl,
  fun a0 a1 a2 a3 a4 a5 a6 a7 a8 a9 a10 st M Q => xw_s rfl rfl,
  fun a0 a1 a2 a3 a4 a5 a6 a7 a8 a9 a10 st M Q => xw_s rfl rfl,
  fun a0 a1 a2 a3 a4 a5 a6 a7 a8 a9 a10 st M Q => xw_s rfl rfl,
  fun a0 a1 a2 a3 a4 a5 a6 a7 a8 a9 a10 y0 st M Q h0 => xw_ald rfl rfl rfl (by decide) h0,
  fun a0 a1 a2 a3 a4 a5 a6 a7 a8 a9 a10 y0 y1 st M Q => xw_brn (c0 := y0 ≤ y1) (c1 := y1 < y0) rfl rfl (xge _ _),
  fun a0 a1 a2 a3 a4 a5 a6 a7 a8 a9 a10 st M Q => xw_s rfl rfl,
  fun a0 a1 a2 a3 a4 a5 a6 a7 a8 a9 a10 st M Q => xw_s rfl rfl,
  fun a0 a1 a2 a3 a4 a5 a6 a7 a8 a9 a10 st M Q => xw_s rfl rfl,
  fun a0 a1 a2 a3 a4 a5 a6 a7 a8 a9 a10 st M Q => xw_s rfl rfl,
  fun a0 a1 a2 a3 a4 a5 a6 a7 a8 a9 a10 st M Q => xw_s rfl rfl,
  fun a0 a1 a2 a3 a4 a5 a6 a7 a8 a9 a10 y0 y1 y2 y3 M Q => xw_call rfl rfl rfl,
  fun a0 a1 a2 a3 a4 a5 a6 a7 a8 a9 a10 y0 st M Q => xw_s rfl rfl,
  fun a0 a1 a2 a3 a4 a5 a6 a7 a8 a9 a10 st M Q => xw_s rfl rfl,
  fun a0 a1 a2 a3 a4 a5 a6 a7 a8 a9 a10 y0 st M Q => xw_br (c0 := y0 < nI 0) rfl rfl,
  fun a0 a1 a2 a3 a4 a5 a6 a7 a8 a9 a10 st M Q => xw_s rfl rfl,
  fun a0 a1 a2 a3 a4 a5 a6 a7 a8 a9 a10 y0 st M Q => xw_br (c0 := y0 < nI 0) rfl rfl,
  fun a0 a1 a2 a3 a4 a5 a6 a7 a8 a9 a10 st M Q => xw_s rfl rfl,
  fun a0 a1 a2 a3 a4 a5 a6 a7 a8 a9 a10 st M Q => xw_s rfl rfl,
  fun a0 a1 a2 a3 a4 a5 a6 a7 a8 a9 a10 y0 y1 st M Q => xw_brn (c0 := y0 ≤ y1) (c1 := y1 < y0) rfl rfl (xge _ _),
  fun a0 a1 a2 a3 a4 a5 a6 a7 a8 a9 a10 st M Q => xw_s rfl rfl,
  fun a0 a1 a2 a3 a4 a5 a6 a7 a8 a9 a10 st M Q => xw_s rfl rfl,
  fun a0 a1 a2 a3 a4 a5 a6 a7 a8 a9 a10 y0 st M Q => xw_br (c0 := y0 = nI 0) rfl rfl,
  fun a0 a1 a2 a3 a4 a5 a6 a7 a8 a9 a10 st M Q => xw_s rfl rfl,
  fun a0 a1 a2 a3 a4 a5 a6 a7 a8 a9 a10 st M Q => xw_s rfl rfl,
  fun a0 a1 a2 a3 a4 a5 a6 a7 a8 a9 a10 st M Q => xw_s rfl rfl,
  fun a0 a1 a2 a3 a4 a5 a6 a7 a8 a9 a10 st M Q => xw_s rfl rfl,
  fun a0 a1 a2 a3 a4 a5 a6 a7 a8 a9 a10 y0 st M Q => xw_br (c0 := y0 = nI 0) rfl rfl,
  fun a0 a1 a2 a3 a4 a5 a6 a7 a8 a9 a10 st M Q => xw_s rfl rfl,
  fun a0 a1 a2 a3 a4 a5 a6 a7 a8 a9 a10 st M Q => xw_s rfl rfl,
  fun a0 a1 a2 a3 a4 a5 a6 a7 a8 a9 a10 st M Q => xw_s rfl rfl,
  fun a0 a1 a2 a3 a4 a5 a6 a7 a8 a9 a10 st M Q => xw_s rfl rfl,
  fun a0 a1 a2 a3 a4 a5 a6 a7 a8 a9 a10 st M Q => xw_s rfl rfl,
  fun a0 a1 a2 a3 a4 a5 a6 a7 a8 a9 a10 st M Q => xw_s rfl rfl,
  fun a0 a1 a2 a3 a4 a5 a6 a7 a8 a9 a10 y0 st M Q => xw_brn (c0 := nI 0 ≤ y0) (c1 := y0 < nI 0) rfl rfl (xge _ _),
  fun a0 a1 a2 a3 a4 a5 a6 a7 a8 a9 a10 st M Q => xw_s rfl rfl,
  fun a0 a1 a2 a3 a4 a5 a6 a7 a8 a9 a10 st M Q => xw_s rfl rfl,
  fun a0 a1 a2 a3 a4 a5 a6 a7 a8 a9 a10 st M Q => xw_s rfl rfl,
  fun a0 a1 a2 a3 a4 a5 a6 a7 a8 a9 a10 y0 st M Q => xw_brn (c0 := y0 ≠ nI 0) (c1 := y0 = nI 0) rfl rfl (Iff.rfl),
  fun a0 a1 a2 a3 a4 a5 a6 a7 a8 a9 a10 st M Q => xw_s rfl rfl,
  fun a0 a1 a2 a3 a4 a5 a6 a7 a8 a9 a10 st M Q => xw_s rfl rfl,
  fun a0 a1 a2 a3 a4 a5 a6 a7 a8 a9 a10 st M Q => xw_s rfl rfl⟩
set_option maxRecDepth 20000 in
theorem h184_26 :
  (∀ (a0 : Nat) (a1 : Int32) (a2 : Int32) (a3 : Int32) (a4 : Value) (a5 : Value) (a6 : Value) (a7 : Value) (a8 : Value) (a9 : Value) (a10 : Value) (st : List Value) (M : xM) (Q : Option Value → xM → Prop), xW xSR 184 26 [.ref a0, .int a1, .int a2, .int a3, a4, a5, a6, a7, a8, a9, a10] (st) M Q = xW xSR 184 27 [.ref a0, .int a1, .int a2, .int a3, a4, a5, a6, a7, a8, a9, a10] (.int (-1) :: st) M Q) :=
  fun a0 a1 a2 a3 a4 a5 a6 a7 a8 a9 a10 st M Q => xw_s rfl rfl
set_option maxRecDepth 20000 in
theorem h184_74 :
  (∀ (a0 : Nat) (a1 : Int32) (a2 : Int32) (a3 : Int32) (a4 : Int32) (a5 : Value) (a6 : Value) (a7 : Value) (a8 : Value) (a9 : Value) (a10 : Value) (y0 : Int32) (st : List Value) (M : xM) (Q : Option Value → xM → Prop), xW xSR 184 74 [.ref a0, .int a1, .int a2, .int a3, .int a4, a5, a6, a7, a8, a9, a10] (.int y0 :: st) M Q = xW xSR 184 76 [.ref a0, .int a1, .int a2, .int a3, .int a4, .int y0, a6, a7, a8, a9, a10] (st) M Q) :=
  fun a0 a1 a2 a3 a4 a5 a6 a7 a8 a9 a10 y0 st M Q => xw_s rfl rfl
set_option maxRecDepth 20000 in
theorem h184_92 :
  (∀ (a0 : Nat) (a1 : Int32) (a2 : Int32) (a3 : Int32) (a4 : Int32) (a5 : Int32) (a6 : Value) (a7 : Value) (a8 : Value) (a9 : Value) (a10 : Value) (y0 : Int32) (M : xM) (Q : Option Value → xM → Prop), xW xSR 184 92 [.ref a0, .int a1, .int a2, .int a3, .int a4, .int a5, a6, a7, a8, a9, a10] ([.int y0]) M Q = Q (some (.int y0)) M) :=
  fun a0 a1 a2 a3 a4 a5 a6 a7 a8 a9 a10 y0 M Q => xw_ret rfl rfl
set_option maxRecDepth 20000 in
theorem h184_96 :
  (∀ (a0 : Nat) (a1 : Int32) (a2 : Int32) (a3 : Int32) (a4 : Int32) (a5 : Int32) (a6 : Int32) (a7 : Value) (a8 : Value) (a9 : Value) (a10 : Value) (st : List Value) (M : xM) (Q : Option Value → xM → Prop), xW xSR 184 96 [.ref a0, .int a1, .int a2, .int a3, .int a4, .int a5, .int a6, a7, a8, a9, a10] (st) M Q = xW xSR 184 98 [.ref a0, .int a1, .int a2, .int a3, .int a4, .int a5, .int a6, a7, a8, a9, a10] (.int a6 :: st) M Q) :=
  fun a0 a1 a2 a3 a4 a5 a6 a7 a8 a9 a10 st M Q => xw_s rfl rfl
set_option maxRecDepth 20000 in
theorem h184_122 :
  (∀ (a0 : Nat) (a1 : Int32) (a2 : Int32) (a3 : Int32) (a4 : Int32) (a5 : Int32) (a6 : Int32) (a7 : Value) (a8 : Value) (a9 : Value) (a10 : Value) (y0 : Int32) (y1 : Nat) (st : List Value) (M : xM) (Q : Option Value → xM → Prop), y1 < 32 → xW xSR 184 122 [.ref a0, .int a1, .int a2, .int a3, .int a4, .int a5, .int a6, a7, a8, a9, a10] (.int y0 :: .int (nI y1) :: .ref 9 :: st) M Q = xW xSR 184 123 [.ref a0, .int a1, .int a2, .int a3, .int a4, .int a5, .int a6, a7, a8, a9, a10] (st) (xup M 9 y1 y0) Q) :=
  fun a0 a1 a2 a3 a4 a5 a6 a7 a8 a9 a10 y0 y1 st M Q h0 => xw_ast (f := fun x => x) rfl rfl rfl (by decide) h0
set_option maxRecDepth 20000 in
theorem h184_132 :
  (∀ (a0 : Nat) (a1 : Int32) (a2 : Int32) (a3 : Int32) (a4 : Int32) (a5 : Int32) (a6 : Int32) (a7 : Value) (a8 : Value) (a9 : Value) (a10 : Value) (st : List Value) (M : xM) (Q : Option Value → xM → Prop), xW xSR 184 132 [.ref a0, .int a1, .int a2, .int a3, .int a4, .int a5, .int a6, a7, a8, a9, a10] (st) M Q = xW xSR 184 134 [.ref a0, .int a1, .int a2, .int a3, .int a4, .int a5, .int a6, a7, a8, a9, a10] (.int a6 :: st) M Q) :=
  fun a0 a1 a2 a3 a4 a5 a6 a7 a8 a9 a10 st M Q => xw_s rfl rfl
set_option maxRecDepth 20000 in
theorem h184_142 :
  (∀ (a0 : Nat) (a1 : Int32) (a2 : Int32) (a3 : Int32) (a4 : Int32) (a5 : Int32) (a6 : Int32) (a7 : Int32) (a8 : Value) (a9 : Value) (a10 : Value) (st : List Value) (M : xM) (Q : Option Value → xM → Prop), xW xSR 184 142 [.ref a0, .int a1, .int a2, .int a3, .int a4, .int a5, .int a6, .int a7, a8, a9, a10] (st) M Q = xW xSR 184 144 [.ref a0, .int a1, .int a2, .int a3, .int a4, .int a5, .int a6, .int a7, a8, a9, a10] (.int a7 :: st) M Q) :=
  fun a0 a1 a2 a3 a4 a5 a6 a7 a8 a9 a10 st M Q => xw_s rfl rfl
set_option maxRecDepth 20000 in
theorem h184_162 :
  (∀ (a0 : Nat) (a1 : Int32) (a2 : Int32) (a3 : Int32) (a4 : Int32) (a5 : Int32) (a6 : Int32) (a7 : Int32) (a8 : Value) (a9 : Value) (a10 : Value) (y0 : Int32) (st : List Value) (M : xM) (Q : Option Value → xM → Prop), xW xSR 184 162 [.ref a0, .int a1, .int a2, .int a3, .int a4, .int a5, .int a6, .int a7, a8, a9, a10] (.int y0 :: st) M Q = xW xSR 184 164 [.ref a0, .int a1, .int a2, .int a3, .int a4, .int a5, .int a6, .int a7, .int y0, a9, a10] (st) M Q) :=
  fun a0 a1 a2 a3 a4 a5 a6 a7 a8 a9 a10 y0 st M Q => xw_s rfl rfl
set_option maxRecDepth 20000 in
theorem h184_167 :
  (∀ (a0 : Nat) (a1 : Int32) (a2 : Int32) (a3 : Int32) (a4 : Int32) (a5 : Int32) (a6 : Int32) (a7 : Int32) (a8 : Int32) (a9 : Int32) (a10 : Value) (st : List Value) (M : xM) (Q : Option Value → xM → Prop), xW xSR 184 167 [.ref a0, .int a1, .int a2, .int a3, .int a4, .int a5, .int a6, .int a7, .int a8, .int a9, a10] (st) M Q = xW xSR 184 169 [.ref a0, .int a1, .int a2, .int a3, .int a4, .int a5, .int a6, .int a7, .int a8, .int a9, a10] (.int a9 :: st) M Q) :=
  fun a0 a1 a2 a3 a4 a5 a6 a7 a8 a9 a10 st M Q => xw_s rfl rfl
set_option maxRecDepth 20000 in
theorem h184_230 :
  (∀ (a0 : Nat) (a1 : Int32) (a2 : Int32) (a3 : Int32) (a4 : Int32) (a5 : Int32) (a6 : Int32) (a7 : Int32) (a8 : Int32) (a9 : Int32) (a10 : Int32) (st : List Value) (M : xM) (Q : Option Value → xM → Prop), xW xSR 184 230 [.ref a0, .int a1, .int a2, .int a3, .int a4, .int a5, .int a6, .int a7, .int a8, .int a9, .int a10] (st) M Q = xW xSR 184 232 [.ref a0, .int a1, .int a2, .int a3, .int a4, .int a5, .int a6, .int a7, .int a8, .int a9, .int a10] (.int a10 :: st) M Q) :=
  fun a0 a1 a2 a3 a4 a5 a6 a7 a8 a9 a10 st M Q => xw_s rfl rfl
set_option maxRecDepth 20000 in
theorem h184_235 :
  (∀ (a0 : Nat) (a1 : Int32) (a2 : Int32) (a3 : Int32) (a4 : Int32) (a5 : Int32) (a6 : Int32) (a7 : Int32) (a8 : Int32) (a9 : Int32) (a10 : Int32) (st : List Value) (M : xM) (Q : Option Value → xM → Prop), xW xSR 184 235 [.ref a0, .int a1, .int a2, .int a3, .int a4, .int a5, .int a6, .int a7, .int a8, .int a9, .int a10] (st) M Q = xW xSR 184 237 [.ref a0, .int a1, .int a2, .int a3, .int a4, .int a5, .int a6, .int a7, .int a8, .int a9, .int a10] (.int a8 :: st) M Q) :=
  fun a0 a1 a2 a3 a4 a5 a6 a7 a8 a9 a10 st M Q => xw_s rfl rfl
set_option maxRecDepth 20000 in
theorem h184_237 :
  (∀ (a0 : Nat) (a1 : Int32) (a2 : Int32) (a3 : Int32) (a4 : Int32) (a5 : Int32) (a6 : Int32) (a7 : Int32) (a8 : Int32) (a9 : Int32) (a10 : Int32) (y0 : Int32) (st : List Value) (M : xM) (Q : Option Value → xM → Prop), xW xSR 184 237 [.ref a0, .int a1, .int a2, .int a3, .int a4, .int a5, .int a6, .int a7, .int a8, .int a9, .int a10] (.int y0 :: st) M Q = xW xSR 184 239 [.ref a0, .int a1, .int a2, .int a3, .int a4, .int a5, .int a6, .int a7, .int y0, .int a9, .int a10] (st) M Q) :=
  fun a0 a1 a2 a3 a4 a5 a6 a7 a8 a9 a10 y0 st M Q => xw_s rfl rfl
set_option maxRecDepth 20000 in
theorem h184_245 :
  (∀ (a0 : Nat) (a1 : Int32) (a2 : Int32) (a3 : Int32) (a4 : Int32) (a5 : Int32) (a6 : Int32) (a7 : Int32) (a8 : Int32) (a9 : Int32) (a10 : Value) (st : List Value) (M : xM) (Q : Option Value → xM → Prop), xW xSR 184 245 [.ref a0, .int a1, .int a2, .int a3, .int a4, .int a5, .int a6, .int a7, .int a8, .int a9, a10] (st) M Q = xW xSR 184 246 [.ref a0, .int a1, .int a2, .int a3, .int a4, .int a5, .int a6, .int a7, .int a8, .int a9, a10] (.ref a0 :: st) M Q) :=
  fun a0 a1 a2 a3 a4 a5 a6 a7 a8 a9 a10 st M Q => xw_s rfl rfl
set_option maxRecDepth 20000 in
theorem h184_263 :
  (∀ (a0 : Nat) (a1 : Int32) (a2 : Int32) (a3 : Int32) (a4 : Int32) (a5 : Int32) (a6 : Int32) (a7 : Int32) (a8 : Value) (a9 : Value) (a10 : Value) (st : List Value) (M : xM) (Q : Option Value → xM → Prop), xW xSR 184 263 [.ref a0, .int a1, .int a2, .int a3, .int a4, .int a5, .int a6, .int a7, a8, a9, a10] (st) M Q = xW xSR 184 265 [.ref a0, .int a1, .int a2, .int a3, .int a4, .int a5, .int a6, .int a7, a8, a9, a10] (.int a7 :: st) M Q) :=
  fun a0 a1 a2 a3 a4 a5 a6 a7 a8 a9 a10 st M Q => xw_s rfl rfl
set_option maxRecDepth 20000 in
theorem h184_306 :
  (∀ (a0 : Nat) (a1 : Int32) (a2 : Int32) (a3 : Int32) (a4 : Int32) (a5 : Int32) (a6 : Int32) (a7 : Int32) (a8 : Int32) (a9 : Value) (a10 : Value) (st : List Value) (M : xM) (Q : Option Value → xM → Prop), xW xSR 184 306 [.ref a0, .int a1, .int a2, .int a3, .int a4, .int a5, .int a6, .int a7, .int a8, a9, a10] (st) M Q = xW xSR 184 308 [.ref a0, .int a1, .int a2, .int a3, .int a4, .int a5, .int a6, .int a7, .int a8, a9, a10] (.int a8 :: st) M Q) :=
  fun a0 a1 a2 a3 a4 a5 a6 a7 a8 a9 a10 st M Q => xw_s rfl rfl
set_option maxRecDepth 20000 in
theorem h184_347 :
  (∀ (a0 : Nat) (a1 : Int32) (a2 : Int32) (a3 : Int32) (a4 : Int32) (a5 : Int32) (a6 : Int32) (a7 : Int32) (a8 : Int32) (a9 : Int32) (a10 : Value) (st : List Value) (M : xM) (Q : Option Value → xM → Prop), xW xSR 184 347 [.ref a0, .int a1, .int a2, .int a3, .int a4, .int a5, .int a6, .int a7, .int a8, .int a9, a10] (st) M Q = xW xSR 184 348 [.ref a0, .int a1, .int a2, .int a3, .int a4, .int a5, .int a6, .int a7, .int a8, .int a9, a10] (.int (nI 1) :: st) M Q) :=
  fun a0 a1 a2 a3 a4 a5 a6 a7 a8 a9 a10 st M Q => xw_s rfl rfl
set_option maxRecDepth 20000 in
theorem h184_351 :
  (∀ (a0 : Nat) (a1 : Int32) (a2 : Int32) (a3 : Int32) (a4 : Int32) (a5 : Int32) (a6 : Int32) (a7 : Int32) (a8 : Int32) (a9 : Int32) (a10 : Value) (st : List Value) (M : xM) (Q : Option Value → xM → Prop), xW xSR 184 351 [.ref a0, .int a1, .int a2, .int a3, .int a4, .int a5, .int a6, .int a7, .int a8, .int a9, a10] (st) M Q = xW xSR 184 352 [.ref a0, .int a1, .int a2, .int a3, .int a4, .int a5, .int a6, .int a7, .int a8, .int a9, a10] (.int (nI 0) :: st) M Q) :=
  fun a0 a1 a2 a3 a4 a5 a6 a7 a8 a9 a10 st M Q => xw_s rfl rfl
set_option maxRecDepth 20000 in
theorem h184_352 :
  (∀ (a0 : Nat) (a1 : Int32) (a2 : Int32) (a3 : Int32) (a4 : Int32) (a5 : Int32) (a6 : Int32) (a7 : Int32) (a8 : Int32) (a9 : Int32) (a10 : Value) (y0 : Int32) (st : List Value) (M : xM) (Q : Option Value → xM → Prop), xW xSR 184 352 [.ref a0, .int a1, .int a2, .int a3, .int a4, .int a5, .int a6, .int a7, .int a8, .int a9, a10] (.int y0 :: st) M Q = xW xSR 184 354 [.ref a0, .int a1, .int a2, .int a3, .int a4, .int a5, .int a6, .int a7, .int a8, .int a9, .int y0] (st) M Q) :=
  fun a0 a1 a2 a3 a4 a5 a6 a7 a8 a9 a10 y0 st M Q => xw_s rfl rfl
set_option maxRecDepth 20000 in
theorem h184_366 :
  (∀ (a0 : Nat) (a1 : Int32) (a2 : Int32) (a3 : Int32) (a4 : Int32) (a5 : Int32) (a6 : Int32) (a7 : Int32) (a8 : Int32) (a9 : Int32) (a10 : Int32) (y0 : Int32) (st : List Value) (M : xM) (Q : Option Value → xM → Prop), xW xSR 184 366 [.ref a0, .int a1, .int a2, .int a3, .int a4, .int a5, .int a6, .int a7, .int a8, .int a9, .int a10] (.int y0 :: st) M Q = xW xSR 184 368 [.ref a0, .int a1, .int a2, .int a3, .int a4, .int a5, .int a6, .int y0, .int a8, .int a9, .int a10] (st) M Q) :=
  fun a0 a1 a2 a3 a4 a5 a6 a7 a8 a9 a10 y0 st M Q => xw_s rfl rfl
set_option maxRecDepth 20000 in
theorem h184_380 :
  (∀ (a0 : Nat) (a1 : Int32) (a2 : Int32) (a3 : Int32) (a4 : Int32) (a5 : Int32) (a6 : Int32) (a7 : Int32) (a8 : Int32) (a9 : Int32) (a10 : Int32) (y0 : Int32) (st : List Value) (M : xM) (Q : Option Value → xM → Prop), xW xSR 184 380 [.ref a0, .int a1, .int a2, .int a3, .int a4, .int a5, .int a6, .int a7, .int a8, .int a9, .int a10] (.int y0 :: st) M Q = xW xSR 184 382 [.ref a0, .int a1, .int a2, .int a3, .int a4, .int a5, .int y0, .int a7, .int a8, .int a9, .int a10] (st) M Q) :=
  fun a0 a1 a2 a3 a4 a5 a6 a7 a8 a9 a10 y0 st M Q => xw_s rfl rfl
set_option maxRecDepth 20000 in
theorem h184_409 :
  (∀ (a0 : Nat) (a1 : Int32) (a2 : Int32) (a3 : Int32) (a4 : Int32) (a5 : Int32) (a6 : Int32) (a7 : Int32) (a8 : Int32) (a9 : Value) (a10 : Value) (y0 : Int32) (M : xM) (Q : Option Value → xM → Prop), xW xSR 184 409 [.ref a0, .int a1, .int a2, .int a3, .int a4, .int a5, .int a6, .int a7, .int a8, a9, a10] ([.int y0]) M Q = Q (some (.int y0)) M) :=
  fun a0 a1 a2 a3 a4 a5 a6 a7 a8 a9 a10 y0 M Q => xw_ret rfl rfl
set_option maxRecDepth 20000 in
theorem j184 :
  (∀ (a0 : Nat) (a1 : Int32) (a2 : Int32) (a3 : Int32) (a4 : Value) (a5 : Value) (a6 : Value) (a7 : Value) (a8 : Value) (a9 : Value) (a10 : Value) (st : List Value) (M : xM) (Q : Option Value → xM → Prop), xW xSR 184 26 [.ref a0, .int a1, .int a2, .int a3, a4, a5, a6, a7, a8, a9, a10] (st) M Q = xW xSR 184 27 [.ref a0, .int a1, .int a2, .int a3, a4, a5, a6, a7, a8, a9, a10] (.int (-1) :: st) M Q) ∧
  (∀ (a0 : Nat) (a1 : Int32) (a2 : Int32) (a3 : Int32) (a4 : Int32) (a5 : Value) (a6 : Value) (a7 : Value) (a8 : Value) (a9 : Value) (a10 : Value) (y0 : Int32) (st : List Value) (M : xM) (Q : Option Value → xM → Prop), xW xSR 184 74 [.ref a0, .int a1, .int a2, .int a3, .int a4, a5, a6, a7, a8, a9, a10] (.int y0 :: st) M Q = xW xSR 184 76 [.ref a0, .int a1, .int a2, .int a3, .int a4, .int y0, a6, a7, a8, a9, a10] (st) M Q) ∧
  (∀ (a0 : Nat) (a1 : Int32) (a2 : Int32) (a3 : Int32) (a4 : Int32) (a5 : Int32) (a6 : Value) (a7 : Value) (a8 : Value) (a9 : Value) (a10 : Value) (y0 : Int32) (M : xM) (Q : Option Value → xM → Prop), xW xSR 184 92 [.ref a0, .int a1, .int a2, .int a3, .int a4, .int a5, a6, a7, a8, a9, a10] ([.int y0]) M Q = Q (some (.int y0)) M) ∧
  (∀ (a0 : Nat) (a1 : Int32) (a2 : Int32) (a3 : Int32) (a4 : Int32) (a5 : Int32) (a6 : Int32) (a7 : Value) (a8 : Value) (a9 : Value) (a10 : Value) (y0 : Int32) (y1 : Nat) (st : List Value) (M : xM) (Q : Option Value → xM → Prop), y1 < 32 → xW xSR 184 122 [.ref a0, .int a1, .int a2, .int a3, .int a4, .int a5, .int a6, a7, a8, a9, a10] (.int y0 :: .int (nI y1) :: .ref 9 :: st) M Q = xW xSR 184 123 [.ref a0, .int a1, .int a2, .int a3, .int a4, .int a5, .int a6, a7, a8, a9, a10] (st) (xup M 9 y1 y0) Q) ∧
  (∀ (a0 : Nat) (a1 : Int32) (a2 : Int32) (a3 : Int32) (a4 : Int32) (a5 : Int32) (a6 : Int32) (a7 : Int32) (a8 : Value) (a9 : Value) (a10 : Value) (y0 : Int32) (st : List Value) (M : xM) (Q : Option Value → xM → Prop), xW xSR 184 162 [.ref a0, .int a1, .int a2, .int a3, .int a4, .int a5, .int a6, .int a7, a8, a9, a10] (.int y0 :: st) M Q = xW xSR 184 164 [.ref a0, .int a1, .int a2, .int a3, .int a4, .int a5, .int a6, .int a7, .int y0, a9, a10] (st) M Q) ∧
  (∀ (a0 : Nat) (a1 : Int32) (a2 : Int32) (a3 : Int32) (a4 : Int32) (a5 : Int32) (a6 : Int32) (a7 : Int32) (a8 : Int32) (a9 : Int32) (a10 : Int32) (st : List Value) (M : xM) (Q : Option Value → xM → Prop), xW xSR 184 230 [.ref a0, .int a1, .int a2, .int a3, .int a4, .int a5, .int a6, .int a7, .int a8, .int a9, .int a10] (st) M Q = xW xSR 184 232 [.ref a0, .int a1, .int a2, .int a3, .int a4, .int a5, .int a6, .int a7, .int a8, .int a9, .int a10] (.int a10 :: st) M Q) ∧
  (∀ (a0 : Nat) (a1 : Int32) (a2 : Int32) (a3 : Int32) (a4 : Int32) (a5 : Int32) (a6 : Int32) (a7 : Int32) (a8 : Int32) (a9 : Int32) (a10 : Int32) (st : List Value) (M : xM) (Q : Option Value → xM → Prop), xW xSR 184 235 [.ref a0, .int a1, .int a2, .int a3, .int a4, .int a5, .int a6, .int a7, .int a8, .int a9, .int a10] (st) M Q = xW xSR 184 237 [.ref a0, .int a1, .int a2, .int a3, .int a4, .int a5, .int a6, .int a7, .int a8, .int a9, .int a10] (.int a8 :: st) M Q) ∧
  (∀ (a0 : Nat) (a1 : Int32) (a2 : Int32) (a3 : Int32) (a4 : Int32) (a5 : Int32) (a6 : Int32) (a7 : Int32) (a8 : Int32) (a9 : Int32) (a10 : Int32) (y0 : Int32) (st : List Value) (M : xM) (Q : Option Value → xM → Prop), xW xSR 184 237 [.ref a0, .int a1, .int a2, .int a3, .int a4, .int a5, .int a6, .int a7, .int a8, .int a9, .int a10] (.int y0 :: st) M Q = xW xSR 184 239 [.ref a0, .int a1, .int a2, .int a3, .int a4, .int a5, .int a6, .int a7, .int y0, .int a9, .int a10] (st) M Q) ∧
  (∀ (a0 : Nat) (a1 : Int32) (a2 : Int32) (a3 : Int32) (a4 : Int32) (a5 : Int32) (a6 : Int32) (a7 : Int32) (a8 : Int32) (a9 : Int32) (a10 : Value) (st : List Value) (M : xM) (Q : Option Value → xM → Prop), xW xSR 184 245 [.ref a0, .int a1, .int a2, .int a3, .int a4, .int a5, .int a6, .int a7, .int a8, .int a9, a10] (st) M Q = xW xSR 184 246 [.ref a0, .int a1, .int a2, .int a3, .int a4, .int a5, .int a6, .int a7, .int a8, .int a9, a10] (.ref a0 :: st) M Q) ∧
  (∀ (a0 : Nat) (a1 : Int32) (a2 : Int32) (a3 : Int32) (a4 : Int32) (a5 : Int32) (a6 : Int32) (a7 : Int32) (a8 : Int32) (a9 : Int32) (a10 : Value) (st : List Value) (M : xM) (Q : Option Value → xM → Prop), xW xSR 184 347 [.ref a0, .int a1, .int a2, .int a3, .int a4, .int a5, .int a6, .int a7, .int a8, .int a9, a10] (st) M Q = xW xSR 184 348 [.ref a0, .int a1, .int a2, .int a3, .int a4, .int a5, .int a6, .int a7, .int a8, .int a9, a10] (.int (nI 1) :: st) M Q) ∧
  (∀ (a0 : Nat) (a1 : Int32) (a2 : Int32) (a3 : Int32) (a4 : Int32) (a5 : Int32) (a6 : Int32) (a7 : Int32) (a8 : Int32) (a9 : Int32) (a10 : Value) (st : List Value) (M : xM) (Q : Option Value → xM → Prop), xW xSR 184 351 [.ref a0, .int a1, .int a2, .int a3, .int a4, .int a5, .int a6, .int a7, .int a8, .int a9, a10] (st) M Q = xW xSR 184 352 [.ref a0, .int a1, .int a2, .int a3, .int a4, .int a5, .int a6, .int a7, .int a8, .int a9, a10] (.int (nI 0) :: st) M Q) ∧
  (∀ (a0 : Nat) (a1 : Int32) (a2 : Int32) (a3 : Int32) (a4 : Int32) (a5 : Int32) (a6 : Int32) (a7 : Int32) (a8 : Int32) (a9 : Int32) (a10 : Value) (y0 : Int32) (st : List Value) (M : xM) (Q : Option Value → xM → Prop), xW xSR 184 352 [.ref a0, .int a1, .int a2, .int a3, .int a4, .int a5, .int a6, .int a7, .int a8, .int a9, a10] (.int y0 :: st) M Q = xW xSR 184 354 [.ref a0, .int a1, .int a2, .int a3, .int a4, .int a5, .int a6, .int a7, .int a8, .int a9, .int y0] (st) M Q) ∧
  (∀ (a0 : Nat) (a1 : Int32) (a2 : Int32) (a3 : Int32) (a4 : Int32) (a5 : Int32) (a6 : Int32) (a7 : Int32) (a8 : Int32) (a9 : Int32) (a10 : Int32) (y0 : Int32) (st : List Value) (M : xM) (Q : Option Value → xM → Prop), xW xSR 184 366 [.ref a0, .int a1, .int a2, .int a3, .int a4, .int a5, .int a6, .int a7, .int a8, .int a9, .int a10] (.int y0 :: st) M Q = xW xSR 184 368 [.ref a0, .int a1, .int a2, .int a3, .int a4, .int a5, .int a6, .int y0, .int a8, .int a9, .int a10] (st) M Q) ∧
  (∀ (a0 : Nat) (a1 : Int32) (a2 : Int32) (a3 : Int32) (a4 : Int32) (a5 : Int32) (a6 : Int32) (a7 : Int32) (a8 : Int32) (a9 : Int32) (a10 : Int32) (y0 : Int32) (st : List Value) (M : xM) (Q : Option Value → xM → Prop), xW xSR 184 380 [.ref a0, .int a1, .int a2, .int a3, .int a4, .int a5, .int a6, .int a7, .int a8, .int a9, .int a10] (.int y0 :: st) M Q = xW xSR 184 382 [.ref a0, .int a1, .int a2, .int a3, .int a4, .int a5, .int y0, .int a7, .int a8, .int a9, .int a10] (st) M Q) ∧
  (∀ (a0 : Nat) (a1 : Int32) (a2 : Int32) (a3 : Int32) (a4 : Int32) (a5 : Int32) (a6 : Int32) (a7 : Int32) (a8 : Int32) (a9 : Value) (a10 : Value) (y0 : Int32) (M : xM) (Q : Option Value → xM → Prop), xW xSR 184 409 [.ref a0, .int a1, .int a2, .int a3, .int a4, .int a5, .int a6, .int a7, .int a8, a9, a10] ([.int y0]) M Q = Q (some (.int y0)) M) :=
  ⟨fun a0 a1 a2 a3 a4 a5 a6 a7 a8 a9 a10 st M Q => xw_s rfl rfl,
  fun a0 a1 a2 a3 a4 a5 a6 a7 a8 a9 a10 y0 st M Q => xw_s rfl rfl,
  fun a0 a1 a2 a3 a4 a5 a6 a7 a8 a9 a10 y0 M Q => xw_ret rfl rfl,
  fun a0 a1 a2 a3 a4 a5 a6 a7 a8 a9 a10 y0 y1 st M Q h0 => xw_ast (f := fun x => x) rfl rfl rfl (by decide) h0,
  fun a0 a1 a2 a3 a4 a5 a6 a7 a8 a9 a10 y0 st M Q => xw_s rfl rfl,
  fun a0 a1 a2 a3 a4 a5 a6 a7 a8 a9 a10 st M Q => xw_s rfl rfl,
  fun a0 a1 a2 a3 a4 a5 a6 a7 a8 a9 a10 st M Q => xw_s rfl rfl,
  fun a0 a1 a2 a3 a4 a5 a6 a7 a8 a9 a10 y0 st M Q => xw_s rfl rfl,
  fun a0 a1 a2 a3 a4 a5 a6 a7 a8 a9 a10 st M Q => xw_s rfl rfl,
  fun a0 a1 a2 a3 a4 a5 a6 a7 a8 a9 a10 st M Q => xw_s rfl rfl,
  fun a0 a1 a2 a3 a4 a5 a6 a7 a8 a9 a10 st M Q => xw_s rfl rfl,
  fun a0 a1 a2 a3 a4 a5 a6 a7 a8 a9 a10 y0 st M Q => xw_s rfl rfl,
  fun a0 a1 a2 a3 a4 a5 a6 a7 a8 a9 a10 y0 st M Q => xw_s rfl rfl,
  fun a0 a1 a2 a3 a4 a5 a6 a7 a8 a9 a10 y0 st M Q => xw_s rfl rfl,
  fun a0 a1 a2 a3 a4 a5 a6 a7 a8 a9 a10 y0 M Q => xw_ret rfl rfl⟩

set_option maxRecDepth 20000 in
theorem s185 :
  (∀ (a0 : Nat) (a1 : Int32) (a2 : Int32) (a3 : Int32) (a4 : Int32) (a5 : Value) (a6 : Value) (a7 : Value) (a8 : Value) (st : List Value) (M : xM) (Q : Option Value → xM → Prop), xW xSR 185 0 [.ref a0, .int a1, .int a2, .int a3, .int a4, a5, a6, a7, a8] (st) M Q = xW xSR 185 1 [.ref a0, .int a1, .int a2, .int a3, .int a4, a5, a6, a7, a8] (.ref a0 :: st) M Q) ∧
  (∀ (a0 : Nat) (a1 : Int32) (a2 : Int32) (a3 : Int32) (a4 : Int32) (a5 : Value) (a6 : Value) (a7 : Value) (a8 : Value) (st : List Value) (M : xM) (Q : Option Value → xM → Prop), xW xSR 185 1 [.ref a0, .int a1, .int a2, .int a3, .int a4, a5, a6, a7, a8] (st) M Q = xW xSR 185 2 [.ref a0, .int a1, .int a2, .int a3, .int a4, a5, a6, a7, a8] (.int a1 :: st) M Q) ∧
  (∀ (a0 : Nat) (a1 : Int32) (a2 : Int32) (a3 : Int32) (a4 : Int32) (a5 : Value) (a6 : Value) (a7 : Value) (a8 : Value) (y0 : Int32) (M : xM) (Q : Option Value → xM → Prop), xW xSR 185 2 [.ref a0, .int a1, .int a2, .int a3, .int a4, a5, a6, a7, a8] (.int y0 :: .ref 0 :: []) M Q = xW xSR 141 0 [.ref 0, .int y0] [] M (fun v M' => xW xSR 185 5 [.ref a0, .int a1, .int a2, .int a3, .int a4, a5, a6, a7, a8] (xpush v []) M' Q)) ∧
  (∀ (a0 : Nat) (a1 : Int32) (a2 : Int32) (a3 : Int32) (a4 : Int32) (a5 : Value) (a6 : Value) (a7 : Value) (a8 : Value) (y0 : Int32) (st : List Value) (M : xM) (Q : Option Value → xM → Prop), xW xSR 185 5 [.ref a0, .int a1, .int a2, .int a3, .int a4, a5, a6, a7, a8] (.int y0 :: st) M Q = if y0 = nI 0 then xW xSR 185 36 [.ref a0, .int a1, .int a2, .int a3, .int a4, a5, a6, a7, a8] (st) M Q else xW xSR 185 8 [.ref a0, .int a1, .int a2, .int a3, .int a4, a5, a6, a7, a8] (st) M Q) ∧
  (∀ (a0 : Nat) (a1 : Int32) (a2 : Int32) (a3 : Int32) (a4 : Int32) (a5 : Value) (a6 : Value) (a7 : Value) (a8 : Value) (st : List Value) (M : xM) (Q : Option Value → xM → Prop), xW xSR 185 8 [.ref a0, .int a1, .int a2, .int a3, .int a4, a5, a6, a7, a8] (st) M Q = xW xSR 185 9 [.ref a0, .int a1, .int a2, .int a3, .int a4, a5, a6, a7, a8] (.ref a0 :: st) M Q) ∧
  (∀ (a0 : Nat) (a1 : Int32) (a2 : Int32) (a3 : Int32) (a4 : Int32) (a5 : Value) (a6 : Value) (a7 : Value) (a8 : Value) (st : List Value) (M : xM) (Q : Option Value → xM → Prop), xW xSR 185 9 [.ref a0, .int a1, .int a2, .int a3, .int a4, a5, a6, a7, a8] (st) M Q = xW xSR 185 10 [.ref a0, .int a1, .int a2, .int a3, .int a4, a5, a6, a7, a8] (.int a2 :: st) M Q) ∧
  (∀ (a0 : Nat) (a1 : Int32) (a2 : Int32) (a3 : Int32) (a4 : Int32) (a5 : Value) (a6 : Value) (a7 : Value) (a8 : Value) (y0 : Int32) (M : xM) (Q : Option Value → xM → Prop), xW xSR 185 10 [.ref a0, .int a1, .int a2, .int a3, .int a4, a5, a6, a7, a8] (.int y0 :: .ref 0 :: []) M Q = xW xSR 140 0 [.ref 0, .int y0] [] M (fun v M' => xW xSR 185 13 [.ref a0, .int a1, .int a2, .int a3, .int a4, a5, a6, a7, a8] (xpush v []) M' Q)) ∧
  (∀ (a0 : Nat) (a1 : Int32) (a2 : Int32) (a3 : Int32) (a4 : Int32) (a5 : Value) (a6 : Value) (a7 : Value) (a8 : Value) (y0 : Int32) (st : List Value) (M : xM) (Q : Option Value → xM → Prop), xW xSR 185 13 [.ref a0, .int a1, .int a2, .int a3, .int a4, a5, a6, a7, a8] (.int y0 :: st) M Q = if y0 = nI 0 then xW xSR 185 36 [.ref a0, .int a1, .int a2, .int a3, .int a4, a5, a6, a7, a8] (st) M Q else xW xSR 185 16 [.ref a0, .int a1, .int a2, .int a3, .int a4, a5, a6, a7, a8] (st) M Q) ∧
  (∀ (a0 : Nat) (a1 : Int32) (a2 : Int32) (a3 : Int32) (a4 : Int32) (a5 : Value) (a6 : Value) (a7 : Value) (a8 : Value) (st : List Value) (M : xM) (Q : Option Value → xM → Prop), xW xSR 185 16 [.ref a0, .int a1, .int a2, .int a3, .int a4, a5, a6, a7, a8] (st) M Q = xW xSR 185 17 [.ref a0, .int a1, .int a2, .int a3, .int a4, a5, a6, a7, a8] (.int a3 :: st) M Q) ∧
  (∀ (a0 : Nat) (a1 : Int32) (a2 : Int32) (a3 : Int32) (a4 : Int32) (a5 : Value) (a6 : Value) (a7 : Value) (a8 : Value) (y0 : Int32) (M : xM) (Q : Option Value → xM → Prop), xW xSR 185 17 [.ref a0, .int a1, .int a2, .int a3, .int a4, a5, a6, a7, a8] (.int y0 :: []) M Q = xW xSR 142 0 [.int y0] [] M (fun v M' => xW xSR 185 20 [.ref a0, .int a1, .int a2, .int a3, .int a4, a5, a6, a7, a8] (xpush v []) M' Q)) ∧
  (∀ (a0 : Nat) (a1 : Int32) (a2 : Int32) (a3 : Int32) (a4 : Int32) (a5 : Value) (a6 : Value) (a7 : Value) (a8 : Value) (y0 : Int32) (st : List Value) (M : xM) (Q : Option Value → xM → Prop), xW xSR 185 20 [.ref a0, .int a1, .int a2, .int a3, .int a4, a5, a6, a7, a8] (.int y0 :: st) M Q = if y0 = nI 0 then xW xSR 185 36 [.ref a0, .int a1, .int a2, .int a3, .int a4, a5, a6, a7, a8] (st) M Q else xW xSR 185 23 [.ref a0, .int a1, .int a2, .int a3, .int a4, a5, a6, a7, a8] (st) M Q) ∧
  (∀ (a0 : Nat) (a1 : Int32) (a2 : Int32) (a3 : Int32) (a4 : Int32) (a5 : Value) (a6 : Value) (a7 : Value) (a8 : Value) (st : List Value) (M : xM) (Q : Option Value → xM → Prop), xW xSR 185 23 [.ref a0, .int a1, .int a2, .int a3, .int a4, a5, a6, a7, a8] (st) M Q = xW xSR 185 25 [.ref a0, .int a1, .int a2, .int a3, .int a4, a5, a6, a7, a8] (.int a4 :: st) M Q) ∧
  (∀ (a0 : Nat) (a1 : Int32) (a2 : Int32) (a3 : Int32) (a4 : Int32) (a5 : Value) (a6 : Value) (a7 : Value) (a8 : Value) (y0 : Int32) (st : List Value) (M : xM) (Q : Option Value → xM → Prop), xW xSR 185 25 [.ref a0, .int a1, .int a2, .int a3, .int a4, a5, a6, a7, a8] (.int y0 :: st) M Q = xW xSR 185 26 [.ref a0, .int a1, .int a2, .int a3, .int a4, a5, a6, a7, a8] (.long y0.toInt64 :: st) M Q) ∧
  (∀ (a0 : Nat) (a1 : Int32) (a2 : Int32) (a3 : Int32) (a4 : Int32) (a5 : Value) (a6 : Value) (a7 : Value) (a8 : Value) (st : List Value) (M : xM) (Q : Option Value → xM → Prop), xW xSR 185 26 [.ref a0, .int a1, .int a2, .int a3, .int a4, a5, a6, a7, a8] (st) M Q = xW xSR 185 27 [.ref a0, .int a1, .int a2, .int a3, .int a4, a5, a6, a7, a8] (.long (lN 0) :: st) M Q) ∧
  (∀ (a0 : Nat) (a1 : Int32) (a2 : Int32) (a3 : Int32) (a4 : Int32) (a5 : Value) (a6 : Value) (a7 : Value) (a8 : Value) (st : List Value) (M : xM) (Q : Option Value → xM → Prop), xW xSR 185 27 [.ref a0, .int a1, .int a2, .int a3, .int a4, a5, a6, a7, a8] (st) M Q = xW xSR 185 30 [.ref a0, .int a1, .int a2, .int a3, .int a4, a5, a6, a7, a8] (.long (lN 99) :: st) M Q) ∧
  (∀ (a0 : Nat) (a1 : Int32) (a2 : Int32) (a3 : Int32) (a4 : Int32) (a5 : Value) (a6 : Value) (a7 : Value) (a8 : Value) (y0 : Int64) (y1 : Int64) (y2 : Int64) (M : xM) (Q : Option Value → xM → Prop), xW xSR 185 30 [.ref a0, .int a1, .int a2, .int a3, .int a4, a5, a6, a7, a8] (.long y0 :: .long y1 :: .long y2 :: []) M Q = xW xSR 135 0 [.long y2, .null, .long y1, .null, .long y0, .null] [] M (fun v M' => xW xSR 185 33 [.ref a0, .int a1, .int a2, .int a3, .int a4, a5, a6, a7, a8] (xpush v []) M' Q)) ∧
  (∀ (a0 : Nat) (a1 : Int32) (a2 : Int32) (a3 : Int32) (a4 : Int32) (a5 : Value) (a6 : Value) (a7 : Value) (a8 : Value) (y0 : Int32) (st : List Value) (M : xM) (Q : Option Value → xM → Prop), xW xSR 185 33 [.ref a0, .int a1, .int a2, .int a3, .int a4, a5, a6, a7, a8] (.int y0 :: st) M Q = if y0 = nI 0 then xW xSR 185 36 [.ref a0, .int a1, .int a2, .int a3, .int a4, a5, a6, a7, a8] (st) M Q else xW xSR 185 38 [.ref a0, .int a1, .int a2, .int a3, .int a4, a5, a6, a7, a8] (st) M Q) ∧
  (∀ (a0 : Nat) (a1 : Int32) (a2 : Int32) (a3 : Int32) (a4 : Int32) (a5 : Value) (a6 : Value) (a7 : Value) (a8 : Value) (y0 : Int32) (M : xM) (Q : Option Value → xM → Prop), xW xSR 185 37 [.ref a0, .int a1, .int a2, .int a3, .int a4, a5, a6, a7, a8] ([.int y0]) M Q = Q (some (.int y0)) M) ∧
  (∀ (a0 : Nat) (a1 : Int32) (a2 : Int32) (a3 : Int32) (a4 : Int32) (a5 : Value) (a6 : Value) (a7 : Value) (a8 : Value) (st : List Value) (M : xM) (Q : Option Value → xM → Prop), xW xSR 185 38 [.ref a0, .int a1, .int a2, .int a3, .int a4, a5, a6, a7, a8] (st) M Q = xW xSR 185 39 [.ref a0, .int a1, .int a2, .int a3, .int a4, a5, a6, a7, a8] (.int a1 :: st) M Q) ∧
  (∀ (a0 : Nat) (a1 : Int32) (a2 : Int32) (a3 : Int32) (a4 : Int32) (a5 : Value) (a6 : Value) (a7 : Value) (a8 : Value) (st : List Value) (M : xM) (Q : Option Value → xM → Prop), xW xSR 185 39 [.ref a0, .int a1, .int a2, .int a3, .int a4, a5, a6, a7, a8] (st) M Q = xW xSR 185 40 [.ref a0, .int a1, .int a2, .int a3, .int a4, a5, a6, a7, a8] (.int a2 :: st) M Q) ∧
  (∀ (a0 : Nat) (a1 : Int32) (a2 : Int32) (a3 : Int32) (a4 : Int32) (a5 : Value) (a6 : Value) (a7 : Value) (a8 : Value) (st : List Value) (M : xM) (Q : Option Value → xM → Prop), xW xSR 185 40 [.ref a0, .int a1, .int a2, .int a3, .int a4, a5, a6, a7, a8] (st) M Q = xW xSR 185 41 [.ref a0, .int a1, .int a2, .int a3, .int a4, a5, a6, a7, a8] (.int a3 :: st) M Q) ∧
  (∀ (a0 : Nat) (a1 : Int32) (a2 : Int32) (a3 : Int32) (a4 : Int32) (a5 : Value) (a6 : Value) (a7 : Value) (a8 : Value) (y0 : Int32) (y1 : Int32) (y2 : Int32) (M : xM) (Q : Option Value → xM → Prop), xW xSR 185 41 [.ref a0, .int a1, .int a2, .int a3, .int a4, a5, a6, a7, a8] (.int y0 :: .int y1 :: .int y2 :: []) M Q = xW xSR 158 0 [.int y2, .int y1, .int y0] [] M (fun v M' => xW xSR 185 44 [.ref a0, .int a1, .int a2, .int a3, .int a4, a5, a6, a7, a8] (xpush v []) M' Q)) ∧
  (∀ (a0 : Nat) (a1 : Int32) (a2 : Int32) (a3 : Int32) (a4 : Int32) (a5 : Value) (a6 : Value) (a7 : Value) (a8 : Value) (y0 : Int32) (st : List Value) (M : xM) (Q : Option Value → xM → Prop), xW xSR 185 44 [.ref a0, .int a1, .int a2, .int a3, .int a4, a5, a6, a7, a8] (.int y0 :: st) M Q = xW xSR 185 46 [.ref a0, .int a1, .int a2, .int a3, .int a4, .int y0, a6, a7, a8] (st) M Q) ∧
  (∀ (a0 : Nat) (a1 : Int32) (a2 : Int32) (a3 : Int32) (a4 : Int32) (a5 : Int32) (a6 : Value) (a7 : Value) (a8 : Value) (st : List Value) (M : xM) (Q : Option Value → xM → Prop), xW xSR 185 46 [.ref a0, .int a1, .int a2, .int a3, .int a4, .int a5, a6, a7, a8] (st) M Q = xW xSR 185 47 [.ref a0, .int a1, .int a2, .int a3, .int a4, .int a5, a6, a7, a8] (.ref a0 :: st) M Q) ∧
  (∀ (a0 : Nat) (a1 : Int32) (a2 : Int32) (a3 : Int32) (a4 : Int32) (a5 : Int32) (a6 : Value) (a7 : Value) (a8 : Value) (st : List Value) (M : xM) (Q : Option Value → xM → Prop), xW xSR 185 47 [.ref a0, .int a1, .int a2, .int a3, .int a4, .int a5, a6, a7, a8] (.ref 0 :: st) M Q = xW xSR 185 50 [.ref a0, .int a1, .int a2, .int a3, .int a4, .int a5, a6, a7, a8] (.ref 1 :: st) M Q) ∧
  (∀ (a0 : Nat) (a1 : Int32) (a2 : Int32) (a3 : Int32) (a4 : Int32) (a5 : Int32) (a6 : Value) (a7 : Value) (a8 : Value) (st : List Value) (M : xM) (Q : Option Value → xM → Prop), xW xSR 185 50 [.ref a0, .int a1, .int a2, .int a3, .int a4, .int a5, a6, a7, a8] (st) M Q = xW xSR 185 52 [.ref a0, .int a1, .int a2, .int a3, .int a4, .int a5, a6, a7, a8] (.int a5 :: st) M Q) ∧
  (∀ (a0 : Nat) (a1 : Int32) (a2 : Int32) (a3 : Int32) (a4 : Int32) (a5 : Int32) (a6 : Value) (a7 : Value) (a8 : Value) (y0 : Nat) (st : List Value) (M : xM) (Q : Option Value → xM → Prop), y0 < 156 → xW xSR 185 52 [.ref a0, .int a1, .int a2, .int a3, .int a4, .int a5, a6, a7, a8] (.int (nI y0) :: .ref 1 :: st) M Q = xW xSR 185 53 [.ref a0, .int a1, .int a2, .int a3, .int a4, .int a5, a6, a7, a8] (.int (M 1 y0) :: st) M Q) ∧
  (∀ (a0 : Nat) (a1 : Int32) (a2 : Int32) (a3 : Int32) (a4 : Int32) (a5 : Int32) (a6 : Value) (a7 : Value) (a8 : Value) (y0 : Int32) (st : List Value) (M : xM) (Q : Option Value → xM → Prop), xW xSR 185 53 [.ref a0, .int a1, .int a2, .int a3, .int a4, .int a5, a6, a7, a8] (.int y0 :: st) M Q = xW xSR 185 55 [.ref a0, .int a1, .int a2, .int a3, .int a4, .int a5, .int y0, a7, a8] (st) M Q) ∧
  (∀ (a0 : Nat) (a1 : Int32) (a2 : Int32) (a3 : Int32) (a4 : Int32) (a5 : Int32) (a6 : Int32) (a7 : Value) (a8 : Value) (st : List Value) (M : xM) (Q : Option Value → xM → Prop), xW xSR 185 55 [.ref a0, .int a1, .int a2, .int a3, .int a4, .int a5, .int a6, a7, a8] (st) M Q = xW xSR 185 57 [.ref a0, .int a1, .int a2, .int a3, .int a4, .int a5, .int a6, a7, a8] (.int (-4) :: st) M Q) ∧
  (∀ (a0 : Nat) (a1 : Int32) (a2 : Int32) (a3 : Int32) (a4 : Int32) (a5 : Int32) (a6 : Int32) (a7 : Value) (a8 : Value) (y0 : Int32) (st : List Value) (M : xM) (Q : Option Value → xM → Prop), xW xSR 185 57 [.ref a0, .int a1, .int a2, .int a3, .int a4, .int a5, .int a6, a7, a8] (.int y0 :: st) M Q = xW xSR 185 59 [.ref a0, .int a1, .int a2, .int a3, .int a4, .int a5, .int a6, .int y0, a8] (st) M Q) ∧
  (∀ (a0 : Nat) (a1 : Int32) (a2 : Int32) (a3 : Int32) (a4 : Int32) (a5 : Int32) (a6 : Int32) (a7 : Int32) (a8 : Value) (st : List Value) (M : xM) (Q : Option Value → xM → Prop), xW xSR 185 59 [.ref a0, .int a1, .int a2, .int a3, .int a4, .int a5, .int a6, .int a7, a8] (st) M Q = xW xSR 185 60 [.ref a0, .int a1, .int a2, .int a3, .int a4, .int a5, .int a6, .int a7, a8] (.int (nI 0) :: st) M Q) ∧
  (∀ (a0 : Nat) (a1 : Int32) (a2 : Int32) (a3 : Int32) (a4 : Int32) (a5 : Int32) (a6 : Int32) (a7 : Int32) (a8 : Value) (y0 : Int32) (st : List Value) (M : xM) (Q : Option Value → xM → Prop), xW xSR 185 60 [.ref a0, .int a1, .int a2, .int a3, .int a4, .int a5, .int a6, .int a7, a8] (.int y0 :: st) M Q = xW xSR 185 62 [.ref a0, .int a1, .int a2, .int a3, .int a4, .int a5, .int a6, .int a7, .int y0] (st) M Q) ∧
  (∀ (a0 : Nat) (a1 : Int32) (a2 : Int32) (a3 : Int32) (a4 : Int32) (a5 : Int32) (a6 : Int32) (a7 : Int32) (a8 : Int32) (st : List Value) (M : xM) (Q : Option Value → xM → Prop), xW xSR 185 64 [.ref a0, .int a1, .int a2, .int a3, .int a4, .int a5, .int a6, .int a7, .int a8] (st) M Q = xW xSR 185 66 [.ref a0, .int a1, .int a2, .int a3, .int a4, .int a5, .int a6, .int a7, .int a8] (.int (nI 100) :: st) M Q) ∧
  (∀ (a0 : Nat) (a1 : Int32) (a2 : Int32) (a3 : Int32) (a4 : Int32) (a5 : Int32) (a6 : Int32) (a7 : Int32) (a8 : Int32) (y0 : Int32) (y1 : Int32) (st : List Value) (M : xM) (Q : Option Value → xM → Prop), xW xSR 185 66 [.ref a0, .int a1, .int a2, .int a3, .int a4, .int a5, .int a6, .int a7, .int a8] (.int y0 :: .int y1 :: st) M Q = if y1 < y0 then xW xSR 185 69 [.ref a0, .int a1, .int a2, .int a3, .int a4, .int a5, .int a6, .int a7, .int a8] (st) M Q else xW xSR 185 133 [.ref a0, .int a1, .int a2, .int a3, .int a4, .int a5, .int a6, .int a7, .int a8] (st) M Q) ∧
  (∀ (a0 : Nat) (a1 : Int32) (a2 : Int32) (a3 : Int32) (a4 : Int32) (a5 : Int32) (a6 : Int32) (a7 : Int32) (a8 : Int32) (st : List Value) (M : xM) (Q : Option Value → xM → Prop), xW xSR 185 69 [.ref a0, .int a1, .int a2, .int a3, .int a4, .int a5, .int a6, .int a7, .int a8] (st) M Q = xW xSR 185 71 [.ref a0, .int a1, .int a2, .int a3, .int a4, .int a5, .int a6, .int a7, .int a8] (.int a7 :: st) M Q) ∧
  (∀ (a0 : Nat) (a1 : Int32) (a2 : Int32) (a3 : Int32) (a4 : Int32) (a5 : Int32) (a6 : Int32) (a7 : Int32) (a8 : Int32) (st : List Value) (M : xM) (Q : Option Value → xM → Prop), xW xSR 185 71 [.ref a0, .int a1, .int a2, .int a3, .int a4, .int a5, .int a6, .int a7, .int a8] (st) M Q = xW xSR 185 73 [.ref a0, .int a1, .int a2, .int a3, .int a4, .int a5, .int a6, .int a7, .int a8] (.int (-4) :: st) M Q) ∧
  (∀ (a0 : Nat) (a1 : Int32) (a2 : Int32) (a3 : Int32) (a4 : Int32) (a5 : Int32) (a6 : Int32) (a7 : Int32) (a8 : Int32) (y0 : Int32) (y1 : Int32) (st : List Value) (M : xM) (Q : Option Value → xM → Prop), xW xSR 185 73 [.ref a0, .int a1, .int a2, .int a3, .int a4, .int a5, .int a6, .int a7, .int a8] (.int y0 :: .int y1 :: st) M Q = if y1 = y0 then xW xSR 185 76 [.ref a0, .int a1, .int a2, .int a3, .int a4, .int a5, .int a6, .int a7, .int a8] (st) M Q else xW xSR 185 133 [.ref a0, .int a1, .int a2, .int a3, .int a4, .int a5, .int a6, .int a7, .int a8] (st) M Q) ∧
  (∀ (a0 : Nat) (a1 : Int32) (a2 : Int32) (a3 : Int32) (a4 : Int32) (a5 : Int32) (a6 : Int32) (a7 : Int32) (a8 : Int32) (st : List Value) (M : xM) (Q : Option Value → xM → Prop), xW xSR 185 76 [.ref a0, .int a1, .int a2, .int a3, .int a4, .int a5, .int a6, .int a7, .int a8] (st) M Q = xW xSR 185 77 [.ref a0, .int a1, .int a2, .int a3, .int a4, .int a5, .int a6, .int a7, .int a8] (.ref a0 :: st) M Q) ∧
  (∀ (a0 : Nat) (a1 : Int32) (a2 : Int32) (a3 : Int32) (a4 : Int32) (a5 : Int32) (a6 : Int32) (a7 : Int32) (a8 : Int32) (st : List Value) (M : xM) (Q : Option Value → xM → Prop), xW xSR 185 77 [.ref a0, .int a1, .int a2, .int a3, .int a4, .int a5, .int a6, .int a7, .int a8] (.ref 0 :: st) M Q = xW xSR 185 80 [.ref a0, .int a1, .int a2, .int a3, .int a4, .int a5, .int a6, .int a7, .int a8] (.ref 1 :: st) M Q) ∧
  (∀ (a0 : Nat) (a1 : Int32) (a2 : Int32) (a3 : Int32) (a4 : Int32) (a5 : Int32) (a6 : Int32) (a7 : Int32) (a8 : Int32) (st : List Value) (M : xM) (Q : Option Value → xM → Prop), xW xSR 185 80 [.ref a0, .int a1, .int a2, .int a3, .int a4, .int a5, .int a6, .int a7, .int a8] (st) M Q = xW xSR 185 82 [.ref a0, .int a1, .int a2, .int a3, .int a4, .int a5, .int a6, .int a7, .int a8] (.int a5 :: st) M Q) ∧
  (∀ (a0 : Nat) (a1 : Int32) (a2 : Int32) (a3 : Int32) (a4 : Int32) (a5 : Int32) (a6 : Int32) (a7 : Int32) (a8 : Int32) (st : List Value) (M : xM) (Q : Option Value → xM → Prop), xW xSR 185 82 [.ref a0, .int a1, .int a2, .int a3, .int a4, .int a5, .int a6, .int a7, .int a8] (st) M Q = xW xSR 185 84 [.ref a0, .int a1, .int a2, .int a3, .int a4, .int a5, .int a6, .int a7, .int a8] (.int a8 :: st) M Q) ∧
  (∀ (a0 : Nat) (a1 : Int32) (a2 : Int32) (a3 : Int32) (a4 : Int32) (a5 : Int32) (a6 : Int32) (a7 : Int32) (a8 : Int32) (y0 : Int32) (y1 : Nat) (st : List Value) (M : xM) (Q : Option Value → xM → Prop), y1 < 156 → xW xSR 185 84 [.ref a0, .int a1, .int a2, .int a3, .int a4, .int a5, .int a6, .int a7, .int a8] (.int y0 :: .int (nI y1) :: .ref 1 :: st) M Q = xW xSR 185 85 [.ref a0, .int a1, .int a2, .int a3, .int a4, .int a5, .int a6, .int a7, .int a8] (st) (xup M 1 y1 y0) Q) ∧
  (∀ (a0 : Nat) (a1 : Int32) (a2 : Int32) (a3 : Int32) (a4 : Int32) (a5 : Int32) (a6 : Int32) (a7 : Int32) (a8 : Int32) (st : List Value) (M : xM) (Q : Option Value → xM → Prop), xW xSR 185 85 [.ref a0, .int a1, .int a2, .int a3, .int a4, .int a5, .int a6, .int a7, .int a8] (st) M Q = xW xSR 185 86 [.ref a0, .int a1, .int a2, .int a3, .int a4, .int a5, .int a6, .int a7, .int a8] (.ref a0 :: st) M Q) ∧
  (∀ (a0 : Nat) (a1 : Int32) (a2 : Int32) (a3 : Int32) (a4 : Int32) (a5 : Int32) (a6 : Int32) (a7 : Int32) (a8 : Int32) (st : List Value) (M : xM) (Q : Option Value → xM → Prop), xW xSR 185 86 [.ref a0, .int a1, .int a2, .int a3, .int a4, .int a5, .int a6, .int a7, .int a8] (st) M Q = xW xSR 185 87 [.ref a0, .int a1, .int a2, .int a3, .int a4, .int a5, .int a6, .int a7, .int a8] (.int a1 :: st) M Q) ∧
  (∀ (a0 : Nat) (a1 : Int32) (a2 : Int32) (a3 : Int32) (a4 : Int32) (a5 : Int32) (a6 : Int32) (a7 : Int32) (a8 : Int32) (st : List Value) (M : xM) (Q : Option Value → xM → Prop), xW xSR 185 87 [.ref a0, .int a1, .int a2, .int a3, .int a4, .int a5, .int a6, .int a7, .int a8] (st) M Q = xW xSR 185 88 [.ref a0, .int a1, .int a2, .int a3, .int a4, .int a5, .int a6, .int a7, .int a8] (.int a2 :: st) M Q) ∧
  (∀ (a0 : Nat) (a1 : Int32) (a2 : Int32) (a3 : Int32) (a4 : Int32) (a5 : Int32) (a6 : Int32) (a7 : Int32) (a8 : Int32) (st : List Value) (M : xM) (Q : Option Value → xM → Prop), xW xSR 185 88 [.ref a0, .int a1, .int a2, .int a3, .int a4, .int a5, .int a6, .int a7, .int a8] (st) M Q = xW xSR 185 89 [.ref a0, .int a1, .int a2, .int a3, .int a4, .int a5, .int a6, .int a7, .int a8] (.int a3 :: st) M Q) ∧
  (∀ (a0 : Nat) (a1 : Int32) (a2 : Int32) (a3 : Int32) (a4 : Int32) (a5 : Int32) (a6 : Int32) (a7 : Int32) (a8 : Int32) (st : List Value) (M : xM) (Q : Option Value → xM → Prop), xW xSR 185 89 [.ref a0, .int a1, .int a2, .int a3, .int a4, .int a5, .int a6, .int a7, .int a8] (st) M Q = xW xSR 185 91 [.ref a0, .int a1, .int a2, .int a3, .int a4, .int a5, .int a6, .int a7, .int a8] (.int (-4) :: st) M Q) ∧
  (∀ (a0 : Nat) (a1 : Int32) (a2 : Int32) (a3 : Int32) (a4 : Int32) (a5 : Int32) (a6 : Int32) (a7 : Int32) (a8 : Int32) (st : List Value) (M : xM) (Q : Option Value → xM → Prop), xW xSR 185 91 [.ref a0, .int a1, .int a2, .int a3, .int a4, .int a5, .int a6, .int a7, .int a8] (st) M Q = xW xSR 185 92 [.ref a0, .int a1, .int a2, .int a3, .int a4, .int a5, .int a6, .int a7, .int a8] (.int (nI 0) :: st) M Q) ∧
  (∀ (a0 : Nat) (a1 : Int32) (a2 : Int32) (a3 : Int32) (a4 : Int32) (a5 : Int32) (a6 : Int32) (a7 : Int32) (a8 : Int32) (y0 : Int32) (y1 : Int32) (y2 : Int32) (y3 : Int32) (y4 : Int32) (M : xM) (Q : Option Value → xM → Prop), xW xSR 185 92 [.ref a0, .int a1, .int a2, .int a3, .int a4, .int a5, .int a6, .int a7, .int a8] (.int y0 :: .int y1 :: .int y2 :: .int y3 :: .int y4 :: .ref 0 :: []) M Q = xW xSR 169 0 [.ref 0, .int y4, .int y3, .int y2, .int y1, .int y0] [] M (fun v M' => xW xSR 185 95 [.ref a0, .int a1, .int a2, .int a3, .int a4, .int a5, .int a6, .int a7, .int a8] (xpush v []) M' Q)) ∧
  (∀ (a0 : Nat) (a1 : Int32) (a2 : Int32) (a3 : Int32) (a4 : Int32) (a5 : Int32) (a6 : Int32) (a7 : Int32) (a8 : Int32) (y0 : Int32) (st : List Value) (M : xM) (Q : Option Value → xM → Prop), xW xSR 185 95 [.ref a0, .int a1, .int a2, .int a3, .int a4, .int a5, .int a6, .int a7, .int a8] (.int y0 :: st) M Q = xW xSR 185 96 [.ref a0, .int a1, .int a2, .int a3, .int a4, .int a5, .int a6, .int a7, .int a8] (st) M Q) ∧
  (∀ (a0 : Nat) (a1 : Int32) (a2 : Int32) (a3 : Int32) (a4 : Int32) (a5 : Int32) (a6 : Int32) (a7 : Int32) (a8 : Int32) (st : List Value) (M : xM) (Q : Option Value → xM → Prop), xW xSR 185 96 [.ref a0, .int a1, .int a2, .int a3, .int a4, .int a5, .int a6, .int a7, .int a8] (st) M Q = xW xSR 185 99 [.ref a0, .int a1, .int a2, .int a3, .int a4, .int a5, .int a6, .int a7, .int a8] (.long (lN 100) :: st) M Q) ∧
  (∀ (a0 : Nat) (a1 : Int32) (a2 : Int32) (a3 : Int32) (a4 : Int32) (a5 : Int32) (a6 : Int32) (a7 : Int32) (a8 : Int32) (st : List Value) (M : xM) (Q : Option Value → xM → Prop), xW xSR 185 99 [.ref a0, .int a1, .int a2, .int a3, .int a4, .int a5, .int a6, .int a7, .int a8] (st) M Q = xW xSR 185 100 [.ref a0, .int a1, .int a2, .int a3, .int a4, .int a5, .int a6, .int a7, .int a8] (.ref a0 :: st) M Q) ∧
  (∀ (a0 : Nat) (a1 : Int32) (a2 : Int32) (a3 : Int32) (a4 : Int32) (a5 : Int32) (a6 : Int32) (a7 : Int32) (a8 : Int32) (st : List Value) (M : xM) (Q : Option Value → xM → Prop), xW xSR 185 100 [.ref a0, .int a1, .int a2, .int a3, .int a4, .int a5, .int a6, .int a7, .int a8] (.ref 0 :: st) M Q = xW xSR 185 103 [.ref a0, .int a1, .int a2, .int a3, .int a4, .int a5, .int a6, .int a7, .int a8] (.int (M 0 7) :: st) M Q) ∧
  (∀ (a0 : Nat) (a1 : Int32) (a2 : Int32) (a3 : Int32) (a4 : Int32) (a5 : Int32) (a6 : Int32) (a7 : Int32) (a8 : Int32) (y0 : Int32) (st : List Value) (M : xM) (Q : Option Value → xM → Prop), xW xSR 185 103 [.ref a0, .int a1, .int a2, .int a3, .int a4, .int a5, .int a6, .int a7, .int a8] (.int y0 :: st) M Q = xW xSR 185 104 [.ref a0, .int a1, .int a2, .int a3, .int a4, .int a5, .int a6, .int a7, .int a8] (.long y0.toInt64 :: st) M Q) ∧
  (∀ (a0 : Nat) (a1 : Int32) (a2 : Int32) (a3 : Int32) (a4 : Int32) (a5 : Int32) (a6 : Int32) (a7 : Int32) (a8 : Int32) (y0 : Int64) (y1 : Int64) (st : List Value) (M : xM) (Q : Option Value → xM → Prop), xW xSR 185 104 [.ref a0, .int a1, .int a2, .int a3, .int a4, .int a5, .int a6, .int a7, .int a8] (.long y0 :: .long y1 :: st) M Q = xW xSR 185 105 [.ref a0, .int a1, .int a2, .int a3, .int a4, .int a5, .int a6, .int a7, .int a8] (.long (y1 * y0) :: st) M Q) ∧
  (∀ (a0 : Nat) (a1 : Int32) (a2 : Int32) (a3 : Int32) (a4 : Int32) (a5 : Int32) (a6 : Int32) (a7 : Int32) (a8 : Int32) (st : List Value) (M : xM) (Q : Option Value → xM → Prop), xW xSR 185 105 [.ref a0, .int a1, .int a2, .int a3, .int a4, .int a5, .int a6, .int a7, .int a8] (st) M Q = xW xSR 185 106 [.ref a0, .int a1, .int a2, .int a3, .int a4, .int a5, .int a6, .int a7, .int a8] (.ref a0 :: st) M Q) ∧
  (∀ (a0 : Nat) (a1 : Int32) (a2 : Int32) (a3 : Int32) (a4 : Int32) (a5 : Int32) (a6 : Int32) (a7 : Int32) (a8 : Int32) (st : List Value) (M : xM) (Q : Option Value → xM → Prop), xW xSR 185 106 [.ref a0, .int a1, .int a2, .int a3, .int a4, .int a5, .int a6, .int a7, .int a8] (.ref 0 :: st) M Q = xW xSR 185 109 [.ref a0, .int a1, .int a2, .int a3, .int a4, .int a5, .int a6, .int a7, .int a8] (.int (M 0 8) :: st) M Q) ∧
  (∀ (a0 : Nat) (a1 : Int32) (a2 : Int32) (a3 : Int32) (a4 : Int32) (a5 : Int32) (a6 : Int32) (a7 : Int32) (a8 : Int32) (y0 : Int32) (st : List Value) (M : xM) (Q : Option Value → xM → Prop), xW xSR 185 109 [.ref a0, .int a1, .int a2, .int a3, .int a4, .int a5, .int a6, .int a7, .int a8] (.int y0 :: st) M Q = xW xSR 185 110 [.ref a0, .int a1, .int a2, .int a3, .int a4, .int a5, .int a6, .int a7, .int a8] (.long y0.toInt64 :: st) M Q) ∧
  (∀ (a0 : Nat) (a1 : Int32) (a2 : Int32) (a3 : Int32) (a4 : Int32) (a5 : Int32) (a6 : Int32) (a7 : Int32) (a8 : Int32) (y0 : Nat) (y1 : Int64) (st : List Value) (M : xM) (Q : Option Value → xM → Prop), 0 < y0 → y0 < 2 ^ 31 → xW xSR 185 110 [.ref a0, .int a1, .int a2, .int a3, .int a4, .int a5, .int a6, .int a7, .int a8] (.long (lN y0) :: .long y1 :: st) M Q = xW xSR 185 111 [.ref a0, .int a1, .int a2, .int a3, .int a4, .int a5, .int a6, .int a7, .int a8] (.long (y1 / lN y0) :: st) M Q) ∧
  (∀ (a0 : Nat) (a1 : Int32) (a2 : Int32) (a3 : Int32) (a4 : Int32) (a5 : Int32) (a6 : Int32) (a7 : Int32) (a8 : Int32) (st : List Value) (M : xM) (Q : Option Value → xM → Prop), xW xSR 185 111 [.ref a0, .int a1, .int a2, .int a3, .int a4, .int a5, .int a6, .int a7, .int a8] (st) M Q = xW xSR 185 113 [.ref a0, .int a1, .int a2, .int a3, .int a4, .int a5, .int a6, .int a7, .int a8] (.int a4 :: st) M Q) ∧
  (∀ (a0 : Nat) (a1 : Int32) (a2 : Int32) (a3 : Int32) (a4 : Int32) (a5 : Int32) (a6 : Int32) (a7 : Int32) (a8 : Int32) (y0 : Int32) (st : List Value) (M : xM) (Q : Option Value → xM → Prop), xW xSR 185 113 [.ref a0, .int a1, .int a2, .int a3, .int a4, .int a5, .int a6, .int a7, .int a8] (.int y0 :: st) M Q = xW xSR 185 114 [.ref a0, .int a1, .int a2, .int a3, .int a4, .int a5, .int a6, .int a7, .int a8] (.long y0.toInt64 :: st) M Q) ∧
  (∀ (a0 : Nat) (a1 : Int32) (a2 : Int32) (a3 : Int32) (a4 : Int32) (a5 : Int32) (a6 : Int32) (a7 : Int32) (a8 : Int32) (y0 : Int64) (y1 : Int64) (st : List Value) (M : xM) (Q : Option Value → xM → Prop), xW xSR 185 114 [.ref a0, .int a1, .int a2, .int a3, .int a4, .int a5, .int a6, .int a7, .int a8] (.long y0 :: .long y1 :: st) M Q = xW xSR 185 115 [.ref a0, .int a1, .int a2, .int a3, .int a4, .int a5, .int a6, .int a7, .int a8] (.int (lg_cmp y1 y0) :: st) M Q) ∧
  (∀ (a0 : Nat) (a1 : Int32) (a2 : Int32) (a3 : Int32) (a4 : Int32) (a5 : Int32) (a6 : Int32) (a7 : Int32) (a8 : Int32) (y0 : Int32) (st : List Value) (M : xM) (Q : Option Value → xM → Prop), xW xSR 185 115 [.ref a0, .int a1, .int a2, .int a3, .int a4, .int a5, .int a6, .int a7, .int a8] (.int y0 :: st) M Q = if nI 0 < y0 then xW xSR 185 123 [.ref a0, .int a1, .int a2, .int a3, .int a4, .int a5, .int a6, .int a7, .int a8] (st) M Q else xW xSR 185 118 [.ref a0, .int a1, .int a2, .int a3, .int a4, .int a5, .int a6, .int a7, .int a8] (st) M Q) ∧
  (∀ (a0 : Nat) (a1 : Int32) (a2 : Int32) (a3 : Int32) (a4 : Int32) (a5 : Int32) (a6 : Int32) (a7 : Int32) (a8 : Int32) (st : List Value) (M : xM) (Q : Option Value → xM → Prop), xW xSR 185 118 [.ref a0, .int a1, .int a2, .int a3, .int a4, .int a5, .int a6, .int a7, .int a8] (st) M Q = xW xSR 185 120 [.ref a0, .int a1, .int a2, .int a3, .int a4, .int a5, .int a6, .int a7, .int a8] (.int a8 :: st) M Q) ∧
  (∀ (a0 : Nat) (a1 : Int32) (a2 : Int32) (a3 : Int32) (a4 : Int32) (a5 : Int32) (a6 : Int32) (a7 : Int32) (a8 : Int32) (st : List Value) (M : xM) (Q : Option Value → xM → Prop), xW xSR 185 120 [.ref a0, .int a1, .int a2, .int a3, .int a4, .int a5, .int a6, .int a7, .int a8] (st) M Q = xW xSR 185 125 [.ref a0, .int a1, .int a2, .int a3, .int a4, .int a5, .int a6, .int a7, .int a8] (st) M Q) ∧
  (∀ (a0 : Nat) (a1 : Int32) (a2 : Int32) (a3 : Int32) (a4 : Int32) (a5 : Int32) (a6 : Int32) (a7 : Int32) (a8 : Int32) (st : List Value) (M : xM) (Q : Option Value → xM → Prop), xW xSR 185 123 [.ref a0, .int a1, .int a2, .int a3, .int a4, .int a5, .int a6, .int a7, .int a8] (st) M Q = xW xSR 185 125 [.ref a0, .int a1, .int a2, .int a3, .int a4, .int a5, .int a6, .int a7, .int a8] (.int (-4) :: st) M Q) ∧
  (∀ (a0 : Nat) (a1 : Int32) (a2 : Int32) (a3 : Int32) (a4 : Int32) (a5 : Int32) (a6 : Int32) (a7 : Int32) (a8 : Int32) (st : List Value) (M : xM) (Q : Option Value → xM → Prop), xW xSR 185 127 [.ref a0, .int a1, .int a2, .int a3, .int a4, .int a5, .int a6, .int a7, .int a8] (st) M Q = xW xSR 185 130 [.ref a0, .int a1, .int a2, .int a3, .int a4, .int a5, .int a6, .int a7, .int (a8 + nI 1)] (st) M Q) ∧
  (∀ (a0 : Nat) (a1 : Int32) (a2 : Int32) (a3 : Int32) (a4 : Int32) (a5 : Int32) (a6 : Int32) (a7 : Int32) (a8 : Int32) (st : List Value) (M : xM) (Q : Option Value → xM → Prop), xW xSR 185 130 [.ref a0, .int a1, .int a2, .int a3, .int a4, .int a5, .int a6, .int a7, .int a8] (st) M Q = xW xSR 185 62 [.ref a0, .int a1, .int a2, .int a3, .int a4, .int a5, .int a6, .int a7, .int a8] (st) M Q) ∧
  (∀ (a0 : Nat) (a1 : Int32) (a2 : Int32) (a3 : Int32) (a4 : Int32) (a5 : Int32) (a6 : Int32) (a7 : Int32) (a8 : Int32) (st : List Value) (M : xM) (Q : Option Value → xM → Prop), xW xSR 185 134 [.ref a0, .int a1, .int a2, .int a3, .int a4, .int a5, .int a6, .int a7, .int a8] (.ref 0 :: st) M Q = xW xSR 185 137 [.ref a0, .int a1, .int a2, .int a3, .int a4, .int a5, .int a6, .int a7, .int a8] (.ref 1 :: st) M Q) ∧
  (∀ (a0 : Nat) (a1 : Int32) (a2 : Int32) (a3 : Int32) (a4 : Int32) (a5 : Int32) (a6 : Int32) (a7 : Int32) (a8 : Int32) (st : List Value) (M : xM) (Q : Option Value → xM → Prop), xW xSR 185 137 [.ref a0, .int a1, .int a2, .int a3, .int a4, .int a5, .int a6, .int a7, .int a8] (st) M Q = xW xSR 185 139 [.ref a0, .int a1, .int a2, .int a3, .int a4, .int a5, .int a6, .int a7, .int a8] (.int a5 :: st) M Q) ∧
  (∀ (a0 : Nat) (a1 : Int32) (a2 : Int32) (a3 : Int32) (a4 : Int32) (a5 : Int32) (a6 : Int32) (a7 : Int32) (a8 : Int32) (st : List Value) (M : xM) (Q : Option Value → xM → Prop), xW xSR 185 139 [.ref a0, .int a1, .int a2, .int a3, .int a4, .int a5, .int a6, .int a7, .int a8] (st) M Q = xW xSR 185 141 [.ref a0, .int a1, .int a2, .int a3, .int a4, .int a5, .int a6, .int a7, .int a8] (.int a6 :: st) M Q) ∧
  (∀ (a0 : Nat) (a1 : Int32) (a2 : Int32) (a3 : Int32) (a4 : Int32) (a5 : Int32) (a6 : Int32) (a7 : Int32) (a8 : Int32) (y0 : Int32) (y1 : Nat) (st : List Value) (M : xM) (Q : Option Value → xM → Prop), y1 < 156 → xW xSR 185 141 [.ref a0, .int a1, .int a2, .int a3, .int a4, .int a5, .int a6, .int a7, .int a8] (.int y0 :: .int (nI y1) :: .ref 1 :: st) M Q = xW xSR 185 142 [.ref a0, .int a1, .int a2, .int a3, .int a4, .int a5, .int a6, .int a7, .int a8] (st) (xup M 1 y1 y0) Q) ∧
  (∀ (a0 : Nat) (a1 : Int32) (a2 : Int32) (a3 : Int32) (a4 : Int32) (a5 : Int32) (a6 : Int32) (a7 : Int32) (a8 : Int32) (st : List Value) (M : xM) (Q : Option Value → xM → Prop), xW xSR 185 142 [.ref a0, .int a1, .int a2, .int a3, .int a4, .int a5, .int a6, .int a7, .int a8] (st) M Q = xW xSR 185 144 [.ref a0, .int a1, .int a2, .int a3, .int a4, .int a5, .int a6, .int a7, .int a8] (.int a7 :: st) M Q) ∧
  (∀ (a0 : Nat) (a1 : Int32) (a2 : Int32) (a3 : Int32) (a4 : Int32) (a5 : Int32) (a6 : Int32) (a7 : Int32) (a8 : Int32) (y0 : Int32) (M : xM) (Q : Option Value → xM → Prop), xW xSR 185 144 [.ref a0, .int a1, .int a2, .int a3, .int a4, .int a5, .int a6, .int a7, .int a8] ([.int y0]) M Q = Q (some (.int y0)) M) :=
  ⟨fun a0 a1 a2 a3 a4 a5 a6 a7 a8 st M Q => xw_s rfl rfl,
  fun a0 a1 a2 a3 a4 a5 a6 a7 a8 st M Q => xw_s rfl rfl,
  fun a0 a1 a2 a3 a4 a5 a6 a7 a8 y0 M Q => xw_call rfl rfl rfl,
  fun a0 a1 a2 a3 a4 a5 a6 a7 a8 y0 st M Q => xw_br (c0 := y0 = nI 0) rfl rfl,
  fun a0 a1 a2 a3 a4 a5 a6 a7 a8 st M Q => xw_s rfl rfl,
  fun a0 a1 a2 a3 a4 a5 a6 a7 a8 st M Q => xw_s rfl rfl,
  fun a0 a1 a2 a3 a4 a5 a6 a7 a8 y0 M Q => xw_call rfl rfl rfl,
  fun a0 a1 a2 a3 a4 a5 a6 a7 a8 y0 st M Q => xw_br (c0 := y0 = nI 0) rfl rfl,
  fun a0 a1 a2 a3 a4 a5 a6 a7 a8 st M Q => xw_s rfl rfl,
  fun a0 a1 a2 a3 a4 a5 a6 a7 a8 y0 M Q => xw_call rfl rfl rfl,
  fun a0 a1 a2 a3 a4 a5 a6 a7 a8 y0 st M Q => xw_br (c0 := y0 = nI 0) rfl rfl,
  fun a0 a1 a2 a3 a4 a5 a6 a7 a8 st M Q => xw_s rfl rfl,
  fun a0 a1 a2 a3 a4 a5 a6 a7 a8 y0 st M Q => xw_s rfl rfl,
  fun a0 a1 a2 a3 a4 a5 a6 a7 a8 st M Q => xw_s rfl rfl,
  fun a0 a1 a2 a3 a4 a5 a6 a7 a8 st M Q => xw_s rfl rfl,
  fun a0 a1 a2 a3 a4 a5 a6 a7 a8 y0 y1 y2 M Q => xw_call rfl rfl rfl,
  fun a0 a1 a2 a3 a4 a5 a6 a7 a8 y0 st M Q => xw_brn (c0 := y0 ≠ nI 0) (c1 := y0 = nI 0) rfl rfl (Iff.rfl),
  fun a0 a1 a2 a3 a4 a5 a6 a7 a8 y0 M Q => xw_ret rfl rfl,
  fun a0 a1 a2 a3 a4 a5 a6 a7 a8 st M Q => xw_s rfl rfl,
  fun a0 a1 a2 a3 a4 a5 a6 a7 a8 st M Q => xw_s rfl rfl,
  fun a0 a1 a2 a3 a4 a5 a6 a7 a8 st M Q => xw_s rfl rfl,
  fun a0 a1 a2 a3 a4 a5 a6 a7 a8 y0 y1 y2 M Q => xw_call rfl rfl rfl,
  fun a0 a1 a2 a3 a4 a5 a6 a7 a8 y0 st M Q => xw_s rfl rfl,
  fun a0 a1 a2 a3 a4 a5 a6 a7 a8 st M Q => xw_s rfl rfl,
  fun a0 a1 a2 a3 a4 a5 a6 a7 a8 st M Q => xw_s rfl rfl,
  fun a0 a1 a2 a3 a4 a5 a6 a7 a8 st M Q => xw_s rfl rfl,
  fun a0 a1 a2 a3 a4 a5 a6 a7 a8 y0 st M Q h0 => xw_ald rfl rfl rfl (by decide) h0,
  fun a0 a1 a2 a3 a4 a5 a6 a7 a8 y0 st M Q => xw_s rfl rfl,
  fun a0 a1 a2 a3 a4 a5 a6 a7 a8 st M Q => xw_s rfl rfl,
  fun a0 a1 a2 a3 a4 a5 a6 a7 a8 y0 st M Q => xw_s rfl rfl,
  fun a0 a1 a2 a3 a4 a5 a6 a7 a8 st M Q => xw_s rfl rfl,
  fun a0 a1 a2 a3 a4 a5 a6 a7 a8 y0 st M Q => xw_s rfl rfl,
  fun a0 a1 a2 a3 a4 a5 a6 a7 a8 st M Q => xw_s rfl rfl,
  fun a0 a1 a2 a3 a4 a5 a6 a7 a8 y0 y1 st M Q => xw_brn (c0 := y0 ≤ y1) (c1 := y1 < y0) rfl rfl (xge _ _),
  fun a0 a1 a2 a3 a4 a5 a6 a7 a8 st M Q => xw_s rfl rfl,
  fun a0 a1 a2 a3 a4 a5 a6 a7 a8 st M Q => xw_s rfl rfl,
  fun a0 a1 a2 a3 a4 a5 a6 a7 a8 y0 y1 st M Q => xw_brn (c0 := y1 ≠ y0) (c1 := y1 = y0) rfl rfl (Iff.rfl),
  fun a0 a1 a2 a3 a4 a5 a6 a7 a8 st M Q => xw_s rfl rfl,
  fun a0 a1 a2 a3 a4 a5 a6 a7 a8 st M Q => xw_s rfl rfl,
  fun a0 a1 a2 a3 a4 a5 a6 a7 a8 st M Q => xw_s rfl rfl,
  fun a0 a1 a2 a3 a4 a5 a6 a7 a8 st M Q => xw_s rfl rfl,
  fun a0 a1 a2 a3 a4 a5 a6 a7 a8 y0 y1 st M Q h0 => xw_ast (f := fun x => x) rfl rfl rfl (by decide) h0,
  fun a0 a1 a2 a3 a4 a5 a6 a7 a8 st M Q => xw_s rfl rfl,
  fun a0 a1 a2 a3 a4 a5 a6 a7 a8 st M Q => xw_s rfl rfl,
  fun a0 a1 a2 a3 a4 a5 a6 a7 a8 st M Q => xw_s rfl rfl,
  fun a0 a1 a2 a3 a4 a5 a6 a7 a8 st M Q => xw_s rfl rfl,
  fun a0 a1 a2 a3 a4 a5 a6 a7 a8 st M Q => xw_s rfl rfl,
  fun a0 a1 a2 a3 a4 a5 a6 a7 a8 st M Q => xw_s rfl rfl,
  fun a0 a1 a2 a3 a4 a5 a6 a7 a8 y0 y1 y2 y3 y4 M Q => xw_call rfl rfl rfl,
  fun a0 a1 a2 a3 a4 a5 a6 a7 a8 y0 st M Q => xw_s rfl rfl,
  fun a0 a1 a2 a3 a4 a5 a6 a7 a8 st M Q => xw_s rfl rfl,
  fun a0 a1 a2 a3 a4 a5 a6 a7 a8 st M Q => xw_s rfl rfl,
  fun a0 a1 a2 a3 a4 a5 a6 a7 a8 st M Q => xw_s rfl rfl,
  fun a0 a1 a2 a3 a4 a5 a6 a7 a8 y0 st M Q => xw_s rfl rfl,
  fun a0 a1 a2 a3 a4 a5 a6 a7 a8 y0 y1 st M Q => xw_s rfl rfl,
  fun a0 a1 a2 a3 a4 a5 a6 a7 a8 st M Q => xw_s rfl rfl,
  fun a0 a1 a2 a3 a4 a5 a6 a7 a8 st M Q => xw_s rfl rfl,
  fun a0 a1 a2 a3 a4 a5 a6 a7 a8 y0 st M Q => xw_s rfl rfl,
  fun a0 a1 a2 a3 a4 a5 a6 a7 a8 y0 y1 st M Q h0 h1 => xw_ldiv (f := fun x y => x / y) rfl rfl (lN_ne0 h0 h1),
  fun a0 a1 a2 a3 a4 a5 a6 a7 a8 st M Q => xw_s rfl rfl,
  fun a0 a1 a2 a3 a4 a5 a6 a7 a8 y0 st M Q => xw_s rfl rfl,
  fun a0 a1 a2 a3 a4 a5 a6 a7 a8 y0 y1 st M Q => xw_s rfl rfl,
  fun a0 a1 a2 a3 a4 a5 a6 a7 a8 y0 st M Q => xw_br (c0 := nI 0 < y0) rfl rfl,
  fun a0 a1 a2 a3 a4 a5 a6 a7 a8 st M Q => xw_s rfl rfl,
  fun a0 a1 a2 a3 a4 a5 a6 a7 a8 st M Q => xw_s rfl rfl,
  fun a0 a1 a2 a3 a4 a5 a6 a7 a8 st M Q => xw_s rfl rfl,
  fun a0 a1 a2 a3 a4 a5 a6 a7 a8 st M Q => xw_s rfl rfl,
  fun a0 a1 a2 a3 a4 a5 a6 a7 a8 st M Q => xw_s rfl rfl,
  fun a0 a1 a2 a3 a4 a5 a6 a7 a8 st M Q => xw_s rfl rfl,
  fun a0 a1 a2 a3 a4 a5 a6 a7 a8 st M Q => xw_s rfl rfl,
  fun a0 a1 a2 a3 a4 a5 a6 a7 a8 st M Q => xw_s rfl rfl,
  fun a0 a1 a2 a3 a4 a5 a6 a7 a8 y0 y1 st M Q h0 => xw_ast (f := fun x => x) rfl rfl rfl (by decide) h0,
  fun a0 a1 a2 a3 a4 a5 a6 a7 a8 st M Q => xw_s rfl rfl,
  fun a0 a1 a2 a3 a4 a5 a6 a7 a8 y0 M Q => xw_ret rfl rfl⟩
set_option maxRecDepth 20000 in
theorem h185_36 :
  (∀ (a0 : Nat) (a1 : Int32) (a2 : Int32) (a3 : Int32) (a4 : Int32) (a5 : Value) (a6 : Value) (a7 : Value) (a8 : Value) (st : List Value) (M : xM) (Q : Option Value → xM → Prop), xW xSR 185 36 [.ref a0, .int a1, .int a2, .int a3, .int a4, a5, a6, a7, a8] (st) M Q = xW xSR 185 37 [.ref a0, .int a1, .int a2, .int a3, .int a4, a5, a6, a7, a8] (.int (-1) :: st) M Q) :=
  fun a0 a1 a2 a3 a4 a5 a6 a7 a8 st M Q => xw_s rfl rfl
set_option maxRecDepth 20000 in
theorem h185_62 :
  (∀ (a0 : Nat) (a1 : Int32) (a2 : Int32) (a3 : Int32) (a4 : Int32) (a5 : Int32) (a6 : Int32) (a7 : Int32) (a8 : Int32) (st : List Value) (M : xM) (Q : Option Value → xM → Prop), xW xSR 185 62 [.ref a0, .int a1, .int a2, .int a3, .int a4, .int a5, .int a6, .int a7, .int a8] (st) M Q = xW xSR 185 64 [.ref a0, .int a1, .int a2, .int a3, .int a4, .int a5, .int a6, .int a7, .int a8] (.int a8 :: st) M Q) :=
  fun a0 a1 a2 a3 a4 a5 a6 a7 a8 st M Q => xw_s rfl rfl
set_option maxRecDepth 20000 in
theorem h185_125 :
  (∀ (a0 : Nat) (a1 : Int32) (a2 : Int32) (a3 : Int32) (a4 : Int32) (a5 : Int32) (a6 : Int32) (a7 : Int32) (a8 : Int32) (y0 : Int32) (st : List Value) (M : xM) (Q : Option Value → xM → Prop), xW xSR 185 125 [.ref a0, .int a1, .int a2, .int a3, .int a4, .int a5, .int a6, .int a7, .int a8] (.int y0 :: st) M Q = xW xSR 185 127 [.ref a0, .int a1, .int a2, .int a3, .int a4, .int a5, .int a6, .int y0, .int a8] (st) M Q) :=
  fun a0 a1 a2 a3 a4 a5 a6 a7 a8 y0 st M Q => xw_s rfl rfl
set_option maxRecDepth 20000 in
theorem h185_133 :
  (∀ (a0 : Nat) (a1 : Int32) (a2 : Int32) (a3 : Int32) (a4 : Int32) (a5 : Int32) (a6 : Int32) (a7 : Int32) (a8 : Int32) (st : List Value) (M : xM) (Q : Option Value → xM → Prop), xW xSR 185 133 [.ref a0, .int a1, .int a2, .int a3, .int a4, .int a5, .int a6, .int a7, .int a8] (st) M Q = xW xSR 185 134 [.ref a0, .int a1, .int a2, .int a3, .int a4, .int a5, .int a6, .int a7, .int a8] (.ref a0 :: st) M Q) :=
  fun a0 a1 a2 a3 a4 a5 a6 a7 a8 st M Q => xw_s rfl rfl
set_option maxRecDepth 20000 in
theorem j185 :
  (∀ (a0 : Nat) (a1 : Int32) (a2 : Int32) (a3 : Int32) (a4 : Int32) (a5 : Value) (a6 : Value) (a7 : Value) (a8 : Value) (st : List Value) (M : xM) (Q : Option Value → xM → Prop), xW xSR 185 36 [.ref a0, .int a1, .int a2, .int a3, .int a4, a5, a6, a7, a8] (st) M Q = xW xSR 185 37 [.ref a0, .int a1, .int a2, .int a3, .int a4, a5, a6, a7, a8] (.int (-1) :: st) M Q) ∧
  (∀ (a0 : Nat) (a1 : Int32) (a2 : Int32) (a3 : Int32) (a4 : Int32) (a5 : Int32) (a6 : Int32) (a7 : Int32) (a8 : Int32) (y0 : Int32) (st : List Value) (M : xM) (Q : Option Value → xM → Prop), xW xSR 185 125 [.ref a0, .int a1, .int a2, .int a3, .int a4, .int a5, .int a6, .int a7, .int a8] (.int y0 :: st) M Q = xW xSR 185 127 [.ref a0, .int a1, .int a2, .int a3, .int a4, .int a5, .int a6, .int y0, .int a8] (st) M Q) ∧
  (∀ (a0 : Nat) (a1 : Int32) (a2 : Int32) (a3 : Int32) (a4 : Int32) (a5 : Int32) (a6 : Int32) (a7 : Int32) (a8 : Int32) (st : List Value) (M : xM) (Q : Option Value → xM → Prop), xW xSR 185 133 [.ref a0, .int a1, .int a2, .int a3, .int a4, .int a5, .int a6, .int a7, .int a8] (st) M Q = xW xSR 185 134 [.ref a0, .int a1, .int a2, .int a3, .int a4, .int a5, .int a6, .int a7, .int a8] (.ref a0 :: st) M Q) :=
  ⟨fun a0 a1 a2 a3 a4 a5 a6 a7 a8 st M Q => xw_s rfl rfl,
  fun a0 a1 a2 a3 a4 a5 a6 a7 a8 y0 st M Q => xw_s rfl rfl,
  fun a0 a1 a2 a3 a4 a5 a6 a7 a8 st M Q => xw_s rfl rfl⟩

set_option maxRecDepth 20000 in
theorem s186 :
  (∀ (a0 : Nat) (a1 : Int32) (a2 : Int32) (a3 : Int32) (a4 : Int32) (a5 : Int32) (a6 : Value) (a7 : Value) (a8 : Value) (a9 : Value) (a10 : Value) (st : List Value) (M : xM) (Q : Option Value → xM → Prop), xW xSR 186 0 [.ref a0, .int a1, .int a2, .int a3, .int a4, .int a5, a6, a7, a8, a9, a10] (st) M Q = xW xSR 186 1 [.ref a0, .int a1, .int a2, .int a3, .int a4, .int a5, a6, a7, a8, a9, a10] (.ref a0 :: st) M Q) ∧
  (∀ (a0 : Nat) (a1 : Int32) (a2 : Int32) (a3 : Int32) (a4 : Int32) (a5 : Int32) (a6 : Value) (a7 : Value) (a8 : Value) (a9 : Value) (a10 : Value) (st : List Value) (M : xM) (Q : Option Value → xM → Prop), xW xSR 186 1 [.ref a0, .int a1, .int a2, .int a3, .int a4, .int a5, a6, a7, a8, a9, a10] (st) M Q = xW xSR 186 2 [.ref a0, .int a1, .int a2, .int a3, .int a4, .int a5, a6, a7, a8, a9, a10] (.int a1 :: st) M Q) ∧
  (∀ (a0 : Nat) (a1 : Int32) (a2 : Int32) (a3 : Int32) (a4 : Int32) (a5 : Int32) (a6 : Value) (a7 : Value) (a8 : Value) (a9 : Value) (a10 : Value) (y0 : Int32) (M : xM) (Q : Option Value → xM → Prop), xW xSR 186 2 [.ref a0, .int a1, .int a2, .int a3, .int a4, .int a5, a6, a7, a8, a9, a10] (.int y0 :: .ref 0 :: []) M Q = xW xSR 141 0 [.ref 0, .int y0] [] M (fun v M' => xW xSR 186 5 [.ref a0, .int a1, .int a2, .int a3, .int a4, .int a5, a6, a7, a8, a9, a10] (xpush v []) M' Q)) ∧
  (∀ (a0 : Nat) (a1 : Int32) (a2 : Int32) (a3 : Int32) (a4 : Int32) (a5 : Int32) (a6 : Value) (a7 : Value) (a8 : Value) (a9 : Value) (a10 : Value) (y0 : Int32) (st : List Value) (M : xM) (Q : Option Value → xM → Prop), xW xSR 186 5 [.ref a0, .int a1, .int a2, .int a3, .int a4, .int a5, a6, a7, a8, a9, a10] (.int y0 :: st) M Q = if y0 = nI 0 then xW xSR 186 46 [.ref a0, .int a1, .int a2, .int a3, .int a4, .int a5, a6, a7, a8, a9, a10] (st) M Q else xW xSR 186 8 [.ref a0, .int a1, .int a2, .int a3, .int a4, .int a5, a6, a7, a8, a9, a10] (st) M Q) ∧
  (∀ (a0 : Nat) (a1 : Int32) (a2 : Int32) (a3 : Int32) (a4 : Int32) (a5 : Int32) (a6 : Value) (a7 : Value) (a8 : Value) (a9 : Value) (a10 : Value) (st : List Value) (M : xM) (Q : Option Value → xM → Prop), xW xSR 186 8 [.ref a0, .int a1, .int a2, .int a3, .int a4, .int a5, a6, a7, a8, a9, a10] (st) M Q = xW xSR 186 9 [.ref a0, .int a1, .int a2, .int a3, .int a4, .int a5, a6, a7, a8, a9, a10] (.ref a0 :: st) M Q) ∧
  (∀ (a0 : Nat) (a1 : Int32) (a2 : Int32) (a3 : Int32) (a4 : Int32) (a5 : Int32) (a6 : Value) (a7 : Value) (a8 : Value) (a9 : Value) (a10 : Value) (st : List Value) (M : xM) (Q : Option Value → xM → Prop), xW xSR 186 9 [.ref a0, .int a1, .int a2, .int a3, .int a4, .int a5, a6, a7, a8, a9, a10] (st) M Q = xW xSR 186 10 [.ref a0, .int a1, .int a2, .int a3, .int a4, .int a5, a6, a7, a8, a9, a10] (.int a2 :: st) M Q) ∧
  (∀ (a0 : Nat) (a1 : Int32) (a2 : Int32) (a3 : Int32) (a4 : Int32) (a5 : Int32) (a6 : Value) (a7 : Value) (a8 : Value) (a9 : Value) (a10 : Value) (y0 : Int32) (M : xM) (Q : Option Value → xM → Prop), xW xSR 186 10 [.ref a0, .int a1, .int a2, .int a3, .int a4, .int a5, a6, a7, a8, a9, a10] (.int y0 :: .ref 0 :: []) M Q = xW xSR 140 0 [.ref 0, .int y0] [] M (fun v M' => xW xSR 186 13 [.ref a0, .int a1, .int a2, .int a3, .int a4, .int a5, a6, a7, a8, a9, a10] (xpush v []) M' Q)) ∧
  (∀ (a0 : Nat) (a1 : Int32) (a2 : Int32) (a3 : Int32) (a4 : Int32) (a5 : Int32) (a6 : Value) (a7 : Value) (a8 : Value) (a9 : Value) (a10 : Value) (y0 : Int32) (st : List Value) (M : xM) (Q : Option Value → xM → Prop), xW xSR 186 13 [.ref a0, .int a1, .int a2, .int a3, .int a4, .int a5, a6, a7, a8, a9, a10] (.int y0 :: st) M Q = if y0 = nI 0 then xW xSR 186 46 [.ref a0, .int a1, .int a2, .int a3, .int a4, .int a5, a6, a7, a8, a9, a10] (st) M Q else xW xSR 186 16 [.ref a0, .int a1, .int a2, .int a3, .int a4, .int a5, a6, a7, a8, a9, a10] (st) M Q) ∧
  (∀ (a0 : Nat) (a1 : Int32) (a2 : Int32) (a3 : Int32) (a4 : Int32) (a5 : Int32) (a6 : Value) (a7 : Value) (a8 : Value) (a9 : Value) (a10 : Value) (st : List Value) (M : xM) (Q : Option Value → xM → Prop), xW xSR 186 16 [.ref a0, .int a1, .int a2, .int a3, .int a4, .int a5, a6, a7, a8, a9, a10] (st) M Q = xW xSR 186 17 [.ref a0, .int a1, .int a2, .int a3, .int a4, .int a5, a6, a7, a8, a9, a10] (.int a3 :: st) M Q) ∧
  (∀ (a0 : Nat) (a1 : Int32) (a2 : Int32) (a3 : Int32) (a4 : Int32) (a5 : Int32) (a6 : Value) (a7 : Value) (a8 : Value) (a9 : Value) (a10 : Value) (y0 : Int32) (M : xM) (Q : Option Value → xM → Prop), xW xSR 186 17 [.ref a0, .int a1, .int a2, .int a3, .int a4, .int a5, a6, a7, a8, a9, a10] (.int y0 :: []) M Q = xW xSR 142 0 [.int y0] [] M (fun v M' => xW xSR 186 20 [.ref a0, .int a1, .int a2, .int a3, .int a4, .int a5, a6, a7, a8, a9, a10] (xpush v []) M' Q)) ∧
  (∀ (a0 : Nat) (a1 : Int32) (a2 : Int32) (a3 : Int32) (a4 : Int32) (a5 : Int32) (a6 : Value) (a7 : Value) (a8 : Value) (a9 : Value) (a10 : Value) (y0 : Int32) (st : List Value) (M : xM) (Q : Option Value → xM → Prop), xW xSR 186 20 [.ref a0, .int a1, .int a2, .int a3, .int a4, .int a5, a6, a7, a8, a9, a10] (.int y0 :: st) M Q = if y0 = nI 0 then xW xSR 186 46 [.ref a0, .int a1, .int a2, .int a3, .int a4, .int a5, a6, a7, a8, a9, a10] (st) M Q else xW xSR 186 23 [.ref a0, .int a1, .int a2, .int a3, .int a4, .int a5, a6, a7, a8, a9, a10] (st) M Q) ∧
  (∀ (a0 : Nat) (a1 : Int32) (a2 : Int32) (a3 : Int32) (a4 : Int32) (a5 : Int32) (a6 : Value) (a7 : Value) (a8 : Value) (a9 : Value) (a10 : Value) (st : List Value) (M : xM) (Q : Option Value → xM → Prop), xW xSR 186 23 [.ref a0, .int a1, .int a2, .int a3, .int a4, .int a5, a6, a7, a8, a9, a10] (st) M Q = xW xSR 186 24 [.ref a0, .int a1, .int a2, .int a3, .int a4, .int a5, a6, a7, a8, a9, a10] (.ref a0 :: st) M Q) ∧
  (∀ (a0 : Nat) (a1 : Int32) (a2 : Int32) (a3 : Int32) (a4 : Int32) (a5 : Int32) (a6 : Value) (a7 : Value) (a8 : Value) (a9 : Value) (a10 : Value) (st : List Value) (M : xM) (Q : Option Value → xM → Prop), xW xSR 186 24 [.ref a0, .int a1, .int a2, .int a3, .int a4, .int a5, a6, a7, a8, a9, a10] (st) M Q = xW xSR 186 26 [.ref a0, .int a1, .int a2, .int a3, .int a4, .int a5, a6, a7, a8, a9, a10] (.int a4 :: st) M Q) ∧
  (∀ (a0 : Nat) (a1 : Int32) (a2 : Int32) (a3 : Int32) (a4 : Int32) (a5 : Int32) (a6 : Value) (a7 : Value) (a8 : Value) (a9 : Value) (a10 : Value) (y0 : Int32) (M : xM) (Q : Option Value → xM → Prop), xW xSR 186 26 [.ref a0, .int a1, .int a2, .int a3, .int a4, .int a5, a6, a7, a8, a9, a10] (.int y0 :: .ref 0 :: []) M Q = xW xSR 140 0 [.ref 0, .int y0] [] M (fun v M' => xW xSR 186 29 [.ref a0, .int a1, .int a2, .int a3, .int a4, .int a5, a6, a7, a8, a9, a10] (xpush v []) M' Q)) ∧
  (∀ (a0 : Nat) (a1 : Int32) (a2 : Int32) (a3 : Int32) (a4 : Int32) (a5 : Int32) (a6 : Value) (a7 : Value) (a8 : Value) (a9 : Value) (a10 : Value) (y0 : Int32) (st : List Value) (M : xM) (Q : Option Value → xM → Prop), xW xSR 186 29 [.ref a0, .int a1, .int a2, .int a3, .int a4, .int a5, a6, a7, a8, a9, a10] (.int y0 :: st) M Q = if y0 = nI 0 then xW xSR 186 46 [.ref a0, .int a1, .int a2, .int a3, .int a4, .int a5, a6, a7, a8, a9, a10] (st) M Q else xW xSR 186 32 [.ref a0, .int a1, .int a2, .int a3, .int a4, .int a5, a6, a7, a8, a9, a10] (st) M Q) ∧
  (∀ (a0 : Nat) (a1 : Int32) (a2 : Int32) (a3 : Int32) (a4 : Int32) (a5 : Int32) (a6 : Value) (a7 : Value) (a8 : Value) (a9 : Value) (a10 : Value) (st : List Value) (M : xM) (Q : Option Value → xM → Prop), xW xSR 186 32 [.ref a0, .int a1, .int a2, .int a3, .int a4, .int a5, a6, a7, a8, a9, a10] (st) M Q = xW xSR 186 34 [.ref a0, .int a1, .int a2, .int a3, .int a4, .int a5, a6, a7, a8, a9, a10] (.int a5 :: st) M Q) ∧
  (∀ (a0 : Nat) (a1 : Int32) (a2 : Int32) (a3 : Int32) (a4 : Int32) (a5 : Int32) (a6 : Value) (a7 : Value) (a8 : Value) (a9 : Value) (a10 : Value) (y0 : Int32) (M : xM) (Q : Option Value → xM → Prop), xW xSR 186 34 [.ref a0, .int a1, .int a2, .int a3, .int a4, .int a5, a6, a7, a8, a9, a10] (.int y0 :: []) M Q = xW xSR 142 0 [.int y0] [] M (fun v M' => xW xSR 186 37 [.ref a0, .int a1, .int a2, .int a3, .int a4, .int a5, a6, a7, a8, a9, a10] (xpush v []) M' Q)) ∧
  (∀ (a0 : Nat) (a1 : Int32) (a2 : Int32) (a3 : Int32) (a4 : Int32) (a5 : Int32) (a6 : Value) (a7 : Value) (a8 : Value) (a9 : Value) (a10 : Value) (y0 : Int32) (st : List Value) (M : xM) (Q : Option Value → xM → Prop), xW xSR 186 37 [.ref a0, .int a1, .int a2, .int a3, .int a4, .int a5, a6, a7, a8, a9, a10] (.int y0 :: st) M Q = if y0 = nI 0 then xW xSR 186 46 [.ref a0, .int a1, .int a2, .int a3, .int a4, .int a5, a6, a7, a8, a9, a10] (st) M Q else xW xSR 186 40 [.ref a0, .int a1, .int a2, .int a3, .int a4, .int a5, a6, a7, a8, a9, a10] (st) M Q) ∧
  (∀ (a0 : Nat) (a1 : Int32) (a2 : Int32) (a3 : Int32) (a4 : Int32) (a5 : Int32) (a6 : Value) (a7 : Value) (a8 : Value) (a9 : Value) (a10 : Value) (st : List Value) (M : xM) (Q : Option Value → xM → Prop), xW xSR 186 40 [.ref a0, .int a1, .int a2, .int a3, .int a4, .int a5, a6, a7, a8, a9, a10] (st) M Q = xW xSR 186 42 [.ref a0, .int a1, .int a2, .int a3, .int a4, .int a5, a6, a7, a8, a9, a10] (.int a4 :: st) M Q) ∧
  (∀ (a0 : Nat) (a1 : Int32) (a2 : Int32) (a3 : Int32) (a4 : Int32) (a5 : Int32) (a6 : Value) (a7 : Value) (a8 : Value) (a9 : Value) (a10 : Value) (st : List Value) (M : xM) (Q : Option Value → xM → Prop), xW xSR 186 42 [.ref a0, .int a1, .int a2, .int a3, .int a4, .int a5, a6, a7, a8, a9, a10] (st) M Q = xW xSR 186 43 [.ref a0, .int a1, .int a2, .int a3, .int a4, .int a5, a6, a7, a8, a9, a10] (.int a2 :: st) M Q) ∧
  (∀ (a0 : Nat) (a1 : Int32) (a2 : Int32) (a3 : Int32) (a4 : Int32) (a5 : Int32) (a6 : Value) (a7 : Value) (a8 : Value) (a9 : Value) (a10 : Value) (y0 : Int32) (y1 : Int32) (st : List Value) (M : xM) (Q : Option Value → xM → Prop), xW xSR 186 43 [.ref a0, .int a1, .int a2, .int a3, .int a4, .int a5, a6, a7, a8, a9, a10] (.int y0 :: .int y1 :: st) M Q = if y1 = y0 then xW xSR 186 46 [.ref a0, .int a1, .int a2, .int a3, .int a4, .int a5, a6, a7, a8, a9, a10] (st) M Q else xW xSR 186 48 [.ref a0, .int a1, .int a2, .int a3, .int a4, .int a5, a6, a7, a8, a9, a10] (st) M Q) ∧
  (∀ (a0 : Nat) (a1 : Int32) (a2 : Int32) (a3 : Int32) (a4 : Int32) (a5 : Int32) (a6 : Value) (a7 : Value) (a8 : Value) (a9 : Value) (a10 : Value) (y0 : Int32) (M : xM) (Q : Option Value → xM → Prop), xW xSR 186 47 [.ref a0, .int a1, .int a2, .int a3, .int a4, .int a5, a6, a7, a8, a9, a10] ([.int y0]) M Q = Q (some (.int y0)) M) ∧
  (∀ (a0 : Nat) (a1 : Int32) (a2 : Int32) (a3 : Int32) (a4 : Int32) (a5 : Int32) (a6 : Value) (a7 : Value) (a8 : Value) (a9 : Value) (a10 : Value) (st : List Value) (M : xM) (Q : Option Value → xM → Prop), xW xSR 186 48 [.ref a0, .int a1, .int a2, .int a3, .int a4, .int a5, a6, a7, a8, a9, a10] (st) M Q = xW xSR 186 49 [.ref a0, .int a1, .int a2, .int a3, .int a4, .int a5, a6, a7, a8, a9, a10] (.ref a0 :: st) M Q) ∧
  (∀ (a0 : Nat) (a1 : Int32) (a2 : Int32) (a3 : Int32) (a4 : Int32) (a5 : Int32) (a6 : Value) (a7 : Value) (a8 : Value) (a9 : Value) (a10 : Value) (st : List Value) (M : xM) (Q : Option Value → xM → Prop), xW xSR 186 49 [.ref a0, .int a1, .int a2, .int a3, .int a4, .int a5, a6, a7, a8, a9, a10] (.ref 0 :: st) M Q = xW xSR 186 52 [.ref a0, .int a1, .int a2, .int a3, .int a4, .int a5, a6, a7, a8, a9, a10] (.ref 1 :: st) M Q) ∧
  (∀ (a0 : Nat) (a1 : Int32) (a2 : Int32) (a3 : Int32) (a4 : Int32) (a5 : Int32) (a6 : Value) (a7 : Value) (a8 : Value) (a9 : Value) (a10 : Value) (st : List Value) (M : xM) (Q : Option Value → xM → Prop), xW xSR 186 52 [.ref a0, .int a1, .int a2, .int a3, .int a4, .int a5, a6, a7, a8, a9, a10] (st) M Q = xW xSR 186 54 [.ref a0, .int a1, .int a2, .int a3, .int a4, .int a5, a6, a7, a8, a9, a10] (.int (nI 51) :: st) M Q) ∧
  (∀ (a0 : Nat) (a1 : Int32) (a2 : Int32) (a3 : Int32) (a4 : Int32) (a5 : Int32) (a6 : Value) (a7 : Value) (a8 : Value) (a9 : Value) (a10 : Value) (st : List Value) (M : xM) (Q : Option Value → xM → Prop), xW xSR 186 54 [.ref a0, .int a1, .int a2, .int a3, .int a4, .int a5, a6, a7, a8, a9, a10] (st) M Q = xW xSR 186 55 [.ref a0, .int a1, .int a2, .int a3, .int a4, .int a5, a6, a7, a8, a9, a10] (.int (nI 3) :: st) M Q) ∧
  (∀ (a0 : Nat) (a1 : Int32) (a2 : Int32) (a3 : Int32) (a4 : Int32) (a5 : Int32) (a6 : Value) (a7 : Value) (a8 : Value) (a9 : Value) (a10 : Value) (st : List Value) (M : xM) (Q : Option Value → xM → Prop), xW xSR 186 55 [.ref a0, .int a1, .int a2, .int a3, .int a4, .int a5, a6, a7, a8, a9, a10] (st) M Q = xW xSR 186 56 [.ref a0, .int a1, .int a2, .int a3, .int a4, .int a5, a6, a7, a8, a9, a10] (.int a1 :: st) M Q) ∧
  (∀ (a0 : Nat) (a1 : Int32) (a2 : Int32) (a3 : Int32) (a4 : Int32) (a5 : Int32) (a6 : Value) (a7 : Value) (a8 : Value) (a9 : Value) (a10 : Value) (y0 : Int32) (y1 : Int32) (st : List Value) (M : xM) (Q : Option Value → xM → Prop), xW xSR 186 56 [.ref a0, .int a1, .int a2, .int a3, .int a4, .int a5, a6, a7, a8, a9, a10] (.int y0 :: .int y1 :: st) M Q = xW xSR 186 57 [.ref a0, .int a1, .int a2, .int a3, .int a4, .int a5, a6, a7, a8, a9, a10] (.int (y1 * y0) :: st) M Q) ∧
  (∀ (a0 : Nat) (a1 : Int32) (a2 : Int32) (a3 : Int32) (a4 : Int32) (a5 : Int32) (a6 : Value) (a7 : Value) (a8 : Value) (a9 : Value) (a10 : Value) (y0 : Int32) (y1 : Int32) (st : List Value) (M : xM) (Q : Option Value → xM → Prop), xW xSR 186 57 [.ref a0, .int a1, .int a2, .int a3, .int a4, .int a5, a6, a7, a8, a9, a10] (.int y0 :: .int y1 :: st) M Q = xW xSR 186 58 [.ref a0, .int a1, .int a2, .int a3, .int a4, .int a5, a6, a7, a8, a9, a10] (.int (y1 + y0) :: st) M Q) ∧
  (∀ (a0 : Nat) (a1 : Int32) (a2 : Int32) (a3 : Int32) (a4 : Int32) (a5 : Int32) (a6 : Value) (a7 : Value) (a8 : Value) (a9 : Value) (a10 : Value) (st : List Value) (M : xM) (Q : Option Value → xM → Prop), xW xSR 186 58 [.ref a0, .int a1, .int a2, .int a3, .int a4, .int a5, a6, a7, a8, a9, a10] (st) M Q = xW xSR 186 59 [.ref a0, .int a1, .int a2, .int a3, .int a4, .int a5, a6, a7, a8, a9, a10] (.int (nI 2) :: st) M Q) ∧
  (∀ (a0 : Nat) (a1 : Int32) (a2 : Int32) (a3 : Int32) (a4 : Int32) (a5 : Int32) (a6 : Value) (a7 : Value) (a8 : Value) (a9 : Value) (a10 : Value) (y0 : Int32) (y1 : Int32) (st : List Value) (M : xM) (Q : Option Value → xM → Prop), xW xSR 186 59 [.ref a0, .int a1, .int a2, .int a3, .int a4, .int a5, a6, a7, a8, a9, a10] (.int y0 :: .int y1 :: st) M Q = xW xSR 186 60 [.ref a0, .int a1, .int a2, .int a3, .int a4, .int a5, a6, a7, a8, a9, a10] (.int (y1 + y0) :: st) M Q) ∧
  (∀ (a0 : Nat) (a1 : Int32) (a2 : Int32) (a3 : Int32) (a4 : Int32) (a5 : Int32) (a6 : Value) (a7 : Value) (a8 : Value) (a9 : Value) (a10 : Value) (y0 : Nat) (st : List Value) (M : xM) (Q : Option Value → xM → Prop), y0 < 156 → xW xSR 186 60 [.ref a0, .int a1, .int a2, .int a3, .int a4, .int a5, a6, a7, a8, a9, a10] (.int (nI y0) :: .ref 1 :: st) M Q = xW xSR 186 61 [.ref a0, .int a1, .int a2, .int a3, .int a4, .int a5, a6, a7, a8, a9, a10] (.int (M 1 y0) :: st) M Q) ∧
  (∀ (a0 : Nat) (a1 : Int32) (a2 : Int32) (a3 : Int32) (a4 : Int32) (a5 : Int32) (a6 : Value) (a7 : Value) (a8 : Value) (a9 : Value) (a10 : Value) (y0 : Int32) (st : List Value) (M : xM) (Q : Option Value → xM → Prop), xW xSR 186 61 [.ref a0, .int a1, .int a2, .int a3, .int a4, .int a5, a6, a7, a8, a9, a10] (.int y0 :: st) M Q = xW xSR 186 63 [.ref a0, .int a1, .int a2, .int a3, .int a4, .int a5, .int y0, a7, a8, a9, a10] (st) M Q) ∧
  (∀ (a0 : Nat) (a1 : Int32) (a2 : Int32) (a3 : Int32) (a4 : Int32) (a5 : Int32) (a6 : Int32) (a7 : Value) (a8 : Value) (a9 : Value) (a10 : Value) (st : List Value) (M : xM) (Q : Option Value → xM → Prop), xW xSR 186 63 [.ref a0, .int a1, .int a2, .int a3, .int a4, .int a5, .int a6, a7, a8, a9, a10] (st) M Q = xW xSR 186 64 [.ref a0, .int a1, .int a2, .int a3, .int a4, .int a5, .int a6, a7, a8, a9, a10] (.ref a0 :: st) M Q) ∧
  (∀ (a0 : Nat) (a1 : Int32) (a2 : Int32) (a3 : Int32) (a4 : Int32) (a5 : Int32) (a6 : Int32) (a7 : Value) (a8 : Value) (a9 : Value) (a10 : Value) (st : List Value) (M : xM) (Q : Option Value → xM → Prop), xW xSR 186 64 [.ref a0, .int a1, .int a2, .int a3, .int a4, .int a5, .int a6, a7, a8, a9, a10] (st) M Q = xW xSR 186 65 [.ref a0, .int a1, .int a2, .int a3, .int a4, .int a5, .int a6, a7, a8, a9, a10] (.int a1 :: st) M Q) ∧
  (∀ (a0 : Nat) (a1 : Int32) (a2 : Int32) (a3 : Int32) (a4 : Int32) (a5 : Int32) (a6 : Int32) (a7 : Value) (a8 : Value) (a9 : Value) (a10 : Value) (st : List Value) (M : xM) (Q : Option Value → xM → Prop), xW xSR 186 65 [.ref a0, .int a1, .int a2, .int a3, .int a4, .int a5, .int a6, a7, a8, a9, a10] (st) M Q = xW xSR 186 66 [.ref a0, .int a1, .int a2, .int a3, .int a4, .int a5, .int a6, a7, a8, a9, a10] (.int a2 :: st) M Q) ∧
  (∀ (a0 : Nat) (a1 : Int32) (a2 : Int32) (a3 : Int32) (a4 : Int32) (a5 : Int32) (a6 : Int32) (a7 : Value) (a8 : Value) (a9 : Value) (a10 : Value) (st : List Value) (M : xM) (Q : Option Value → xM → Prop), xW xSR 186 66 [.ref a0, .int a1, .int a2, .int a3, .int a4, .int a5, .int a6, a7, a8, a9, a10] (st) M Q = xW xSR 186 67 [.ref a0, .int a1, .int a2, .int a3, .int a4, .int a5, .int a6, a7, a8, a9, a10] (.int a3 :: st) M Q) ∧
  (∀ (a0 : Nat) (a1 : Int32) (a2 : Int32) (a3 : Int32) (a4 : Int32) (a5 : Int32) (a6 : Int32) (a7 : Value) (a8 : Value) (a9 : Value) (a10 : Value) (st : List Value) (M : xM) (Q : Option Value → xM → Prop), xW xSR 186 67 [.ref a0, .int a1, .int a2, .int a3, .int a4, .int a5, .int a6, a7, a8, a9, a10] (st) M Q = xW xSR 186 69 [.ref a0, .int a1, .int a2, .int a3, .int a4, .int a5, .int a6, a7, a8, a9, a10] (.int a6 :: st) M Q) ∧
  (∀ (a0 : Nat) (a1 : Int32) (a2 : Int32) (a3 : Int32) (a4 : Int32) (a5 : Int32) (a6 : Int32) (a7 : Value) (a8 : Value) (a9 : Value) (a10 : Value) (st : List Value) (M : xM) (Q : Option Value → xM → Prop), xW xSR 186 69 [.ref a0, .int a1, .int a2, .int a3, .int a4, .int a5, .int a6, a7, a8, a9, a10] (st) M Q = xW xSR 186 70 [.ref a0, .int a1, .int a2, .int a3, .int a4, .int a5, .int a6, a7, a8, a9, a10] (.int (nI 0) :: st) M Q) ∧
  (∀ (a0 : Nat) (a1 : Int32) (a2 : Int32) (a3 : Int32) (a4 : Int32) (a5 : Int32) (a6 : Int32) (a7 : Value) (a8 : Value) (a9 : Value) (a10 : Value) (y0 : Int32) (y1 : Int32) (y2 : Int32) (y3 : Int32) (y4 : Int32) (M : xM) (Q : Option Value → xM → Prop), xW xSR 186 70 [.ref a0, .int a1, .int a2, .int a3, .int a4, .int a5, .int a6, a7, a8, a9, a10] (.int y0 :: .int y1 :: .int y2 :: .int y3 :: .int y4 :: .ref 0 :: []) M Q = xW xSR 169 0 [.ref 0, .int y4, .int y3, .int y2, .int y1, .int y0] [] M (fun v M' => xW xSR 186 73 [.ref a0, .int a1, .int a2, .int a3, .int a4, .int a5, .int a6, a7, a8, a9, a10] (xpush v []) M' Q)) ∧
  (∀ (a0 : Nat) (a1 : Int32) (a2 : Int32) (a3 : Int32) (a4 : Int32) (a5 : Int32) (a6 : Int32) (a7 : Value) (a8 : Value) (a9 : Value) (a10 : Value) (y0 : Int32) (st : List Value) (M : xM) (Q : Option Value → xM → Prop), xW xSR 186 73 [.ref a0, .int a1, .int a2, .int a3, .int a4, .int a5, .int a6, a7, a8, a9, a10] (.int y0 :: st) M Q = xW xSR 186 75 [.ref a0, .int a1, .int a2, .int a3, .int a4, .int a5, .int a6, .int y0, a8, a9, a10] (st) M Q) ∧
  (∀ (a0 : Nat) (a1 : Int32) (a2 : Int32) (a3 : Int32) (a4 : Int32) (a5 : Int32) (a6 : Int32) (a7 : Int32) (a8 : Value) (a9 : Value) (a10 : Value) (st : List Value) (M : xM) (Q : Option Value → xM → Prop), xW xSR 186 75 [.ref a0, .int a1, .int a2, .int a3, .int a4, .int a5, .int a6, .int a7, a8, a9, a10] (st) M Q = xW xSR 186 76 [.ref a0, .int a1, .int a2, .int a3, .int a4, .int a5, .int a6, .int a7, a8, a9, a10] (.int a1 :: st) M Q) ∧
  (∀ (a0 : Nat) (a1 : Int32) (a2 : Int32) (a3 : Int32) (a4 : Int32) (a5 : Int32) (a6 : Int32) (a7 : Int32) (a8 : Value) (a9 : Value) (a10 : Value) (st : List Value) (M : xM) (Q : Option Value → xM → Prop), xW xSR 186 76 [.ref a0, .int a1, .int a2, .int a3, .int a4, .int a5, .int a6, .int a7, a8, a9, a10] (st) M Q = xW xSR 186 78 [.ref a0, .int a1, .int a2, .int a3, .int a4, .int a5, .int a6, .int a7, a8, a9, a10] (.int a4 :: st) M Q) ∧
  (∀ (a0 : Nat) (a1 : Int32) (a2 : Int32) (a3 : Int32) (a4 : Int32) (a5 : Int32) (a6 : Int32) (a7 : Int32) (a8 : Value) (a9 : Value) (a10 : Value) (st : List Value) (M : xM) (Q : Option Value → xM → Prop), xW xSR 186 78 [.ref a0, .int a1, .int a2, .int a3, .int a4, .int a5, .int a6, .int a7, a8, a9, a10] (st) M Q = xW xSR 186 80 [.ref a0, .int a1, .int a2, .int a3, .int a4, .int a5, .int a6, .int a7, a8, a9, a10] (.int a5 :: st) M Q) ∧
  (∀ (a0 : Nat) (a1 : Int32) (a2 : Int32) (a3 : Int32) (a4 : Int32) (a5 : Int32) (a6 : Int32) (a7 : Int32) (a8 : Value) (a9 : Value) (a10 : Value) (y0 : Int32) (y1 : Int32) (y2 : Int32) (M : xM) (Q : Option Value → xM → Prop), xW xSR 186 80 [.ref a0, .int a1, .int a2, .int a3, .int a4, .int a5, .int a6, .int a7, a8, a9, a10] (.int y0 :: .int y1 :: .int y2 :: []) M Q = xW xSR 158 0 [.int y2, .int y1, .int y0] [] M (fun v M' => xW xSR 186 83 [.ref a0, .int a1, .int a2, .int a3, .int a4, .int a5, .int a6, .int a7, a8, a9, a10] (xpush v []) M' Q)) ∧
  (∀ (a0 : Nat) (a1 : Int32) (a2 : Int32) (a3 : Int32) (a4 : Int32) (a5 : Int32) (a6 : Int32) (a7 : Int32) (a8 : Value) (a9 : Value) (a10 : Value) (y0 : Int32) (st : List Value) (M : xM) (Q : Option Value → xM → Prop), xW xSR 186 83 [.ref a0, .int a1, .int a2, .int a3, .int a4, .int a5, .int a6, .int a7, a8, a9, a10] (.int y0 :: st) M Q = xW xSR 186 85 [.ref a0, .int a1, .int a2, .int a3, .int a4, .int a5, .int a6, .int a7, .int y0, a9, a10] (st) M Q) ∧
  (∀ (a0 : Nat) (a1 : Int32) (a2 : Int32) (a3 : Int32) (a4 : Int32) (a5 : Int32) (a6 : Int32) (a7 : Int32) (a8 : Int32) (a9 : Value) (a10 : Value) (st : List Value) (M : xM) (Q : Option Value → xM → Prop), xW xSR 186 85 [.ref a0, .int a1, .int a2, .int a3, .int a4, .int a5, .int a6, .int a7, .int a8, a9, a10] (st) M Q = xW xSR 186 86 [.ref a0, .int a1, .int a2, .int a3, .int a4, .int a5, .int a6, .int a7, .int a8, a9, a10] (.ref a0 :: st) M Q) ∧
  (∀ (a0 : Nat) (a1 : Int32) (a2 : Int32) (a3 : Int32) (a4 : Int32) (a5 : Int32) (a6 : Int32) (a7 : Int32) (a8 : Int32) (a9 : Value) (a10 : Value) (st : List Value) (M : xM) (Q : Option Value → xM → Prop), xW xSR 186 86 [.ref a0, .int a1, .int a2, .int a3, .int a4, .int a5, .int a6, .int a7, .int a8, a9, a10] (.ref 0 :: st) M Q = xW xSR 186 89 [.ref a0, .int a1, .int a2, .int a3, .int a4, .int a5, .int a6, .int a7, .int a8, a9, a10] (.ref 1 :: st) M Q) ∧
  (∀ (a0 : Nat) (a1 : Int32) (a2 : Int32) (a3 : Int32) (a4 : Int32) (a5 : Int32) (a6 : Int32) (a7 : Int32) (a8 : Int32) (a9 : Value) (a10 : Value) (st : List Value) (M : xM) (Q : Option Value → xM → Prop), xW xSR 186 89 [.ref a0, .int a1, .int a2, .int a3, .int a4, .int a5, .int a6, .int a7, .int a8, a9, a10] (st) M Q = xW xSR 186 91 [.ref a0, .int a1, .int a2, .int a3, .int a4, .int a5, .int a6, .int a7, .int a8, a9, a10] (.int a8 :: st) M Q) ∧
  (∀ (a0 : Nat) (a1 : Int32) (a2 : Int32) (a3 : Int32) (a4 : Int32) (a5 : Int32) (a6 : Int32) (a7 : Int32) (a8 : Int32) (a9 : Value) (a10 : Value) (y0 : Nat) (st : List Value) (M : xM) (Q : Option Value → xM → Prop), y0 < 156 → xW xSR 186 91 [.ref a0, .int a1, .int a2, .int a3, .int a4, .int a5, .int a6, .int a7, .int a8, a9, a10] (.int (nI y0) :: .ref 1 :: st) M Q = xW xSR 186 92 [.ref a0, .int a1, .int a2, .int a3, .int a4, .int a5, .int a6, .int a7, .int a8, a9, a10] (.int (M 1 y0) :: st) M Q) ∧
  (∀ (a0 : Nat) (a1 : Int32) (a2 : Int32) (a3 : Int32) (a4 : Int32) (a5 : Int32) (a6 : Int32) (a7 : Int32) (a8 : Int32) (a9 : Value) (a10 : Value) (y0 : Int32) (st : List Value) (M : xM) (Q : Option Value → xM → Prop), xW xSR 186 92 [.ref a0, .int a1, .int a2, .int a3, .int a4, .int a5, .int a6, .int a7, .int a8, a9, a10] (.int y0 :: st) M Q = xW xSR 186 94 [.ref a0, .int a1, .int a2, .int a3, .int a4, .int a5, .int a6, .int a7, .int a8, .int y0, a10] (st) M Q) ∧
  (∀ (a0 : Nat) (a1 : Int32) (a2 : Int32) (a3 : Int32) (a4 : Int32) (a5 : Int32) (a6 : Int32) (a7 : Int32) (a8 : Int32) (a9 : Int32) (a10 : Value) (st : List Value) (M : xM) (Q : Option Value → xM → Prop), xW xSR 186 94 [.ref a0, .int a1, .int a2, .int a3, .int a4, .int a5, .int a6, .int a7, .int a8, .int a9, a10] (st) M Q = xW xSR 186 95 [.ref a0, .int a1, .int a2, .int a3, .int a4, .int a5, .int a6, .int a7, .int a8, .int a9, a10] (.ref a0 :: st) M Q) ∧
  (∀ (a0 : Nat) (a1 : Int32) (a2 : Int32) (a3 : Int32) (a4 : Int32) (a5 : Int32) (a6 : Int32) (a7 : Int32) (a8 : Int32) (a9 : Int32) (a10 : Value) (st : List Value) (M : xM) (Q : Option Value → xM → Prop), xW xSR 186 95 [.ref a0, .int a1, .int a2, .int a3, .int a4, .int a5, .int a6, .int a7, .int a8, .int a9, a10] (.ref 0 :: st) M Q = xW xSR 186 98 [.ref a0, .int a1, .int a2, .int a3, .int a4, .int a5, .int a6, .int a7, .int a8, .int a9, a10] (.ref 1 :: st) M Q) ∧
  (∀ (a0 : Nat) (a1 : Int32) (a2 : Int32) (a3 : Int32) (a4 : Int32) (a5 : Int32) (a6 : Int32) (a7 : Int32) (a8 : Int32) (a9 : Int32) (a10 : Value) (st : List Value) (M : xM) (Q : Option Value → xM → Prop), xW xSR 186 98 [.ref a0, .int a1, .int a2, .int a3, .int a4, .int a5, .int a6, .int a7, .int a8, .int a9, a10] (st) M Q = xW xSR 186 100 [.ref a0, .int a1, .int a2, .int a3, .int a4, .int a5, .int a6, .int a7, .int a8, .int a9, a10] (.int a8 :: st) M Q) ∧
  (∀ (a0 : Nat) (a1 : Int32) (a2 : Int32) (a3 : Int32) (a4 : Int32) (a5 : Int32) (a6 : Int32) (a7 : Int32) (a8 : Int32) (a9 : Int32) (a10 : Value) (st : List Value) (M : xM) (Q : Option Value → xM → Prop), xW xSR 186 100 [.ref a0, .int a1, .int a2, .int a3, .int a4, .int a5, .int a6, .int a7, .int a8, .int a9, a10] (st) M Q = xW xSR 186 102 [.ref a0, .int a1, .int a2, .int a3, .int a4, .int a5, .int a6, .int a7, .int a8, .int a9, a10] (.int a9 :: st) M Q) ∧
  (∀ (a0 : Nat) (a1 : Int32) (a2 : Int32) (a3 : Int32) (a4 : Int32) (a5 : Int32) (a6 : Int32) (a7 : Int32) (a8 : Int32) (a9 : Int32) (a10 : Value) (st : List Value) (M : xM) (Q : Option Value → xM → Prop), xW xSR 186 102 [.ref a0, .int a1, .int a2, .int a3, .int a4, .int a5, .int a6, .int a7, .int a8, .int a9, a10] (st) M Q = xW xSR 186 104 [.ref a0, .int a1, .int a2, .int a3, .int a4, .int a5, .int a6, .int a7, .int a8, .int a9, a10] (.int (nI 89) :: st) M Q) ∧
  (∀ (a0 : Nat) (a1 : Int32) (a2 : Int32) (a3 : Int32) (a4 : Int32) (a5 : Int32) (a6 : Int32) (a7 : Int32) (a8 : Int32) (a9 : Int32) (a10 : Value) (y0 : Int32) (y1 : Int32) (st : List Value) (M : xM) (Q : Option Value → xM → Prop), xW xSR 186 104 [.ref a0, .int a1, .int a2, .int a3, .int a4, .int a5, .int a6, .int a7, .int a8, .int a9, a10] (.int y0 :: .int y1 :: st) M Q = if y0 < y1 then xW xSR 186 107 [.ref a0, .int a1, .int a2, .int a3, .int a4, .int a5, .int a6, .int a7, .int a8, .int a9, a10] (st) M Q else xW xSR 186 112 [.ref a0, .int a1, .int a2, .int a3, .int a4, .int a5, .int a6, .int a7, .int a8, .int a9, a10] (st) M Q) ∧
  (∀ (a0 : Nat) (a1 : Int32) (a2 : Int32) (a3 : Int32) (a4 : Int32) (a5 : Int32) (a6 : Int32) (a7 : Int32) (a8 : Int32) (a9 : Int32) (a10 : Value) (st : List Value) (M : xM) (Q : Option Value → xM → Prop), xW xSR 186 107 [.ref a0, .int a1, .int a2, .int a3, .int a4, .int a5, .int a6, .int a7, .int a8, .int a9, a10] (st) M Q = xW xSR 186 109 [.ref a0, .int a1, .int a2, .int a3, .int a4, .int a5, .int a6, .int a7, .int a8, .int a9, a10] (.int (nI 99) :: st) M Q) ∧
  (∀ (a0 : Nat) (a1 : Int32) (a2 : Int32) (a3 : Int32) (a4 : Int32) (a5 : Int32) (a6 : Int32) (a7 : Int32) (a8 : Int32) (a9 : Int32) (a10 : Value) (st : List Value) (M : xM) (Q : Option Value → xM → Prop), xW xSR 186 109 [.ref a0, .int a1, .int a2, .int a3, .int a4, .int a5, .int a6, .int a7, .int a8, .int a9, a10] (st) M Q = xW xSR 186 117 [.ref a0, .int a1, .int a2, .int a3, .int a4, .int a5, .int a6, .int a7, .int a8, .int a9, a10] (st) M Q) ∧
  (∀ (a0 : Nat) (a1 : Int32) (a2 : Int32) (a3 : Int32) (a4 : Int32) (a5 : Int32) (a6 : Int32) (a7 : Int32) (a8 : Int32) (a9 : Int32) (a10 : Value) (st : List Value) (M : xM) (Q : Option Value → xM → Prop), xW xSR 186 112 [.ref a0, .int a1, .int a2, .int a3, .int a4, .int a5, .int a6, .int a7, .int a8, .int a9, a10] (st) M Q = xW xSR 186 114 [.ref a0, .int a1, .int a2, .int a3, .int a4, .int a5, .int a6, .int a7, .int a8, .int a9, a10] (.int a9 :: st) M Q) ∧
  (∀ (a0 : Nat) (a1 : Int32) (a2 : Int32) (a3 : Int32) (a4 : Int32) (a5 : Int32) (a6 : Int32) (a7 : Int32) (a8 : Int32) (a9 : Int32) (a10 : Value) (st : List Value) (M : xM) (Q : Option Value → xM → Prop), xW xSR 186 114 [.ref a0, .int a1, .int a2, .int a3, .int a4, .int a5, .int a6, .int a7, .int a8, .int a9, a10] (st) M Q = xW xSR 186 116 [.ref a0, .int a1, .int a2, .int a3, .int a4, .int a5, .int a6, .int a7, .int a8, .int a9, a10] (.int (nI 10) :: st) M Q) ∧
  (∀ (a0 : Nat) (a1 : Int32) (a2 : Int32) (a3 : Int32) (a4 : Int32) (a5 : Int32) (a6 : Int32) (a7 : Int32) (a8 : Int32) (a9 : Int32) (a10 : Value) (y0 : Int32) (y1 : Int32) (st : List Value) (M : xM) (Q : Option Value → xM → Prop), xW xSR 186 116 [.ref a0, .int a1, .int a2, .int a3, .int a4, .int a5, .int a6, .int a7, .int a8, .int a9, a10] (.int y0 :: .int y1 :: st) M Q = xW xSR 186 117 [.ref a0, .int a1, .int a2, .int a3, .int a4, .int a5, .int a6, .int a7, .int a8, .int a9, a10] (.int (y1 + y0) :: st) M Q) ∧
  (∀ (a0 : Nat) (a1 : Int32) (a2 : Int32) (a3 : Int32) (a4 : Int32) (a5 : Int32) (a6 : Int32) (a7 : Int32) (a8 : Int32) (a9 : Int32) (a10 : Value) (st : List Value) (M : xM) (Q : Option Value → xM → Prop), xW xSR 186 118 [.ref a0, .int a1, .int a2, .int a3, .int a4, .int a5, .int a6, .int a7, .int a8, .int a9, a10] (st) M Q = xW xSR 186 119 [.ref a0, .int a1, .int a2, .int a3, .int a4, .int a5, .int a6, .int a7, .int a8, .int a9, a10] (.ref a0 :: st) M Q) ∧
  (∀ (a0 : Nat) (a1 : Int32) (a2 : Int32) (a3 : Int32) (a4 : Int32) (a5 : Int32) (a6 : Int32) (a7 : Int32) (a8 : Int32) (a9 : Int32) (a10 : Value) (st : List Value) (M : xM) (Q : Option Value → xM → Prop), xW xSR 186 119 [.ref a0, .int a1, .int a2, .int a3, .int a4, .int a5, .int a6, .int a7, .int a8, .int a9, a10] (st) M Q = xW xSR 186 120 [.ref a0, .int a1, .int a2, .int a3, .int a4, .int a5, .int a6, .int a7, .int a8, .int a9, a10] (.int a1 :: st) M Q) ∧
  (∀ (a0 : Nat) (a1 : Int32) (a2 : Int32) (a3 : Int32) (a4 : Int32) (a5 : Int32) (a6 : Int32) (a7 : Int32) (a8 : Int32) (a9 : Int32) (a10 : Value) (st : List Value) (M : xM) (Q : Option Value → xM → Prop), xW xSR 186 120 [.ref a0, .int a1, .int a2, .int a3, .int a4, .int a5, .int a6, .int a7, .int a8, .int a9, a10] (st) M Q = xW xSR 186 121 [.ref a0, .int a1, .int a2, .int a3, .int a4, .int a5, .int a6, .int a7, .int a8, .int a9, a10] (.int a2 :: st) M Q) ∧
  (∀ (a0 : Nat) (a1 : Int32) (a2 : Int32) (a3 : Int32) (a4 : Int32) (a5 : Int32) (a6 : Int32) (a7 : Int32) (a8 : Int32) (a9 : Int32) (a10 : Value) (st : List Value) (M : xM) (Q : Option Value → xM → Prop), xW xSR 186 121 [.ref a0, .int a1, .int a2, .int a3, .int a4, .int a5, .int a6, .int a7, .int a8, .int a9, a10] (st) M Q = xW xSR 186 122 [.ref a0, .int a1, .int a2, .int a3, .int a4, .int a5, .int a6, .int a7, .int a8, .int a9, a10] (.int a3 :: st) M Q) ∧
  (∀ (a0 : Nat) (a1 : Int32) (a2 : Int32) (a3 : Int32) (a4 : Int32) (a5 : Int32) (a6 : Int32) (a7 : Int32) (a8 : Int32) (a9 : Int32) (a10 : Value) (st : List Value) (M : xM) (Q : Option Value → xM → Prop), xW xSR 186 122 [.ref a0, .int a1, .int a2, .int a3, .int a4, .int a5, .int a6, .int a7, .int a8, .int a9, a10] (st) M Q = xW xSR 186 124 [.ref a0, .int a1, .int a2, .int a3, .int a4, .int a5, .int a6, .int a7, .int a8, .int a9, a10] (.int a6 :: st) M Q) ∧
  (∀ (a0 : Nat) (a1 : Int32) (a2 : Int32) (a3 : Int32) (a4 : Int32) (a5 : Int32) (a6 : Int32) (a7 : Int32) (a8 : Int32) (a9 : Int32) (a10 : Value) (st : List Value) (M : xM) (Q : Option Value → xM → Prop), xW xSR 186 124 [.ref a0, .int a1, .int a2, .int a3, .int a4, .int a5, .int a6, .int a7, .int a8, .int a9, a10] (st) M Q = xW xSR 186 125 [.ref a0, .int a1, .int a2, .int a3, .int a4, .int a5, .int a6, .int a7, .int a8, .int a9, a10] (.int (nI 0) :: st) M Q) ∧
  (∀ (a0 : Nat) (a1 : Int32) (a2 : Int32) (a3 : Int32) (a4 : Int32) (a5 : Int32) (a6 : Int32) (a7 : Int32) (a8 : Int32) (a9 : Int32) (a10 : Value) (y0 : Int32) (y1 : Int32) (y2 : Int32) (y3 : Int32) (y4 : Int32) (M : xM) (Q : Option Value → xM → Prop), xW xSR 186 125 [.ref a0, .int a1, .int a2, .int a3, .int a4, .int a5, .int a6, .int a7, .int a8, .int a9, a10] (.int y0 :: .int y1 :: .int y2 :: .int y3 :: .int y4 :: .ref 0 :: []) M Q = xW xSR 169 0 [.ref 0, .int y4, .int y3, .int y2, .int y1, .int y0] [] M (fun v M' => xW xSR 186 128 [.ref a0, .int a1, .int a2, .int a3, .int a4, .int a5, .int a6, .int a7, .int a8, .int a9, a10] (xpush v []) M' Q)) ∧
  (∀ (a0 : Nat) (a1 : Int32) (a2 : Int32) (a3 : Int32) (a4 : Int32) (a5 : Int32) (a6 : Int32) (a7 : Int32) (a8 : Int32) (a9 : Int32) (a10 : Value) (y0 : Int32) (st : List Value) (M : xM) (Q : Option Value → xM → Prop), xW xSR 186 128 [.ref a0, .int a1, .int a2, .int a3, .int a4, .int a5, .int a6, .int a7, .int a8, .int a9, a10] (.int y0 :: st) M Q = xW xSR 186 130 [.ref a0, .int a1, .int a2, .int a3, .int a4, .int a5, .int a6, .int a7, .int a8, .int a9, .int y0] (st) M Q) ∧
  (∀ (a0 : Nat) (a1 : Int32) (a2 : Int32) (a3 : Int32) (a4 : Int32) (a5 : Int32) (a6 : Int32) (a7 : Int32) (a8 : Int32) (a9 : Int32) (a10 : Int32) (st : List Value) (M : xM) (Q : Option Value → xM → Prop), xW xSR 186 130 [.ref a0, .int a1, .int a2, .int a3, .int a4, .int a5, .int a6, .int a7, .int a8, .int a9, .int a10] (st) M Q = xW xSR 186 131 [.ref a0, .int a1, .int a2, .int a3, .int a4, .int a5, .int a6, .int a7, .int a8, .int a9, .int a10] (.ref a0 :: st) M Q) ∧
  (∀ (a0 : Nat) (a1 : Int32) (a2 : Int32) (a3 : Int32) (a4 : Int32) (a5 : Int32) (a6 : Int32) (a7 : Int32) (a8 : Int32) (a9 : Int32) (a10 : Int32) (st : List Value) (M : xM) (Q : Option Value → xM → Prop), xW xSR 186 131 [.ref a0, .int a1, .int a2, .int a3, .int a4, .int a5, .int a6, .int a7, .int a8, .int a9, .int a10] (.ref 0 :: st) M Q = xW xSR 186 134 [.ref a0, .int a1, .int a2, .int a3, .int a4, .int a5, .int a6, .int a7, .int a8, .int a9, .int a10] (.ref 1 :: st) M Q) ∧
  (∀ (a0 : Nat) (a1 : Int32) (a2 : Int32) (a3 : Int32) (a4 : Int32) (a5 : Int32) (a6 : Int32) (a7 : Int32) (a8 : Int32) (a9 : Int32) (a10 : Int32) (st : List Value) (M : xM) (Q : Option Value → xM → Prop), xW xSR 186 134 [.ref a0, .int a1, .int a2, .int a3, .int a4, .int a5, .int a6, .int a7, .int a8, .int a9, .int a10] (st) M Q = xW xSR 186 136 [.ref a0, .int a1, .int a2, .int a3, .int a4, .int a5, .int a6, .int a7, .int a8, .int a9, .int a10] (.int a8 :: st) M Q) ∧
  (∀ (a0 : Nat) (a1 : Int32) (a2 : Int32) (a3 : Int32) (a4 : Int32) (a5 : Int32) (a6 : Int32) (a7 : Int32) (a8 : Int32) (a9 : Int32) (a10 : Int32) (st : List Value) (M : xM) (Q : Option Value → xM → Prop), xW xSR 186 136 [.ref a0, .int a1, .int a2, .int a3, .int a4, .int a5, .int a6, .int a7, .int a8, .int a9, .int a10] (st) M Q = xW xSR 186 138 [.ref a0, .int a1, .int a2, .int a3, .int a4, .int a5, .int a6, .int a7, .int a8, .int a9, .int a10] (.int a9 :: st) M Q) ∧
  (∀ (a0 : Nat) (a1 : Int32) (a2 : Int32) (a3 : Int32) (a4 : Int32) (a5 : Int32) (a6 : Int32) (a7 : Int32) (a8 : Int32) (a9 : Int32) (a10 : Int32) (y0 : Int32) (y1 : Nat) (st : List Value) (M : xM) (Q : Option Value → xM → Prop), y1 < 156 → xW xSR 186 138 [.ref a0, .int a1, .int a2, .int a3, .int a4, .int a5, .int a6, .int a7, .int a8, .int a9, .int a10] (.int y0 :: .int (nI y1) :: .ref 1 :: st) M Q = xW xSR 186 139 [.ref a0, .int a1, .int a2, .int a3, .int a4, .int a5, .int a6, .int a7, .int a8, .int a9, .int a10] (st) (xup M 1 y1 y0) Q) ∧
  (∀ (a0 : Nat) (a1 : Int32) (a2 : Int32) (a3 : Int32) (a4 : Int32) (a5 : Int32) (a6 : Int32) (a7 : Int32) (a8 : Int32) (a9 : Int32) (a10 : Int32) (st : List Value) (M : xM) (Q : Option Value → xM → Prop), xW xSR 186 139 [.ref a0, .int a1, .int a2, .int a3, .int a4, .int a5, .int a6, .int a7, .int a8, .int a9, .int a10] (st) M Q = xW xSR 186 141 [.ref a0, .int a1, .int a2, .int a3, .int a4, .int a5, .int a6, .int a7, .int a8, .int a9, .int a10] (.int a10 :: st) M Q) ∧
  (∀ (a0 : Nat) (a1 : Int32) (a2 : Int32) (a3 : Int32) (a4 : Int32) (a5 : Int32) (a6 : Int32) (a7 : Int32) (a8 : Int32) (a9 : Int32) (a10 : Int32) (st : List Value) (M : xM) (Q : Option Value → xM → Prop), xW xSR 186 141 [.ref a0, .int a1, .int a2, .int a3, .int a4, .int a5, .int a6, .int a7, .int a8, .int a9, .int a10] (st) M Q = xW xSR 186 143 [.ref a0, .int a1, .int a2, .int a3, .int a4, .int a5, .int a6, .int a7, .int a8, .int a9, .int a10] (.int a7 :: st) M Q) ∧
  (∀ (a0 : Nat) (a1 : Int32) (a2 : Int32) (a3 : Int32) (a4 : Int32) (a5 : Int32) (a6 : Int32) (a7 : Int32) (a8 : Int32) (a9 : Int32) (a10 : Int32) (y0 : Int32) (y1 : Int32) (st : List Value) (M : xM) (Q : Option Value → xM → Prop), xW xSR 186 143 [.ref a0, .int a1, .int a2, .int a3, .int a4, .int a5, .int a6, .int a7, .int a8, .int a9, .int a10] (.int y0 :: .int y1 :: st) M Q = if y0 < y1 then xW xSR 186 146 [.ref a0, .int a1, .int a2, .int a3, .int a4, .int a5, .int a6, .int a7, .int a8, .int a9, .int a10] (st) M Q else xW xSR 186 154 [.ref a0, .int a1, .int a2, .int a3, .int a4, .int a5, .int a6, .int a7, .int a8, .int a9, .int a10] (st) M Q) ∧
  (∀ (a0 : Nat) (a1 : Int32) (a2 : Int32) (a3 : Int32) (a4 : Int32) (a5 : Int32) (a6 : Int32) (a7 : Int32) (a8 : Int32) (a9 : Int32) (a10 : Int32) (st : List Value) (M : xM) (Q : Option Value → xM → Prop), xW xSR 186 146 [.ref a0, .int a1, .int a2, .int a3, .int a4, .int a5, .int a6, .int a7, .int a8, .int a9, .int a10] (st) M Q = xW xSR 186 148 [.ref a0, .int a1, .int a2, .int a3, .int a4, .int a5, .int a6, .int a7, .int a8, .int a9, .int a10] (.int a10 :: st) M Q) ∧
  (∀ (a0 : Nat) (a1 : Int32) (a2 : Int32) (a3 : Int32) (a4 : Int32) (a5 : Int32) (a6 : Int32) (a7 : Int32) (a8 : Int32) (a9 : Int32) (a10 : Int32) (st : List Value) (M : xM) (Q : Option Value → xM → Prop), xW xSR 186 148 [.ref a0, .int a1, .int a2, .int a3, .int a4, .int a5, .int a6, .int a7, .int a8, .int a9, .int a10] (st) M Q = xW xSR 186 150 [.ref a0, .int a1, .int a2, .int a3, .int a4, .int a5, .int a6, .int a7, .int a8, .int a9, .int a10] (.int a7 :: st) M Q) ∧
  (∀ (a0 : Nat) (a1 : Int32) (a2 : Int32) (a3 : Int32) (a4 : Int32) (a5 : Int32) (a6 : Int32) (a7 : Int32) (a8 : Int32) (a9 : Int32) (a10 : Int32) (y0 : Int32) (y1 : Int32) (st : List Value) (M : xM) (Q : Option Value → xM → Prop), xW xSR 186 150 [.ref a0, .int a1, .int a2, .int a3, .int a4, .int a5, .int a6, .int a7, .int a8, .int a9, .int a10] (.int y0 :: .int y1 :: st) M Q = xW xSR 186 151 [.ref a0, .int a1, .int a2, .int a3, .int a4, .int a5, .int a6, .int a7, .int a8, .int a9, .int a10] (.int (y1 - y0) :: st) M Q) ∧
  (∀ (a0 : Nat) (a1 : Int32) (a2 : Int32) (a3 : Int32) (a4 : Int32) (a5 : Int32) (a6 : Int32) (a7 : Int32) (a8 : Int32) (a9 : Int32) (a10 : Int32) (st : List Value) (M : xM) (Q : Option Value → xM → Prop), xW xSR 186 151 [.ref a0, .int a1, .int a2, .int a3, .int a4, .int a5, .int a6, .int a7, .int a8, .int a9, .int a10] (st) M Q = xW xSR 186 155 [.ref a0, .int a1, .int a2, .int a3, .int a4, .int a5, .int a6, .int a7, .int a8, .int a9, .int a10] (st) M Q) ∧
  (∀ (a0 : Nat) (a1 : Int32) (a2 : Int32) (a3 : Int32) (a4 : Int32) (a5 : Int32) (a6 : Int32) (a7 : Int32) (a8 : Int32) (a9 : Int32) (a10 : Int32) (st : List Value) (M : xM) (Q : Option Value → xM → Prop), xW xSR 186 154 [.ref a0, .int a1, .int a2, .int a3, .int a4, .int a5, .int a6, .int a7, .int a8, .int a9, .int a10] (st) M Q = xW xSR 186 155 [.ref a0, .int a1, .int a2, .int a3, .int a4, .int a5, .int a6, .int a7, .int a8, .int a9, .int a10] (.int (nI 0) :: st) M Q) :=
  ⟨fun a0 a1 a2 a3 a4 a5 a6 a7 a8 a9 a10 st M Q => xw_s rfl rfl,
  fun a0 a1 a2 a3 a4 a5 a6 a7 a8 a9 a10 st M Q => xw_s rfl rfl,
  fun a0 a1 a2 a3 a4 a5 a6 a7 a8 a9 a10 y0 M Q => xw_call rfl rfl rfl,
  fun a0 a1 a2 a3 a4 a5 a6 a7 a8 a9 a10 y0 st M Q => xw_br (c0 := y0 = nI 0) rfl rfl,
  fun a0 a1 a2 a3 a4 a5 a6 a7 a8 a9 a10 st M Q => xw_s rfl rfl,
  fun a0 a1 a2 a3 a4 a5 a6 a7 a8 a9 a10 st M Q => xw_s rfl rfl,
  fun a0 a1 a2 a3 a4 a5 a6 a7 a8 a9 a10 y0 M Q => xw_call rfl rfl rfl,
  fun a0 a1 a2 a3 a4 a5 a6 a7 a8 a9 a10 y0 st M Q => xw_br (c0 := y0 = nI 0) rfl rfl,
  fun a0 a1 a2 a3 a4 a5 a6 a7 a8 a9 a10 st M Q => xw_s rfl rfl,
  fun a0 a1 a2 a3 a4 a5 a6 a7 a8 a9 a10 y0 M Q => xw_call rfl rfl rfl,
  fun a0 a1 a2 a3 a4 a5 a6 a7 a8 a9 a10 y0 st M Q => xw_br (c0 := y0 = nI 0) rfl rfl,
  fun a0 a1 a2 a3 a4 a5 a6 a7 a8 a9 a10 st M Q => xw_s rfl rfl,
  fun a0 a1 a2 a3 a4 a5 a6 a7 a8 a9 a10 st M Q => xw_s rfl rfl,
  fun a0 a1 a2 a3 a4 a5 a6 a7 a8 a9 a10 y0 M Q => xw_call rfl rfl rfl,
  fun a0 a1 a2 a3 a4 a5 a6 a7 a8 a9 a10 y0 st M Q => xw_br (c0 := y0 = nI 0) rfl rfl,
  fun a0 a1 a2 a3 a4 a5 a6 a7 a8 a9 a10 st M Q => xw_s rfl rfl,
  fun a0 a1 a2 a3 a4 a5 a6 a7 a8 a9 a10 y0 M Q => xw_call rfl rfl rfl,
  fun a0 a1 a2 a3 a4 a5 a6 a7 a8 a9 a10 y0 st M Q => xw_br (c0 := y0 = nI 0) rfl rfl,
  fun a0 a1 a2 a3 a4 a5 a6 a7 a8 a9 a10 st M Q => xw_s rfl rfl,
  fun a0 a1 a2 a3 a4 a5 a6 a7 a8 a9 a10 st M Q => xw_s rfl rfl,
  fun a0 a1 a2 a3 a4 a5 a6 a7 a8 a9 a10 y0 y1 st M Q => xw_brn (c0 := y1 ≠ y0) (c1 := y1 = y0) rfl rfl (Iff.rfl),
  fun a0 a1 a2 a3 a4 a5 a6 a7 a8 a9 a10 y0 M Q => xw_ret rfl rfl,
  fun a0 a1 a2 a3 a4 a5 a6 a7 a8 a9 a10 st M Q => xw_s rfl rfl,
  fun a0 a1 a2 a3 a4 a5 a6 a7 a8 a9 a10 st M Q => xw_s rfl rfl,
  fun a0 a1 a2 a3 a4 a5 a6 a7 a8 a9 a10 st M Q => xw_s rfl rfl,
  fun a0 a1 a2 a3 a4 a5 a6 a7 a8 a9 a10 st M Q => xw_s rfl rfl,
  fun a0 a1 a2 a3 a4 a5 a6 a7 a8 a9 a10 st M Q => xw_s rfl rfl,
  fun a0 a1 a2 a3 a4 a5 a6 a7 a8 a9 a10 y0 y1 st M Q => xw_s rfl rfl,
  fun a0 a1 a2 a3 a4 a5 a6 a7 a8 a9 a10 y0 y1 st M Q => xw_s rfl rfl,
  fun a0 a1 a2 a3 a4 a5 a6 a7 a8 a9 a10 st M Q => xw_s rfl rfl,
  fun a0 a1 a2 a3 a4 a5 a6 a7 a8 a9 a10 y0 y1 st M Q => xw_s rfl rfl,
  fun a0 a1 a2 a3 a4 a5 a6 a7 a8 a9 a10 y0 st M Q h0 => xw_ald rfl rfl rfl (by decide) h0,
  fun a0 a1 a2 a3 a4 a5 a6 a7 a8 a9 a10 y0 st M Q => xw_s rfl rfl,
  fun a0 a1 a2 a3 a4 a5 a6 a7 a8 a9 a10 st M Q => xw_s rfl rfl,
  fun a0 a1 a2 a3 a4 a5 a6 a7 a8 a9 a10 st M Q => xw_s rfl rfl,
  fun a0 a1 a2 a3 a4 a5 a6 a7 a8 a9 a10 st M Q => xw_s rfl rfl,
  fun a0 a1 a2 a3 a4 a5 a6 a7 a8 a9 a10 st M Q => xw_s rfl rfl,
  fun a0 a1 a2 a3 a4 a5 a6 a7 a8 a9 a10 st M Q => xw_s rfl rfl,
  fun a0 a1 a2 a3 a4 a5 a6 a7 a8 a9 a10 st M Q => xw_s rfl rfl,
  fun a0 a1 a2 a3 a4 a5 a6 a7 a8 a9 a10 y0 y1 y2 y3 y4 M Q => xw_call rfl rfl rfl,
  fun a0 a1 a2 a3 a4 a5 a6 a7 a8 a9 a10 y0 st M Q => xw_s rfl rfl,
  fun a0 a1 a2 a3 a4 a5 a6 a7 a8 a9 a10 st M Q => xw_s rfl rfl,
  fun a0 a1 a2 a3 a4 a5 a6 a7 a8 a9 a10 st M Q => xw_s rfl rfl,
  fun a0 a1 a2 a3 a4 a5 a6 a7 a8 a9 a10 st M Q => xw_s rfl rfl,
  fun a0 a1 a2 a3 a4 a5 a6 a7 a8 a9 a10 y0 y1 y2 M Q => xw_call rfl rfl rfl,
  fun a0 a1 a2 a3 a4 a5 a6 a7 a8 a9 a10 y0 st M Q => xw_s rfl rfl,
  fun a0 a1 a2 a3 a4 a5 a6 a7 a8 a9 a10 st M Q => xw_s rfl rfl,
  fun a0 a1 a2 a3 a4 a5 a6 a7 a8 a9 a10 st M Q => xw_s rfl rfl,
  fun a0 a1 a2 a3 a4 a5 a6 a7 a8 a9 a10 st M Q => xw_s rfl rfl,
  fun a0 a1 a2 a3 a4 a5 a6 a7 a8 a9 a10 y0 st M Q h0 => xw_ald rfl rfl rfl (by decide) h0,
  fun a0 a1 a2 a3 a4 a5 a6 a7 a8 a9 a10 y0 st M Q => xw_s rfl rfl,
  fun a0 a1 a2 a3 a4 a5 a6 a7 a8 a9 a10 st M Q => xw_s rfl rfl,
  fun a0 a1 a2 a3 a4 a5 a6 a7 a8 a9 a10 st M Q => xw_s rfl rfl,
  fun a0 a1 a2 a3 a4 a5 a6 a7 a8 a9 a10 st M Q => xw_s rfl rfl,
  fun a0 a1 a2 a3 a4 a5 a6 a7 a8 a9 a10 st M Q => xw_s rfl rfl,
  fun a0 a1 a2 a3 a4 a5 a6 a7 a8 a9 a10 st M Q => xw_s rfl rfl,
  fun a0 a1 a2 a3 a4 a5 a6 a7 a8 a9 a10 y0 y1 st M Q => xw_brn (c0 := y1 ≤ y0) (c1 := y0 < y1) rfl rfl (xge _ _),
  fun a0 a1 a2 a3 a4 a5 a6 a7 a8 a9 a10 st M Q => xw_s rfl rfl,
  fun a0 a1 a2 a3 a4 a5 a6 a7 a8 a9 a10 st M Q => xw_s rfl rfl,
  fun a0 a1 a2 a3 a4 a5 a6 a7 a8 a9 a10 st M Q => xw_s rfl rfl,
  fun a0 a1 a2 a3 a4 a5 a6 a7 a8 a9 a10 st M Q => xw_s rfl rfl,
  fun a0 a1 a2 a3 a4 a5 a6 a7 a8 a9 a10 y0 y1 st M Q => xw_s rfl rfl,
  fun a0 a1 a2 a3 a4 a5 a6 a7 a8 a9 a10 st M Q => xw_s rfl rfl,
  fun a0 a1 a2 a3 a4 a5 a6 a7 a8 a9 a10 st M Q => xw_s rfl rfl,
  fun a0 a1 a2 a3 a4 a5 a6 a7 a8 a9 a10 st M Q => xw_s rfl rfl,
  fun a0 a1 a2 a3 a4 a5 a6 a7 a8 a9 a10 st M Q => xw_s rfl rfl,
  fun a0 a1 a2 a3 a4 a5 a6 a7 a8 a9 a10 st M Q => xw_s rfl rfl,
  fun a0 a1 a2 a3 a4 a5 a6 a7 a8 a9 a10 st M Q => xw_s rfl rfl,
  fun a0 a1 a2 a3 a4 a5 a6 a7 a8 a9 a10 y0 y1 y2 y3 y4 M Q => xw_call rfl rfl rfl,
  fun a0 a1 a2 a3 a4 a5 a6 a7 a8 a9 a10 y0 st M Q => xw_s rfl rfl,
  fun a0 a1 a2 a3 a4 a5 a6 a7 a8 a9 a10 st M Q => xw_s rfl rfl,
  fun a0 a1 a2 a3 a4 a5 a6 a7 a8 a9 a10 st M Q => xw_s rfl rfl,
  fun a0 a1 a2 a3 a4 a5 a6 a7 a8 a9 a10 st M Q => xw_s rfl rfl,
  fun a0 a1 a2 a3 a4 a5 a6 a7 a8 a9 a10 st M Q => xw_s rfl rfl,
  fun a0 a1 a2 a3 a4 a5 a6 a7 a8 a9 a10 y0 y1 st M Q h0 => xw_ast (f := fun x => x) rfl rfl rfl (by decide) h0,
  fun a0 a1 a2 a3 a4 a5 a6 a7 a8 a9 a10 st M Q => xw_s rfl rfl,
  fun a0 a1 a2 a3 a4 a5 a6 a7 a8 a9 a10 st M Q => xw_s rfl rfl,
  fun a0 a1 a2 a3 a4 a5 a6 a7 a8 a9 a10 y0 y1 st M Q => xw_brn (c0 := y1 ≤ y0) (c1 := y0 < y1) rfl rfl (xge _ _),
  fun a0 a1 a2 a3 a4 a5 a6 a7 a8 a9 a10 st M Q => xw_s rfl rfl,
  fun a0 a1 a2 a3 a4 a5 a6 a7 a8 a9 a10 st M Q => xw_s rfl rfl,
  fun a0 a1 a2 a3 a4 a5 a6 a7 a8 a9 a10 y0 y1 st M Q => xw_s rfl rfl,
  fun a0 a1 a2 a3 a4 a5 a6 a7 a8 a9 a10 st M Q => xw_s rfl rfl,
  fun a0 a1 a2 a3 a4 a5 a6 a7 a8 a9 a10 st M Q => xw_s rfl rfl⟩
set_option maxRecDepth 20000 in
theorem h186_46 :
  (∀ (a0 : Nat) (a1 : Int32) (a2 : Int32) (a3 : Int32) (a4 : Int32) (a5 : Int32) (a6 : Value) (a7 : Value) (a8 : Value) (a9 : Value) (a10 : Value) (st : List Value) (M : xM) (Q : Option Value → xM → Prop), xW xSR 186 46 [.ref a0, .int a1, .int a2, .int a3, .int a4, .int a5, a6, a7, a8, a9, a10] (st) M Q = xW xSR 186 47 [.ref a0, .int a1, .int a2, .int a3, .int a4, .int a5, a6, a7, a8, a9, a10] (.int (-1) :: st) M Q) :=
  fun a0 a1 a2 a3 a4 a5 a6 a7 a8 a9 a10 st M Q => xw_s rfl rfl
set_option maxRecDepth 20000 in
theorem h186_117 :
  (∀ (a0 : Nat) (a1 : Int32) (a2 : Int32) (a3 : Int32) (a4 : Int32) (a5 : Int32) (a6 : Int32) (a7 : Int32) (a8 : Int32) (a9 : Int32) (a10 : Value) (y0 : Int32) (y1 : Nat) (st : List Value) (M : xM) (Q : Option Value → xM → Prop), y1 < 156 → xW xSR 186 117 [.ref a0, .int a1, .int a2, .int a3, .int a4, .int a5, .int a6, .int a7, .int a8, .int a9, a10] (.int y0 :: .int (nI y1) :: .ref 1 :: st) M Q = xW xSR 186 118 [.ref a0, .int a1, .int a2, .int a3, .int a4, .int a5, .int a6, .int a7, .int a8, .int a9, a10] (st) (xup M 1 y1 y0) Q) :=
  fun a0 a1 a2 a3 a4 a5 a6 a7 a8 a9 a10 y0 y1 st M Q h0 => xw_ast (f := fun x => x) rfl rfl rfl (by decide) h0
set_option maxRecDepth 20000 in
theorem h186_155 :
  (∀ (a0 : Nat) (a1 : Int32) (a2 : Int32) (a3 : Int32) (a4 : Int32) (a5 : Int32) (a6 : Int32) (a7 : Int32) (a8 : Int32) (a9 : Int32) (a10 : Int32) (y0 : Int32) (M : xM) (Q : Option Value → xM → Prop), xW xSR 186 155 [.ref a0, .int a1, .int a2, .int a3, .int a4, .int a5, .int a6, .int a7, .int a8, .int a9, .int a10] ([.int y0]) M Q = Q (some (.int y0)) M) :=
  fun a0 a1 a2 a3 a4 a5 a6 a7 a8 a9 a10 y0 M Q => xw_ret rfl rfl
set_option maxRecDepth 20000 in
theorem j186 :
  (∀ (a0 : Nat) (a1 : Int32) (a2 : Int32) (a3 : Int32) (a4 : Int32) (a5 : Int32) (a6 : Value) (a7 : Value) (a8 : Value) (a9 : Value) (a10 : Value) (st : List Value) (M : xM) (Q : Option Value → xM → Prop), xW xSR 186 46 [.ref a0, .int a1, .int a2, .int a3, .int a4, .int a5, a6, a7, a8, a9, a10] (st) M Q = xW xSR 186 47 [.ref a0, .int a1, .int a2, .int a3, .int a4, .int a5, a6, a7, a8, a9, a10] (.int (-1) :: st) M Q) ∧
  (∀ (a0 : Nat) (a1 : Int32) (a2 : Int32) (a3 : Int32) (a4 : Int32) (a5 : Int32) (a6 : Int32) (a7 : Int32) (a8 : Int32) (a9 : Int32) (a10 : Value) (y0 : Int32) (y1 : Nat) (st : List Value) (M : xM) (Q : Option Value → xM → Prop), y1 < 156 → xW xSR 186 117 [.ref a0, .int a1, .int a2, .int a3, .int a4, .int a5, .int a6, .int a7, .int a8, .int a9, a10] (.int y0 :: .int (nI y1) :: .ref 1 :: st) M Q = xW xSR 186 118 [.ref a0, .int a1, .int a2, .int a3, .int a4, .int a5, .int a6, .int a7, .int a8, .int a9, a10] (st) (xup M 1 y1 y0) Q) ∧
  (∀ (a0 : Nat) (a1 : Int32) (a2 : Int32) (a3 : Int32) (a4 : Int32) (a5 : Int32) (a6 : Int32) (a7 : Int32) (a8 : Int32) (a9 : Int32) (a10 : Int32) (y0 : Int32) (M : xM) (Q : Option Value → xM → Prop), xW xSR 186 155 [.ref a0, .int a1, .int a2, .int a3, .int a4, .int a5, .int a6, .int a7, .int a8, .int a9, .int a10] ([.int y0]) M Q = Q (some (.int y0)) M) :=
  ⟨fun a0 a1 a2 a3 a4 a5 a6 a7 a8 a9 a10 st M Q => xw_s rfl rfl,
  fun a0 a1 a2 a3 a4 a5 a6 a7 a8 a9 a10 y0 y1 st M Q h0 => xw_ast (f := fun x => x) rfl rfl rfl (by decide) h0,
  fun a0 a1 a2 a3 a4 a5 a6 a7 a8 a9 a10 y0 M Q => xw_ret rfl rfl⟩
