set_option maxRecDepth 20000 in
theorem s97 :
  (∀ (a0 : Nat) (a1 : Int32) (st : List Value) (M : xM) (Q : Option Value → xM → Prop), xW xSC 97 0 [.ref a0, .int a1] (st) M Q = xW xSC 97 1 [.ref a0, .int a1] (.int a1 :: st) M Q) ∧
  (∀ (a0 : Nat) (a1 : Int32) (st : List Value) (M : xM) (Q : Option Value → xM → Prop), xW xSC 97 1 [.ref a0, .int a1] (st) M Q = xW xSC 97 3 [.ref a0, .int a1] (.int (nI 32) :: st) M Q) ∧
  (∀ (a0 : Nat) (a1 : Int32) (st : List Value) (M : xM) (Q : Option Value → xM → Prop), xW xSC 97 3 [.ref a0, .int a1] (st) M Q = xW xSC 97 5 [.ref a0, .int a1] (.int (nI 126) :: st) M Q) ∧
  (∀ (a0 : Nat) (a1 : Int32) (y0 : Int32) (y1 : Int32) (y2 : Int32) (M : xM) (Q : Option Value → xM → Prop), xW xSC 97 5 [.ref a0, .int a1] (.int y0 :: .int y1 :: .int y2 :: []) M Q = xW xSC 132 0 [.int y2, .int y1, .int y0] [] M (fun v M' => xW xSC 97 8 [.ref a0, .int a1] (xpush v []) M' Q)) ∧
  (∀ (a0 : Nat) (a1 : Int32) (y0 : Int32) (st : List Value) (M : xM) (Q : Option Value → xM → Prop), xW xSC 97 8 [.ref a0, .int a1] (.int y0 :: st) M Q = if y0 = nI 0 then xW xSC 97 11 [.ref a0, .int a1] (st) M Q else xW xSC 97 13 [.ref a0, .int a1] (st) M Q) ∧
  (∀ (a0 : Nat) (a1 : Int32) (st : List Value) (M : xM) (Q : Option Value → xM → Prop), xW xSC 97 11 [.ref a0, .int a1] (st) M Q = xW xSC 97 12 [.ref a0, .int a1] (.int (-1) :: st) M Q) ∧
  (∀ (a0 : Nat) (a1 : Int32) (y0 : Int32) (M : xM) (Q : Option Value → xM → Prop), xW xSC 97 12 [.ref a0, .int a1] ([.int y0]) M Q = Q (some (.int y0)) M) ∧
  (∀ (a0 : Nat) (a1 : Int32) (st : List Value) (M : xM) (Q : Option Value → xM → Prop), xW xSC 97 13 [.ref a0, .int a1] (st) M Q = xW xSC 97 14 [.ref a0, .int a1] (.ref a0 :: st) M Q) ∧
  (∀ (a0 : Nat) (a1 : Int32) (st : List Value) (M : xM) (Q : Option Value → xM → Prop), xW xSC 97 14 [.ref a0, .int a1] (.ref 0 :: st) M Q = xW xSC 97 17 [.ref a0, .int a1] (.ref 1 :: st) M Q) ∧
  (∀ (a0 : Nat) (a1 : Int32) (st : List Value) (M : xM) (Q : Option Value → xM → Prop), xW xSC 97 17 [.ref a0, .int a1] (.ref 1 :: st) M Q = xW xSC 97 20 [.ref a0, .int a1] (.int (M 1 4) :: st) M Q) ∧
  (∀ (a0 : Nat) (a1 : Int32) (st : List Value) (M : xM) (Q : Option Value → xM → Prop), xW xSC 97 20 [.ref a0, .int a1] (st) M Q = xW xSC 97 23 [.ref a0, .int a1] (.int (nI 200) :: st) M Q) ∧
  (∀ (a0 : Nat) (a1 : Int32) (y0 : Int32) (y1 : Int32) (st : List Value) (M : xM) (Q : Option Value → xM → Prop), xW xSC 97 23 [.ref a0, .int a1] (.int y0 :: .int y1 :: st) M Q = if y1 < y0 then xW xSC 97 29 [.ref a0, .int a1] (st) M Q else xW xSC 97 26 [.ref a0, .int a1] (st) M Q) ∧
  (∀ (a0 : Nat) (a1 : Int32) (st : List Value) (M : xM) (Q : Option Value → xM → Prop), xW xSC 97 26 [.ref a0, .int a1] (st) M Q = xW xSC 97 28 [.ref a0, .int a1] (.int (-3) :: st) M Q) ∧
  (∀ (a0 : Nat) (a1 : Int32) (y0 : Int32) (M : xM) (Q : Option Value → xM → Prop), xW xSC 97 28 [.ref a0, .int a1] ([.int y0]) M Q = Q (some (.int y0)) M) ∧
  (∀ (a0 : Nat) (a1 : Int32) (st : List Value) (M : xM) (Q : Option Value → xM → Prop), xW xSC 97 29 [.ref a0, .int a1] (st) M Q = xW xSC 97 30 [.ref a0, .int a1] (.ref a0 :: st) M Q) ∧
  (∀ (a0 : Nat) (a1 : Int32) (st : List Value) (M : xM) (Q : Option Value → xM → Prop), xW xSC 97 30 [.ref a0, .int a1] (.ref 0 :: st) M Q = xW xSC 97 33 [.ref a0, .int a1] (.ref 1 :: st) M Q) ∧
  (∀ (a0 : Nat) (a1 : Int32) (st : List Value) (M : xM) (Q : Option Value → xM → Prop), xW xSC 97 33 [.ref a0, .int a1] (st) M Q = xW xSC 97 34 [.ref a0, .int a1] (.int a1 :: st) M Q) ∧
  (∀ (a0 : Nat) (a1 : Int32) (y0 : Int32) (st : List Value) (M : xM) (Q : Option Value → xM → Prop), xW xSC 97 34 [.ref a0, .int a1] (.int y0 :: st) M Q = xW xSC 97 35 [.ref a0, .int a1] (.int (y0.toUInt32 % 65536).toInt32 :: st) M Q) ∧
  (∀ (a0 : Nat) (a1 : Int32) (y0 : Int32) (M : xM) (Q : Option Value → xM → Prop), xW xSC 97 35 [.ref a0, .int a1] (.int y0 :: .ref 1 :: []) M Q = xW xSC 69 0 [.ref 1, .int y0] [] M (fun v M' => xW xSC 97 38 [.ref a0, .int a1] (xpush v []) M' Q)) ∧
  (∀ (a0 : Nat) (a1 : Int32) (st : List Value) (M : xM) (Q : Option Value → xM → Prop), xW xSC 97 38 [.ref a0, .int a1] (st) M Q = xW xSC 97 39 [.ref a0, .int a1] (.ref a0 :: st) M Q) ∧
  (∀ (a0 : Nat) (a1 : Int32) (st : List Value) (M : xM) (Q : Option Value → xM → Prop), xW xSC 97 39 [.ref a0, .int a1] (.ref 0 :: st) M Q = xW xSC 97 42 [.ref a0, .int a1] (.ref 1 :: st) M Q) ∧
  (∀ (a0 : Nat) (a1 : Int32) (st : List Value) (M : xM) (Q : Option Value → xM → Prop), xW xSC 97 42 [.ref a0, .int a1] (.ref 1 :: st) M Q = xW xSC 97 45 [.ref a0, .int a1] (.int (M 1 4) :: st) M Q) ∧
  (∀ (a0 : Nat) (a1 : Int32) (y0 : Int32) (M : xM) (Q : Option Value → xM → Prop), xW xSC 97 45 [.ref a0, .int a1] ([.int y0]) M Q = Q (some (.int y0)) M) :=
  ⟨fun a0 a1 st M Q => xw_s rfl rfl,
  fun a0 a1 st M Q => xw_s rfl rfl,
  fun a0 a1 st M Q => xw_s rfl rfl,
  fun a0 a1 y0 y1 y2 M Q => xw_call rfl rfl rfl,
  fun a0 a1 y0 st M Q => xw_brn (c0 := y0 ≠ nI 0) (c1 := y0 = nI 0) rfl rfl (Iff.rfl),
  fun a0 a1 st M Q => xw_s rfl rfl,
  fun a0 a1 y0 M Q => xw_ret rfl rfl,
  fun a0 a1 st M Q => xw_s rfl rfl,
  fun a0 a1 st M Q => xw_s rfl rfl,
  fun a0 a1 st M Q => xw_s rfl rfl,
  fun a0 a1 st M Q => xw_s rfl rfl,
  fun a0 a1 y0 y1 st M Q => xw_br (c0 := y1 < y0) rfl rfl,
  fun a0 a1 st M Q => xw_s rfl rfl,
  fun a0 a1 y0 M Q => xw_ret rfl rfl,
  fun a0 a1 st M Q => xw_s rfl rfl,
  fun a0 a1 st M Q => xw_s rfl rfl,
  fun a0 a1 st M Q => xw_s rfl rfl,
  fun a0 a1 y0 st M Q => xw_s rfl rfl,
  fun a0 a1 y0 M Q => xw_call rfl rfl rfl,
  fun a0 a1 st M Q => xw_s rfl rfl,
  fun a0 a1 st M Q => xw_s rfl rfl,
  fun a0 a1 st M Q => xw_s rfl rfl,
  fun a0 a1 y0 M Q => xw_ret rfl rfl⟩
theorem j97 : True := trivial

set_option maxRecDepth 20000 in
theorem s98 :
  (∀ (a0 : Nat) (a1 : Value) (st : List Value) (M : xM) (Q : Option Value → xM → Prop), xW xSC 98 0 [.ref a0, a1] (st) M Q = xW xSC 98 1 [.ref a0, a1] (.ref a0 :: st) M Q) ∧
  (∀ (a0 : Nat) (a1 : Value) (st : List Value) (M : xM) (Q : Option Value → xM → Prop), xW xSC 98 1 [.ref a0, a1] (.ref 0 :: st) M Q = xW xSC 98 4 [.ref a0, a1] (.ref 1 :: st) M Q) ∧
  (∀ (a0 : Nat) (a1 : Value) (st : List Value) (M : xM) (Q : Option Value → xM → Prop), xW xSC 98 4 [.ref a0, a1] (.ref 1 :: st) M Q = xW xSC 98 7 [.ref a0, a1] (.int (M 1 4) :: st) M Q) ∧
  (∀ (a0 : Nat) (a1 : Value) (y0 : Int32) (st : List Value) (M : xM) (Q : Option Value → xM → Prop), xW xSC 98 7 [.ref a0, a1] (.int y0 :: st) M Q = xW xSC 98 8 [.ref a0, .int y0] (st) M Q) ∧
  (∀ (a0 : Nat) (a1 : Int32) (st : List Value) (M : xM) (Q : Option Value → xM → Prop), xW xSC 98 8 [.ref a0, .int a1] (st) M Q = xW xSC 98 9 [.ref a0, .int a1] (.ref a0 :: st) M Q) ∧
  (∀ (a0 : Nat) (a1 : Int32) (st : List Value) (M : xM) (Q : Option Value → xM → Prop), xW xSC 98 9 [.ref a0, .int a1] (.ref 0 :: st) M Q = xW xSC 98 12 [.ref a0, .int a1] (.ref 1 :: st) M Q) ∧
  (∀ (a0 : Nat) (a1 : Int32) (M : xM) (Q : Option Value → xM → Prop), xW xSC 98 12 [.ref a0, .int a1] (.ref 1 :: []) M Q = xW xSC 70 0 [.ref 1] [] M (fun v M' => xW xSC 98 15 [.ref a0, .int a1] (xpush v []) M' Q)) ∧
  (∀ (a0 : Nat) (a1 : Int32) (st : List Value) (M : xM) (Q : Option Value → xM → Prop), xW xSC 98 15 [.ref a0, .int a1] (st) M Q = xW xSC 98 16 [.ref a0, .int a1] (.int a1 :: st) M Q) ∧
  (∀ (a0 : Nat) (a1 : Int32) (y0 : Int32) (M : xM) (Q : Option Value → xM → Prop), xW xSC 98 16 [.ref a0, .int a1] ([.int y0]) M Q = Q (some (.int y0)) M) :=
  ⟨fun a0 a1 st M Q => xw_s rfl rfl,
  fun a0 a1 st M Q => xw_s rfl rfl,
  fun a0 a1 st M Q => xw_s rfl rfl,
  fun a0 a1 y0 st M Q => xw_s rfl rfl,
  fun a0 a1 st M Q => xw_s rfl rfl,
  fun a0 a1 st M Q => xw_s rfl rfl,
  fun a0 a1 M Q => xw_call rfl rfl rfl,
  fun a0 a1 st M Q => xw_s rfl rfl,
  fun a0 a1 y0 M Q => xw_ret rfl rfl⟩
theorem j98 : True := trivial

set_option maxRecDepth 20000 in
theorem s99 :
  (∀ (a0 : Nat) (st : List Value) (M : xM) (Q : Option Value → xM → Prop), xW xSC 99 0 [.ref a0] (st) M Q = xW xSC 99 1 [.ref a0] (.ref a0 :: st) M Q) ∧
  (∀ (a0 : Nat) (st : List Value) (M : xM) (Q : Option Value → xM → Prop), xW xSC 99 1 [.ref a0] (.ref 0 :: st) M Q = xW xSC 99 4 [.ref a0] (.ref 1 :: st) M Q) ∧
  (∀ (a0 : Nat) (M : xM) (Q : Option Value → xM → Prop), xW xSC 99 4 [.ref a0] (.ref 1 :: []) M Q = xW xSC 71 0 [.ref 1, .null, .null] [] M (fun v M' => xW xSC 99 7 [.ref a0] (xpush v []) M' Q)) ∧
  (∀ (a0 : Nat) (y0 : Int32) (M : xM) (Q : Option Value → xM → Prop), xW xSC 99 7 [.ref a0] ([.int y0]) M Q = Q (some (.int y0)) M) :=
  ⟨fun a0 st M Q => xw_s rfl rfl,
  fun a0 st M Q => xw_s rfl rfl,
  fun a0 M Q => xw_call rfl rfl rfl,
  fun a0 y0 M Q => xw_ret rfl rfl⟩
theorem j99 : True := trivial

set_option maxRecDepth 20000 in
theorem s100 :
  (∀ (a0 : Nat) (st : List Value) (M : xM) (Q : Option Value → xM → Prop), xW xSC 100 0 [.ref a0] (st) M Q = xW xSC 100 1 [.ref a0] (.ref a0 :: st) M Q) ∧
  (∀ (a0 : Nat) (st : List Value) (M : xM) (Q : Option Value → xM → Prop), xW xSC 100 1 [.ref a0] (.ref 0 :: st) M Q = xW xSC 100 4 [.ref a0] (.ref 1 :: st) M Q) ∧
  (∀ (a0 : Nat) (M : xM) (Q : Option Value → xM → Prop), xW xSC 100 4 [.ref a0] (.ref 1 :: []) M Q = xW xSC 71 0 [.ref 1, .null, .null] [] M (fun v M' => xW xSC 100 7 [.ref a0] (xpush v []) M' Q)) ∧
  (∀ (a0 : Nat) (st : List Value) (M : xM) (Q : Option Value → xM → Prop), xW xSC 100 7 [.ref a0] (st) M Q = xW xSC 100 9 [.ref a0] (.int (-4) :: st) M Q) ∧
  (∀ (a0 : Nat) (y0 : Int32) (y1 : Int32) (st : List Value) (M : xM) (Q : Option Value → xM → Prop), xW xSC 100 9 [.ref a0] (.int y0 :: .int y1 :: st) M Q = if y1 = y0 then xW xSC 100 15 [.ref a0] (st) M Q else xW xSC 100 12 [.ref a0] (st) M Q) ∧
  (∀ (a0 : Nat) (st : List Value) (M : xM) (Q : Option Value → xM → Prop), xW xSC 100 12 [.ref a0] (st) M Q = xW xSC 100 14 [.ref a0] (.int (-2) :: st) M Q) ∧
  (∀ (a0 : Nat) (y0 : Int32) (M : xM) (Q : Option Value → xM → Prop), xW xSC 100 14 [.ref a0] ([.int y0]) M Q = Q (some (.int y0)) M) ∧
  (∀ (a0 : Nat) (st : List Value) (M : xM) (Q : Option Value → xM → Prop), xW xSC 100 15 [.ref a0] (st) M Q = xW xSC 100 16 [.ref a0] (.ref a0 :: st) M Q) ∧
  (∀ (a0 : Nat) (st : List Value) (M : xM) (Q : Option Value → xM → Prop), xW xSC 100 16 [.ref a0] (.ref 0 :: st) M Q = xW xSC 100 19 [.ref a0] (.ref 1 :: st) M Q) ∧
  (∀ (a0 : Nat) (st : List Value) (M : xM) (Q : Option Value → xM → Prop), xW xSC 100 19 [.ref a0] (.ref 1 :: st) M Q = xW xSC 100 22 [.ref a0] (.ref 4 :: st) M Q) ∧
  (∀ (a0 : Nat) (st : List Value) (M : xM) (Q : Option Value → xM → Prop), xW xSC 100 22 [.ref a0] (.ref 4 :: st) M Q = xW xSC 100 25 [.ref a0] (.int (M 4 1) :: st) M Q) ∧
  (∀ (a0 : Nat) (st : List Value) (M : xM) (Q : Option Value → xM → Prop), xW xSC 100 25 [.ref a0] (st) M Q = xW xSC 100 26 [.ref a0] (.int (nI 1) :: st) M Q) ∧
  (∀ (a0 : Nat) (y0 : Int32) (y1 : Int32) (st : List Value) (M : xM) (Q : Option Value → xM → Prop), xW xSC 100 26 [.ref a0] (.int y0 :: .int y1 :: st) M Q = if y1 < y0 then xW xSC 100 43 [.ref a0] (st) M Q else xW xSC 100 29 [.ref a0] (st) M Q) ∧
  (∀ (a0 : Nat) (st : List Value) (M : xM) (Q : Option Value → xM → Prop), xW xSC 100 29 [.ref a0] (st) M Q = xW xSC 100 30 [.ref a0] (.ref a0 :: st) M Q) ∧
  (∀ (a0 : Nat) (st : List Value) (M : xM) (Q : Option Value → xM → Prop), xW xSC 100 30 [.ref a0] (.ref 0 :: st) M Q = xW xSC 100 33 [.ref a0] (.ref 1 :: st) M Q) ∧
  (∀ (a0 : Nat) (st : List Value) (M : xM) (Q : Option Value → xM → Prop), xW xSC 100 33 [.ref a0] (.ref 1 :: st) M Q = xW xSC 100 36 [.ref a0] (.ref 4 :: st) M Q) ∧
  (∀ (a0 : Nat) (st : List Value) (M : xM) (Q : Option Value → xM → Prop), xW xSC 100 36 [.ref a0] (.ref 4 :: st) M Q = xW xSC 100 39 [.ref a0] (.int (M 4 2) :: st) M Q) ∧
  (∀ (a0 : Nat) (st : List Value) (M : xM) (Q : Option Value → xM → Prop), xW xSC 100 39 [.ref a0] (st) M Q = xW xSC 100 40 [.ref a0] (.int (nI 1) :: st) M Q) ∧
  (∀ (a0 : Nat) (y0 : Int32) (y1 : Int32) (st : List Value) (M : xM) (Q : Option Value → xM → Prop), xW xSC 100 40 [.ref a0] (.int y0 :: .int y1 :: st) M Q = if y1 < y0 then xW xSC 100 43 [.ref a0] (st) M Q else xW xSC 100 46 [.ref a0] (st) M Q) ∧
  (∀ (a0 : Nat) (y0 : Int32) (M : xM) (Q : Option Value → xM → Prop), xW xSC 100 45 [.ref a0] ([.int y0]) M Q = Q (some (.int y0)) M) ∧
  (∀ (a0 : Nat) (st : List Value) (M : xM) (Q : Option Value → xM → Prop), xW xSC 100 46 [.ref a0] (st) M Q = xW xSC 100 47 [.ref a0] (.ref a0 :: st) M Q) ∧
  (∀ (a0 : Nat) (st : List Value) (M : xM) (Q : Option Value → xM → Prop), xW xSC 100 47 [.ref a0] (.ref 0 :: st) M Q = xW xSC 100 50 [.ref a0] (.ref 9 :: st) M Q) ∧
  (∀ (a0 : Nat) (st : List Value) (M : xM) (Q : Option Value → xM → Prop), xW xSC 100 50 [.ref a0] (st) M Q = xW xSC 100 51 [.ref a0] (.ref a0 :: st) M Q) ∧
  (∀ (a0 : Nat) (st : List Value) (M : xM) (Q : Option Value → xM → Prop), xW xSC 100 51 [.ref a0] (.ref 0 :: st) M Q = xW xSC 100 54 [.ref a0] (.ref 1 :: st) M Q) ∧
  (∀ (a0 : Nat) (st : List Value) (M : xM) (Q : Option Value → xM → Prop), xW xSC 100 54 [.ref a0] (.ref 1 :: st) M Q = xW xSC 100 57 [.ref a0] (.ref 4 :: st) M Q) ∧
  (∀ (a0 : Nat) (y0 : Nat) (M : xM) (Q : Option Value → xM → Prop), xW xSC 100 57 [.ref a0] (.ref y0 :: .ref 9 :: []) M Q = xW xSC 22 0 [.ref 9, .ref y0] [] M (fun v M' => xW xSC 100 60 [.ref a0] (xpush v []) M' Q)) ∧
  (∀ (a0 : Nat) (st : List Value) (M : xM) (Q : Option Value → xM → Prop), xW xSC 100 60 [.ref a0] (st) M Q = xW xSC 100 61 [.ref a0] (.ref a0 :: st) M Q) ∧
  (∀ (a0 : Nat) (st : List Value) (M : xM) (Q : Option Value → xM → Prop), xW xSC 100 61 [.ref a0] (st) M Q = xW xSC 100 62 [.ref a0] (.int (nI 0) :: st) M Q) ∧
  (∀ (a0 : Nat) (y0 : Int32) (st : List Value) (M : xM) (Q : Option Value → xM → Prop), xW xSC 100 62 [.ref a0] (.int y0 :: .ref 0 :: st) M Q = xW xSC 100 65 [.ref a0] (st) (xup M 0 7 y0) Q) ∧
  (∀ (a0 : Nat) (st : List Value) (M : xM) (Q : Option Value → xM → Prop), xW xSC 100 65 [.ref a0] (st) M Q = xW xSC 100 66 [.ref a0] (.ref a0 :: st) M Q) ∧
  (∀ (a0 : Nat) (st : List Value) (M : xM) (Q : Option Value → xM → Prop), xW xSC 100 66 [.ref a0] (st) M Q = xW xSC 100 67 [.ref a0] (.int (nI 0) :: st) M Q) ∧
  (∀ (a0 : Nat) (y0 : Int32) (st : List Value) (M : xM) (Q : Option Value → xM → Prop), xW xSC 100 67 [.ref a0] (.int y0 :: .ref 0 :: st) M Q = xW xSC 100 70 [.ref a0] (st) (xup M 0 4 y0) Q) ∧
  (∀ (a0 : Nat) (st : List Value) (M : xM) (Q : Option Value → xM → Prop), xW xSC 100 70 [.ref a0] (st) M Q = xW xSC 100 71 [.ref a0] (.ref a0 :: st) M Q) ∧
  (∀ (a0 : Nat) (st : List Value) (M : xM) (Q : Option Value → xM → Prop), xW xSC 100 71 [.ref a0] (.ref 0 :: st) M Q = xW xSC 100 74 [.ref a0] (.ref 27 :: st) M Q) ∧
  (∀ (a0 : Nat) (M : xM) (Q : Option Value → xM → Prop), xW xSC 100 74 [.ref a0] (.ref 27 :: []) M Q = xW xSC 16 0 [.ref 27] [] M (fun v M' => xW xSC 100 77 [.ref a0] (xpush v []) M' Q)) ∧
  (∀ (a0 : Nat) (st : List Value) (M : xM) (Q : Option Value → xM → Prop), xW xSC 100 77 [.ref a0] (st) M Q = xW xSC 100 78 [.ref a0] (.ref a0 :: st) M Q) ∧
  (∀ (a0 : Nat) (st : List Value) (M : xM) (Q : Option Value → xM → Prop), xW xSC 100 78 [.ref a0] (.ref 0 :: st) M Q = xW xSC 100 81 [.ref a0] (.ref 24 :: st) M Q) ∧
  (∀ (a0 : Nat) (M : xM) (Q : Option Value → xM → Prop), xW xSC 100 81 [.ref a0] (.ref 24 :: []) M Q = xW xSC 5 0 [.ref 24] [] M (fun v M' => xW xSC 100 84 [.ref a0] (xpush v []) M' Q)) ∧
  (∀ (a0 : Nat) (st : List Value) (M : xM) (Q : Option Value → xM → Prop), xW xSC 100 84 [.ref a0] (st) M Q = xW xSC 100 85 [.ref a0] (.ref a0 :: st) M Q) ∧
  (∀ (a0 : Nat) (st : List Value) (M : xM) (Q : Option Value → xM → Prop), xW xSC 100 85 [.ref a0] (.ref 0 :: st) M Q = xW xSC 100 88 [.ref a0] (.ref 9 :: st) M Q) ∧
  (∀ (a0 : Nat) (st : List Value) (M : xM) (Q : Option Value → xM → Prop), xW xSC 100 88 [.ref a0] (.ref 9 :: st) M Q = xW xSC 100 91 [.ref a0] (.int (M 9 0) :: st) M Q) ∧
  (∀ (a0 : Nat) (y0 : Int32) (M : xM) (Q : Option Value → xM → Prop), xW xSC 100 91 [.ref a0] ([.int y0]) M Q = Q (some (.int y0)) M) :=
  ⟨fun a0 st M Q => xw_s rfl rfl,
  fun a0 st M Q => xw_s rfl rfl,
  fun a0 M Q => xw_call rfl rfl rfl,
  fun a0 st M Q => xw_s rfl rfl,
  fun a0 y0 y1 st M Q => xw_br (c0 := y1 = y0) rfl rfl,
  fun a0 st M Q => xw_s rfl rfl,
  fun a0 y0 M Q => xw_ret rfl rfl,
  fun a0 st M Q => xw_s rfl rfl,
  fun a0 st M Q => xw_s rfl rfl,
  fun a0 st M Q => xw_s rfl rfl,
  fun a0 st M Q => xw_s rfl rfl,
  fun a0 st M Q => xw_s rfl rfl,
  fun a0 y0 y1 st M Q => xw_br (c0 := y1 < y0) rfl rfl,
  fun a0 st M Q => xw_s rfl rfl,
  fun a0 st M Q => xw_s rfl rfl,
  fun a0 st M Q => xw_s rfl rfl,
  fun a0 st M Q => xw_s rfl rfl,
  fun a0 st M Q => xw_s rfl rfl,
  fun a0 y0 y1 st M Q => xw_brn (c0 := y0 ≤ y1) (c1 := y1 < y0) rfl rfl (xge _ _),
  fun a0 y0 M Q => xw_ret rfl rfl,
  fun a0 st M Q => xw_s rfl rfl,
  fun a0 st M Q => xw_s rfl rfl,
  fun a0 st M Q => xw_s rfl rfl,
  fun a0 st M Q => xw_s rfl rfl,
  fun a0 st M Q => xw_s rfl rfl,
  fun a0 y0 M Q => xw_call rfl rfl rfl,
  fun a0 st M Q => xw_s rfl rfl,
  fun a0 st M Q => xw_s rfl rfl,
  fun a0 y0 st M Q => xw_s rfl rfl,
  fun a0 st M Q => xw_s rfl rfl,
  fun a0 st M Q => xw_s rfl rfl,
  fun a0 y0 st M Q => xw_s rfl rfl,
  fun a0 st M Q => xw_s rfl rfl,
  fun a0 st M Q => xw_s rfl rfl,
  fun a0 M Q => xw_call rfl rfl rfl,
  fun a0 st M Q => xw_s rfl rfl,
  fun a0 st M Q => xw_s rfl rfl,
  fun a0 M Q => xw_call rfl rfl rfl,
  fun a0 st M Q => xw_s rfl rfl,
  fun a0 st M Q => xw_s rfl rfl,
  fun a0 st M Q => xw_s rfl rfl,
  fun a0 y0 M Q => xw_ret rfl rfl⟩
set_option maxRecDepth 20000 in
theorem h100_43 :
  (∀ (a0 : Nat) (st : List Value) (M : xM) (Q : Option Value → xM → Prop), xW xSC 100 43 [.ref a0] (st) M Q = xW xSC 100 45 [.ref a0] (.int (-2) :: st) M Q) :=
  fun a0 st M Q => xw_s rfl rfl
set_option maxRecDepth 20000 in
theorem j100 :
  (∀ (a0 : Nat) (st : List Value) (M : xM) (Q : Option Value → xM → Prop), xW xSC 100 43 [.ref a0] (st) M Q = xW xSC 100 45 [.ref a0] (.int (-2) :: st) M Q) :=
  fun a0 st M Q => xw_s rfl rfl

set_option maxRecDepth 20000 in
theorem s101 :
  (∀ (a0 : Nat) (a1 : Int32) (a2 : Int32) (st : List Value) (M : xM) (Q : Option Value → xM → Prop), xW xSC 101 0 [.ref a0, .int a1, .int a2] (st) M Q = xW xSC 101 1 [.ref a0, .int a1, .int a2] (.ref a0 :: st) M Q) ∧
  (∀ (a0 : Nat) (a1 : Int32) (a2 : Int32) (st : List Value) (M : xM) (Q : Option Value → xM → Prop), xW xSC 101 1 [.ref a0, .int a1, .int a2] (.ref 0 :: st) M Q = xW xSC 101 4 [.ref a0, .int a1, .int a2] (.ref 9 :: st) M Q) ∧
  (∀ (a0 : Nat) (a1 : Int32) (a2 : Int32) (st : List Value) (M : xM) (Q : Option Value → xM → Prop), xW xSC 101 4 [.ref a0, .int a1, .int a2] (st) M Q = xW xSC 101 5 [.ref a0, .int a1, .int a2] (.int a1 :: st) M Q) ∧
  (∀ (a0 : Nat) (a1 : Int32) (a2 : Int32) (y0 : Int32) (M : xM) (Q : Option Value → xM → Prop), xW xSC 101 5 [.ref a0, .int a1, .int a2] (.int y0 :: .ref 9 :: []) M Q = xW xSC 24 0 [.ref 9, .int y0] [] M (fun v M' => xW xSC 101 8 [.ref a0, .int a1, .int a2] (xpush v []) M' Q)) ∧
  (∀ (a0 : Nat) (a1 : Int32) (a2 : Int32) (y0 : Int32) (st : List Value) (M : xM) (Q : Option Value → xM → Prop), xW xSC 101 8 [.ref a0, .int a1, .int a2] (.int y0 :: st) M Q = if y0 = nI 0 then xW xSC 101 21 [.ref a0, .int a1, .int a2] (st) M Q else xW xSC 101 11 [.ref a0, .int a1, .int a2] (st) M Q) ∧
  (∀ (a0 : Nat) (a1 : Int32) (a2 : Int32) (st : List Value) (M : xM) (Q : Option Value → xM → Prop), xW xSC 101 11 [.ref a0, .int a1, .int a2] (st) M Q = xW xSC 101 12 [.ref a0, .int a1, .int a2] (.int a2 :: st) M Q) ∧
  (∀ (a0 : Nat) (a1 : Int32) (a2 : Int32) (st : List Value) (M : xM) (Q : Option Value → xM → Prop), xW xSC 101 12 [.ref a0, .int a1, .int a2] (st) M Q = xW xSC 101 13 [.ref a0, .int a1, .int a2] (.int (nI 0) :: st) M Q) ∧
  (∀ (a0 : Nat) (a1 : Int32) (a2 : Int32) (st : List Value) (M : xM) (Q : Option Value → xM → Prop), xW xSC 101 13 [.ref a0, .int a1, .int a2] (st) M Q = xW xSC 101 15 [.ref a0, .int a1, .int a2] (.int (nI 7) :: st) M Q) ∧
  (∀ (a0 : Nat) (a1 : Int32) (a2 : Int32) (y0 : Int32) (y1 : Int32) (y2 : Int32) (M : xM) (Q : Option Value → xM → Prop), xW xSC 101 15 [.ref a0, .int a1, .int a2] (.int y0 :: .int y1 :: .int y2 :: []) M Q = xW xSC 132 0 [.int y2, .int y1, .int y0] [] M (fun v M' => xW xSC 101 18 [.ref a0, .int a1, .int a2] (xpush v []) M' Q)) ∧
  (∀ (a0 : Nat) (a1 : Int32) (a2 : Int32) (y0 : Int32) (st : List Value) (M : xM) (Q : Option Value → xM → Prop), xW xSC 101 18 [.ref a0, .int a1, .int a2] (.int y0 :: st) M Q = if y0 = nI 0 then xW xSC 101 21 [.ref a0, .int a1, .int a2] (st) M Q else xW xSC 101 23 [.ref a0, .int a1, .int a2] (st) M Q) ∧
  (∀ (a0 : Nat) (a1 : Int32) (a2 : Int32) (y0 : Int32) (M : xM) (Q : Option Value → xM → Prop), xW xSC 101 22 [.ref a0, .int a1, .int a2] ([.int y0]) M Q = Q (some (.int y0)) M) ∧
  (∀ (a0 : Nat) (a1 : Int32) (a2 : Int32) (st : List Value) (M : xM) (Q : Option Value → xM → Prop), xW xSC 101 23 [.ref a0, .int a1, .int a2] (st) M Q = xW xSC 101 24 [.ref a0, .int a1, .int a2] (.int a2 :: st) M Q) ∧
  (∀ (a0 : Nat) (a1 : Int32) (a2 : Int32) (st : List Value) (M : xM) (Q : Option Value → xM → Prop), xW xSC 101 24 [.ref a0, .int a1, .int a2] (st) M Q = xW xSC 101 26 [.ref a0, .int a1, .int a2] (.int (nI 6) :: st) M Q) ∧
  (∀ (a0 : Nat) (a1 : Int32) (a2 : Int32) (y0 : Int32) (y1 : Int32) (st : List Value) (M : xM) (Q : Option Value → xM → Prop), xW xSC 101 26 [.ref a0, .int a1, .int a2] (.int y0 :: .int y1 :: st) M Q = if y1 < y0 then xW xSC 101 42 [.ref a0, .int a1, .int a2] (st) M Q else xW xSC 101 29 [.ref a0, .int a1, .int a2] (st) M Q) ∧
  (∀ (a0 : Nat) (a1 : Int32) (a2 : Int32) (st : List Value) (M : xM) (Q : Option Value → xM → Prop), xW xSC 101 29 [.ref a0, .int a1, .int a2] (st) M Q = xW xSC 101 30 [.ref a0, .int a1, .int a2] (.ref a0 :: st) M Q) ∧
  (∀ (a0 : Nat) (a1 : Int32) (a2 : Int32) (st : List Value) (M : xM) (Q : Option Value → xM → Prop), xW xSC 101 30 [.ref a0, .int a1, .int a2] (.ref 0 :: st) M Q = xW xSC 101 33 [.ref a0, .int a1, .int a2] (.ref 9 :: st) M Q) ∧
  (∀ (a0 : Nat) (a1 : Int32) (a2 : Int32) (st : List Value) (M : xM) (Q : Option Value → xM → Prop), xW xSC 101 33 [.ref a0, .int a1, .int a2] (st) M Q = xW xSC 101 34 [.ref a0, .int a1, .int a2] (.int a1 :: st) M Q) ∧
  (∀ (a0 : Nat) (a1 : Int32) (a2 : Int32) (st : List Value) (M : xM) (Q : Option Value → xM → Prop), xW xSC 101 34 [.ref a0, .int a1, .int a2] (st) M Q = xW xSC 101 35 [.ref a0, .int a1, .int a2] (.int a2 :: st) M Q) ∧
  (∀ (a0 : Nat) (a1 : Int32) (a2 : Int32) (st : List Value) (M : xM) (Q : Option Value → xM → Prop), xW xSC 101 35 [.ref a0, .int a1, .int a2] (st) M Q = xW xSC 101 37 [.ref a0, .int a1, .int a2] (.int (nI 6) :: st) M Q) ∧
  (∀ (a0 : Nat) (a1 : Int32) (a2 : Int32) (y0 : Int32) (y1 : Int32) (st : List Value) (M : xM) (Q : Option Value → xM → Prop), xW xSC 101 37 [.ref a0, .int a1, .int a2] (.int y0 :: .int y1 :: st) M Q = xW xSC 101 38 [.ref a0, .int a1, .int a2] (.int (y1 - y0) :: st) M Q) ∧
  (∀ (a0 : Nat) (a1 : Int32) (a2 : Int32) (y0 : Int32) (y1 : Int32) (M : xM) (Q : Option Value → xM → Prop), xW xSC 101 38 [.ref a0, .int a1, .int a2] (.int y0 :: .int y1 :: .ref 9 :: []) M Q = xW xSC 37 0 [.ref 9, .int y1, .int y0] [] M (fun v M' => xW xSC 101 41 [.ref a0, .int a1, .int a2] (xpush v []) M' Q)) ∧
  (∀ (a0 : Nat) (a1 : Int32) (a2 : Int32) (y0 : Int32) (M : xM) (Q : Option Value → xM → Prop), xW xSC 101 41 [.ref a0, .int a1, .int a2] ([.int y0]) M Q = Q (some (.int y0)) M) ∧
  (∀ (a0 : Nat) (a1 : Int32) (a2 : Int32) (st : List Value) (M : xM) (Q : Option Value → xM → Prop), xW xSC 101 42 [.ref a0, .int a1, .int a2] (st) M Q = xW xSC 101 43 [.ref a0, .int a1, .int a2] (.ref a0 :: st) M Q) ∧
  (∀ (a0 : Nat) (a1 : Int32) (a2 : Int32) (st : List Value) (M : xM) (Q : Option Value → xM → Prop), xW xSC 101 43 [.ref a0, .int a1, .int a2] (.ref 0 :: st) M Q = xW xSC 101 46 [.ref a0, .int a1, .int a2] (.ref 9 :: st) M Q) ∧
  (∀ (a0 : Nat) (a1 : Int32) (a2 : Int32) (st : List Value) (M : xM) (Q : Option Value → xM → Prop), xW xSC 101 46 [.ref a0, .int a1, .int a2] (st) M Q = xW xSC 101 47 [.ref a0, .int a1, .int a2] (.int a1 :: st) M Q) ∧
  (∀ (a0 : Nat) (a1 : Int32) (a2 : Int32) (st : List Value) (M : xM) (Q : Option Value → xM → Prop), xW xSC 101 47 [.ref a0, .int a1, .int a2] (st) M Q = xW xSC 101 48 [.ref a0, .int a1, .int a2] (.int a2 :: st) M Q) ∧
  (∀ (a0 : Nat) (a1 : Int32) (a2 : Int32) (y0 : Int32) (y1 : Int32) (M : xM) (Q : Option Value → xM → Prop), xW xSC 101 48 [.ref a0, .int a1, .int a2] (.int y0 :: .int y1 :: .ref 9 :: []) M Q = xW xSC 28 0 [.ref 9, .int y1, .int y0] [] M (fun v M' => xW xSC 101 51 [.ref a0, .int a1, .int a2] (xpush v []) M' Q)) ∧
  (∀ (a0 : Nat) (a1 : Int32) (a2 : Int32) (y0 : Int32) (M : xM) (Q : Option Value → xM → Prop), xW xSC 101 51 [.ref a0, .int a1, .int a2] ([.int y0]) M Q = Q (some (.int y0)) M) :=
  ⟨fun a0 a1 a2 st M Q => xw_s rfl rfl,
  fun a0 a1 a2 st M Q => xw_s rfl rfl,
  fun a0 a1 a2 st M Q => xw_s rfl rfl,
  fun a0 a1 a2 y0 M Q => xw_call rfl rfl rfl,
  fun a0 a1 a2 y0 st M Q => xw_br (c0 := y0 = nI 0) rfl rfl,
  fun a0 a1 a2 st M Q => xw_s rfl rfl,
  fun a0 a1 a2 st M Q => xw_s rfl rfl,
  fun a0 a1 a2 st M Q => xw_s rfl rfl,
  fun a0 a1 a2 y0 y1 y2 M Q => xw_call rfl rfl rfl,
  fun a0 a1 a2 y0 st M Q => xw_brn (c0 := y0 ≠ nI 0) (c1 := y0 = nI 0) rfl rfl (Iff.rfl),
  fun a0 a1 a2 y0 M Q => xw_ret rfl rfl,
  fun a0 a1 a2 st M Q => xw_s rfl rfl,
  fun a0 a1 a2 st M Q => xw_s rfl rfl,
  fun a0 a1 a2 y0 y1 st M Q => xw_br (c0 := y1 < y0) rfl rfl,
  fun a0 a1 a2 st M Q => xw_s rfl rfl,
  fun a0 a1 a2 st M Q => xw_s rfl rfl,
  fun a0 a1 a2 st M Q => xw_s rfl rfl,
  fun a0 a1 a2 st M Q => xw_s rfl rfl,
  fun a0 a1 a2 st M Q => xw_s rfl rfl,
  fun a0 a1 a2 y0 y1 st M Q => xw_s rfl rfl,
  fun a0 a1 a2 y0 y1 M Q => xw_call rfl rfl rfl,
  fun a0 a1 a2 y0 M Q => xw_ret rfl rfl,
  fun a0 a1 a2 st M Q => xw_s rfl rfl,
  fun a0 a1 a2 st M Q => xw_s rfl rfl,
  fun a0 a1 a2 st M Q => xw_s rfl rfl,
  fun a0 a1 a2 st M Q => xw_s rfl rfl,
  fun a0 a1 a2 y0 y1 M Q => xw_call rfl rfl rfl,
  fun a0 a1 a2 y0 M Q => xw_ret rfl rfl⟩
set_option maxRecDepth 20000 in
theorem h101_21 :
  (∀ (a0 : Nat) (a1 : Int32) (a2 : Int32) (st : List Value) (M : xM) (Q : Option Value → xM → Prop), xW xSC 101 21 [.ref a0, .int a1, .int a2] (st) M Q = xW xSC 101 22 [.ref a0, .int a1, .int a2] (.int (-1) :: st) M Q) :=
  fun a0 a1 a2 st M Q => xw_s rfl rfl
set_option maxRecDepth 20000 in
theorem j101 :
  (∀ (a0 : Nat) (a1 : Int32) (a2 : Int32) (st : List Value) (M : xM) (Q : Option Value → xM → Prop), xW xSC 101 21 [.ref a0, .int a1, .int a2] (st) M Q = xW xSC 101 22 [.ref a0, .int a1, .int a2] (.int (-1) :: st) M Q) :=
  fun a0 a1 a2 st M Q => xw_s rfl rfl

set_option maxRecDepth 20000 in
theorem s102 :
  (∀ (a0 : Nat) (a1 : Int32) (a2 : Int32) (a3 : Value) (st : List Value) (M : xM) (Q : Option Value → xM → Prop), xW xSC 102 0 [.ref a0, .int a1, .int a2, a3] (st) M Q = xW xSC 102 1 [.ref a0, .int a1, .int a2, a3] (.ref a0 :: st) M Q) ∧
  (∀ (a0 : Nat) (a1 : Int32) (a2 : Int32) (a3 : Value) (st : List Value) (M : xM) (Q : Option Value → xM → Prop), xW xSC 102 1 [.ref a0, .int a1, .int a2, a3] (.ref 0 :: st) M Q = xW xSC 102 4 [.ref a0, .int a1, .int a2, a3] (.ref 9 :: st) M Q) ∧
  (∀ (a0 : Nat) (a1 : Int32) (a2 : Int32) (a3 : Value) (st : List Value) (M : xM) (Q : Option Value → xM → Prop), xW xSC 102 4 [.ref a0, .int a1, .int a2, a3] (st) M Q = xW xSC 102 5 [.ref a0, .int a1, .int a2, a3] (.int a1 :: st) M Q) ∧
  (∀ (a0 : Nat) (a1 : Int32) (a2 : Int32) (a3 : Value) (y0 : Int32) (M : xM) (Q : Option Value → xM → Prop), xW xSC 102 5 [.ref a0, .int a1, .int a2, a3] (.int y0 :: .ref 9 :: []) M Q = xW xSC 25 0 [.ref 9, .int y0] [] M (fun v M' => xW xSC 102 8 [.ref a0, .int a1, .int a2, a3] (xpush v []) M' Q)) ∧
  (∀ (a0 : Nat) (a1 : Int32) (a2 : Int32) (a3 : Value) (y0 : Int32) (st : List Value) (M : xM) (Q : Option Value → xM → Prop), xW xSC 102 8 [.ref a0, .int a1, .int a2, a3] (.int y0 :: st) M Q = if y0 = nI 0 then xW xSC 102 20 [.ref a0, .int a1, .int a2, a3] (st) M Q else xW xSC 102 11 [.ref a0, .int a1, .int a2, a3] (st) M Q) ∧
  (∀ (a0 : Nat) (a1 : Int32) (a2 : Int32) (a3 : Value) (st : List Value) (M : xM) (Q : Option Value → xM → Prop), xW xSC 102 11 [.ref a0, .int a1, .int a2, a3] (st) M Q = xW xSC 102 12 [.ref a0, .int a1, .int a2, a3] (.int a2 :: st) M Q) ∧
  (∀ (a0 : Nat) (a1 : Int32) (a2 : Int32) (a3 : Value) (st : List Value) (M : xM) (Q : Option Value → xM → Prop), xW xSC 102 12 [.ref a0, .int a1, .int a2, a3] (st) M Q = xW xSC 102 13 [.ref a0, .int a1, .int a2, a3] (.int (nI 0) :: st) M Q) ∧
  (∀ (a0 : Nat) (a1 : Int32) (a2 : Int32) (a3 : Value) (st : List Value) (M : xM) (Q : Option Value → xM → Prop), xW xSC 102 13 [.ref a0, .int a1, .int a2, a3] (st) M Q = xW xSC 102 14 [.ref a0, .int a1, .int a2, a3] (.int (nI 2) :: st) M Q) ∧
  (∀ (a0 : Nat) (a1 : Int32) (a2 : Int32) (a3 : Value) (y0 : Int32) (y1 : Int32) (y2 : Int32) (M : xM) (Q : Option Value → xM → Prop), xW xSC 102 14 [.ref a0, .int a1, .int a2, a3] (.int y0 :: .int y1 :: .int y2 :: []) M Q = xW xSC 132 0 [.int y2, .int y1, .int y0] [] M (fun v M' => xW xSC 102 17 [.ref a0, .int a1, .int a2, a3] (xpush v []) M' Q)) ∧
  (∀ (a0 : Nat) (a1 : Int32) (a2 : Int32) (a3 : Value) (y0 : Int32) (st : List Value) (M : xM) (Q : Option Value → xM → Prop), xW xSC 102 17 [.ref a0, .int a1, .int a2, a3] (.int y0 :: st) M Q = if y0 = nI 0 then xW xSC 102 20 [.ref a0, .int a1, .int a2, a3] (st) M Q else xW xSC 102 22 [.ref a0, .int a1, .int a2, a3] (st) M Q) ∧
  (∀ (a0 : Nat) (a1 : Int32) (a2 : Int32) (a3 : Value) (y0 : Int32) (M : xM) (Q : Option Value → xM → Prop), xW xSC 102 21 [.ref a0, .int a1, .int a2, a3] ([.int y0]) M Q = Q (some (.int y0)) M) ∧
  (∀ (a0 : Nat) (a1 : Int32) (a2 : Int32) (a3 : Value) (st : List Value) (M : xM) (Q : Option Value → xM → Prop), xW xSC 102 22 [.ref a0, .int a1, .int a2, a3] (st) M Q = xW xSC 102 23 [.ref a0, .int a1, .int a2, a3] (.ref a0 :: st) M Q) ∧
  (∀ (a0 : Nat) (a1 : Int32) (a2 : Int32) (a3 : Value) (st : List Value) (M : xM) (Q : Option Value → xM → Prop), xW xSC 102 23 [.ref a0, .int a1, .int a2, a3] (.ref 0 :: st) M Q = xW xSC 102 26 [.ref a0, .int a1, .int a2, a3] (.ref 9 :: st) M Q) ∧
  (∀ (a0 : Nat) (a1 : Int32) (a2 : Int32) (a3 : Value) (st : List Value) (M : xM) (Q : Option Value → xM → Prop), xW xSC 102 26 [.ref a0, .int a1, .int a2, a3] (st) M Q = xW xSC 102 27 [.ref a0, .int a1, .int a2, a3] (.int a1 :: st) M Q) ∧
  (∀ (a0 : Nat) (a1 : Int32) (a2 : Int32) (a3 : Value) (st : List Value) (M : xM) (Q : Option Value → xM → Prop), xW xSC 102 27 [.ref a0, .int a1, .int a2, a3] (st) M Q = xW xSC 102 28 [.ref a0, .int a1, .int a2, a3] (.int a2 :: st) M Q) ∧
  (∀ (a0 : Nat) (a1 : Int32) (a2 : Int32) (a3 : Value) (y0 : Int32) (y1 : Int32) (M : xM) (Q : Option Value → xM → Prop), xW xSC 102 28 [.ref a0, .int a1, .int a2, a3] (.int y0 :: .int y1 :: .ref 9 :: []) M Q = xW xSC 30 0 [.ref 9, .int y1, .int y0] [] M (fun v M' => xW xSC 102 31 [.ref a0, .int a1, .int a2, a3] (xpush v []) M' Q)) ∧
  (∀ (a0 : Nat) (a1 : Int32) (a2 : Int32) (a3 : Value) (y0 : Int32) (st : List Value) (M : xM) (Q : Option Value → xM → Prop), xW xSC 102 31 [.ref a0, .int a1, .int a2, a3] (.int y0 :: st) M Q = xW xSC 102 32 [.ref a0, .int a1, .int a2, .int y0] (st) M Q) ∧
  (∀ (a0 : Nat) (a1 : Int32) (a2 : Int32) (a3 : Int32) (st : List Value) (M : xM) (Q : Option Value → xM → Prop), xW xSC 102 32 [.ref a0, .int a1, .int a2, .int a3] (st) M Q = xW xSC 102 33 [.ref a0, .int a1, .int a2, .int a3] (.int a2 :: st) M Q) ∧
  (∀ (a0 : Nat) (a1 : Int32) (a2 : Int32) (a3 : Int32) (st : List Value) (M : xM) (Q : Option Value → xM → Prop), xW xSC 102 33 [.ref a0, .int a1, .int a2, .int a3] (st) M Q = xW xSC 102 34 [.ref a0, .int a1, .int a2, .int a3] (.int (nI 2) :: st) M Q) ∧
  (∀ (a0 : Nat) (a1 : Int32) (a2 : Int32) (a3 : Int32) (y0 : Int32) (y1 : Int32) (st : List Value) (M : xM) (Q : Option Value → xM → Prop), xW xSC 102 34 [.ref a0, .int a1, .int a2, .int a3] (.int y0 :: .int y1 :: st) M Q = if y1 = y0 then xW xSC 102 37 [.ref a0, .int a1, .int a2, .int a3] (st) M Q else xW xSC 102 47 [.ref a0, .int a1, .int a2, .int a3] (st) M Q) ∧
  (∀ (a0 : Nat) (a1 : Int32) (a2 : Int32) (a3 : Int32) (st : List Value) (M : xM) (Q : Option Value → xM → Prop), xW xSC 102 37 [.ref a0, .int a1, .int a2, .int a3] (st) M Q = xW xSC 102 38 [.ref a0, .int a1, .int a2, .int a3] (.int a3 :: st) M Q) ∧
  (∀ (a0 : Nat) (a1 : Int32) (a2 : Int32) (a3 : Int32) (st : List Value) (M : xM) (Q : Option Value → xM → Prop), xW xSC 102 38 [.ref a0, .int a1, .int a2, .int a3] (st) M Q = xW xSC 102 39 [.ref a0, .int a1, .int a2, .int a3] (.int (nI 3) :: st) M Q) ∧
  (∀ (a0 : Nat) (a1 : Int32) (a2 : Int32) (a3 : Int32) (y0 : Int32) (y1 : Int32) (st : List Value) (M : xM) (Q : Option Value → xM → Prop), xW xSC 102 39 [.ref a0, .int a1, .int a2, .int a3] (.int y0 :: .int y1 :: st) M Q = if y1 = y0 then xW xSC 102 42 [.ref a0, .int a1, .int a2, .int a3] (st) M Q else xW xSC 102 47 [.ref a0, .int a1, .int a2, .int a3] (st) M Q) ∧
  (∀ (a0 : Nat) (a1 : Int32) (a2 : Int32) (a3 : Int32) (st : List Value) (M : xM) (Q : Option Value → xM → Prop), xW xSC 102 42 [.ref a0, .int a1, .int a2, .int a3] (st) M Q = xW xSC 102 44 [.ref a0, .int a1, .int a2, .int a3] (.int (-4) :: st) M Q) ∧
  (∀ (a0 : Nat) (a1 : Int32) (a2 : Int32) (a3 : Int32) (st : List Value) (M : xM) (Q : Option Value → xM → Prop), xW xSC 102 44 [.ref a0, .int a1, .int a2, .int a3] (st) M Q = xW xSC 102 48 [.ref a0, .int a1, .int a2, .int a3] (st) M Q) :=
  ⟨fun a0 a1 a2 a3 st M Q => xw_s rfl rfl,
  fun a0 a1 a2 a3 st M Q => xw_s rfl rfl,
  fun a0 a1 a2 a3 st M Q => xw_s rfl rfl,
  fun a0 a1 a2 a3 y0 M Q => xw_call rfl rfl rfl,
  fun a0 a1 a2 a3 y0 st M Q => xw_br (c0 := y0 = nI 0) rfl rfl,
  fun a0 a1 a2 a3 st M Q => xw_s rfl rfl,
  fun a0 a1 a2 a3 st M Q => xw_s rfl rfl,
  fun a0 a1 a2 a3 st M Q => xw_s rfl rfl,
  fun a0 a1 a2 a3 y0 y1 y2 M Q => xw_call rfl rfl rfl,
  fun a0 a1 a2 a3 y0 st M Q => xw_brn (c0 := y0 ≠ nI 0) (c1 := y0 = nI 0) rfl rfl (Iff.rfl),
  fun a0 a1 a2 a3 y0 M Q => xw_ret rfl rfl,
  fun a0 a1 a2 a3 st M Q => xw_s rfl rfl,
  fun a0 a1 a2 a3 st M Q => xw_s rfl rfl,
  fun a0 a1 a2 a3 st M Q => xw_s rfl rfl,
  fun a0 a1 a2 a3 st M Q => xw_s rfl rfl,
  fun a0 a1 a2 a3 y0 y1 M Q => xw_call rfl rfl rfl,
  fun a0 a1 a2 a3 y0 st M Q => xw_s rfl rfl,
  fun a0 a1 a2 a3 st M Q => xw_s rfl rfl,
  fun a0 a1 a2 a3 st M Q => xw_s rfl rfl,
  fun a0 a1 a2 a3 y0 y1 st M Q => xw_brn (c0 := y1 ≠ y0) (c1 := y1 = y0) rfl rfl (Iff.rfl),
  fun a0 a1 a2 a3 st M Q => xw_s rfl rfl,
  fun a0 a1 a2 a3 st M Q => xw_s rfl rfl,
  fun a0 a1 a2 a3 y0 y1 st M Q => xw_brn (c0 := y1 ≠ y0) (c1 := y1 = y0) rfl rfl (Iff.rfl),
  fun a0 a1 a2 a3 st M Q => xw_s rfl rfl,
  fun a0 a1 a2 a3 st M Q => xw_s rfl rfl⟩
set_option maxRecDepth 20000 in
theorem h102_20 :
  (∀ (a0 : Nat) (a1 : Int32) (a2 : Int32) (a3 : Value) (st : List Value) (M : xM) (Q : Option Value → xM → Prop), xW xSC 102 20 [.ref a0, .int a1, .int a2, a3] (st) M Q = xW xSC 102 21 [.ref a0, .int a1, .int a2, a3] (.int (-1) :: st) M Q) :=
  fun a0 a1 a2 a3 st M Q => xw_s rfl rfl
set_option maxRecDepth 20000 in
theorem h102_47 :
  (∀ (a0 : Nat) (a1 : Int32) (a2 : Int32) (a3 : Int32) (st : List Value) (M : xM) (Q : Option Value → xM → Prop), xW xSC 102 47 [.ref a0, .int a1, .int a2, .int a3] (st) M Q = xW xSC 102 48 [.ref a0, .int a1, .int a2, .int a3] (.int a3 :: st) M Q) :=
  fun a0 a1 a2 a3 st M Q => xw_s rfl rfl
set_option maxRecDepth 20000 in
theorem h102_48 :
  (∀ (a0 : Nat) (a1 : Int32) (a2 : Int32) (a3 : Int32) (y0 : Int32) (M : xM) (Q : Option Value → xM → Prop), xW xSC 102 48 [.ref a0, .int a1, .int a2, .int a3] ([.int y0]) M Q = Q (some (.int y0)) M) :=
  fun a0 a1 a2 a3 y0 M Q => xw_ret rfl rfl
set_option maxRecDepth 20000 in
theorem j102 :
  (∀ (a0 : Nat) (a1 : Int32) (a2 : Int32) (a3 : Value) (st : List Value) (M : xM) (Q : Option Value → xM → Prop), xW xSC 102 20 [.ref a0, .int a1, .int a2, a3] (st) M Q = xW xSC 102 21 [.ref a0, .int a1, .int a2, a3] (.int (-1) :: st) M Q) ∧
  (∀ (a0 : Nat) (a1 : Int32) (a2 : Int32) (a3 : Int32) (st : List Value) (M : xM) (Q : Option Value → xM → Prop), xW xSC 102 47 [.ref a0, .int a1, .int a2, .int a3] (st) M Q = xW xSC 102 48 [.ref a0, .int a1, .int a2, .int a3] (.int a3 :: st) M Q) ∧
  (∀ (a0 : Nat) (a1 : Int32) (a2 : Int32) (a3 : Int32) (y0 : Int32) (M : xM) (Q : Option Value → xM → Prop), xW xSC 102 48 [.ref a0, .int a1, .int a2, .int a3] ([.int y0]) M Q = Q (some (.int y0)) M) :=
  ⟨fun a0 a1 a2 a3 st M Q => xw_s rfl rfl,
  fun a0 a1 a2 a3 st M Q => xw_s rfl rfl,
  fun a0 a1 a2 a3 y0 M Q => xw_ret rfl rfl⟩

set_option maxRecDepth 20000 in
theorem s103 :
  (∀ (a0 : Nat) (a1 : Int32) (a2 : Int32) (a3 : Int32) (st : List Value) (M : xM) (Q : Option Value → xM → Prop), xW xSC 103 0 [.ref a0, .int a1, .int a2, .int a3] (st) M Q = xW xSC 103 1 [.ref a0, .int a1, .int a2, .int a3] (.ref a0 :: st) M Q) ∧
  (∀ (a0 : Nat) (a1 : Int32) (a2 : Int32) (a3 : Int32) (st : List Value) (M : xM) (Q : Option Value → xM → Prop), xW xSC 103 1 [.ref a0, .int a1, .int a2, .int a3] (st) M Q = xW xSC 103 2 [.ref a0, .int a1, .int a2, .int a3] (.int a1 :: st) M Q) ∧
  (∀ (a0 : Nat) (a1 : Int32) (a2 : Int32) (a3 : Int32) (st : List Value) (M : xM) (Q : Option Value → xM → Prop), xW xSC 103 2 [.ref a0, .int a1, .int a2, .int a3] (st) M Q = xW xSC 103 3 [.ref a0, .int a1, .int a2, .int a3] (.int a2 :: st) M Q) ∧
  (∀ (a0 : Nat) (a1 : Int32) (a2 : Int32) (a3 : Int32) (st : List Value) (M : xM) (Q : Option Value → xM → Prop), xW xSC 103 3 [.ref a0, .int a1, .int a2, .int a3] (st) M Q = xW xSC 103 4 [.ref a0, .int a1, .int a2, .int a3] (.int a3 :: st) M Q) ∧
  (∀ (a0 : Nat) (a1 : Int32) (a2 : Int32) (a3 : Int32) (y0 : Int32) (y1 : Int32) (y2 : Int32) (M : xM) (Q : Option Value → xM → Prop), xW xSC 103 4 [.ref a0, .int a1, .int a2, .int a3] (.int y0 :: .int y1 :: .int y2 :: .ref 0 :: []) M Q = xW xSC 134 0 [.ref 0, .int y2, .int y1, .int y0] [] M (fun v M' => xW xSC 103 7 [.ref a0, .int a1, .int a2, .int a3] (xpush v []) M' Q)) ∧
  (∀ (a0 : Nat) (a1 : Int32) (a2 : Int32) (a3 : Int32) (y0 : Int32) (st : List Value) (M : xM) (Q : Option Value → xM → Prop), xW xSC 103 7 [.ref a0, .int a1, .int a2, .int a3] (.int y0 :: st) M Q = if y0 = nI 0 then xW xSC 103 26 [.ref a0, .int a1, .int a2, .int a3] (st) M Q else xW xSC 103 10 [.ref a0, .int a1, .int a2, .int a3] (st) M Q) ∧
  (∀ (a0 : Nat) (a1 : Int32) (a2 : Int32) (a3 : Int32) (st : List Value) (M : xM) (Q : Option Value → xM → Prop), xW xSC 103 10 [.ref a0, .int a1, .int a2, .int a3] (st) M Q = xW xSC 103 11 [.ref a0, .int a1, .int a2, .int a3] (.ref a0 :: st) M Q) ∧
  (∀ (a0 : Nat) (a1 : Int32) (a2 : Int32) (a3 : Int32) (st : List Value) (M : xM) (Q : Option Value → xM → Prop), xW xSC 103 11 [.ref a0, .int a1, .int a2, .int a3] (.ref 0 :: st) M Q = xW xSC 103 14 [.ref a0, .int a1, .int a2, .int a3] (.ref 9 :: st) M Q) ∧
  (∀ (a0 : Nat) (a1 : Int32) (a2 : Int32) (a3 : Int32) (st : List Value) (M : xM) (Q : Option Value → xM → Prop), xW xSC 103 14 [.ref a0, .int a1, .int a2, .int a3] (st) M Q = xW xSC 103 15 [.ref a0, .int a1, .int a2, .int a3] (.int a1 :: st) M Q) ∧
  (∀ (a0 : Nat) (a1 : Int32) (a2 : Int32) (a3 : Int32) (st : List Value) (M : xM) (Q : Option Value → xM → Prop), xW xSC 103 15 [.ref a0, .int a1, .int a2, .int a3] (st) M Q = xW xSC 103 16 [.ref a0, .int a1, .int a2, .int a3] (.int (nI 2) :: st) M Q) ∧
  (∀ (a0 : Nat) (a1 : Int32) (a2 : Int32) (a3 : Int32) (st : List Value) (M : xM) (Q : Option Value → xM → Prop), xW xSC 103 16 [.ref a0, .int a1, .int a2, .int a3] (st) M Q = xW xSC 103 17 [.ref a0, .int a1, .int a2, .int a3] (.int a2 :: st) M Q) ∧
  (∀ (a0 : Nat) (a1 : Int32) (a2 : Int32) (a3 : Int32) (y0 : Int32) (y1 : Int32) (st : List Value) (M : xM) (Q : Option Value → xM → Prop), xW xSC 103 17 [.ref a0, .int a1, .int a2, .int a3] (.int y0 :: .int y1 :: st) M Q = xW xSC 103 18 [.ref a0, .int a1, .int a2, .int a3] (.int (y1 * y0) :: st) M Q) ∧
  (∀ (a0 : Nat) (a1 : Int32) (a2 : Int32) (a3 : Int32) (st : List Value) (M : xM) (Q : Option Value → xM → Prop), xW xSC 103 18 [.ref a0, .int a1, .int a2, .int a3] (st) M Q = xW xSC 103 19 [.ref a0, .int a1, .int a2, .int a3] (.int a3 :: st) M Q) ∧
  (∀ (a0 : Nat) (a1 : Int32) (a2 : Int32) (a3 : Int32) (y0 : Int32) (y1 : Int32) (st : List Value) (M : xM) (Q : Option Value → xM → Prop), xW xSC 103 19 [.ref a0, .int a1, .int a2, .int a3] (.int y0 :: .int y1 :: st) M Q = xW xSC 103 20 [.ref a0, .int a1, .int a2, .int a3] (.int (y1 + y0) :: st) M Q) ∧
  (∀ (a0 : Nat) (a1 : Int32) (a2 : Int32) (a3 : Int32) (y0 : Int32) (y1 : Int32) (M : xM) (Q : Option Value → xM → Prop), xW xSC 103 20 [.ref a0, .int a1, .int a2, .int a3] (.int y0 :: .int y1 :: .ref 9 :: []) M Q = xW xSC 32 0 [.ref 9, .int y1, .int y0] [] M (fun v M' => xW xSC 103 23 [.ref a0, .int a1, .int a2, .int a3] (xpush v []) M' Q)) ∧
  (∀ (a0 : Nat) (a1 : Int32) (a2 : Int32) (a3 : Int32) (st : List Value) (M : xM) (Q : Option Value → xM → Prop), xW xSC 103 23 [.ref a0, .int a1, .int a2, .int a3] (st) M Q = xW xSC 103 27 [.ref a0, .int a1, .int a2, .int a3] (st) M Q) ∧
  (∀ (a0 : Nat) (a1 : Int32) (a2 : Int32) (a3 : Int32) (st : List Value) (M : xM) (Q : Option Value → xM → Prop), xW xSC 103 26 [.ref a0, .int a1, .int a2, .int a3] (st) M Q = xW xSC 103 27 [.ref a0, .int a1, .int a2, .int a3] (.int (-1) :: st) M Q) :=
  ⟨fun a0 a1 a2 a3 st M Q => xw_s rfl rfl,
  fun a0 a1 a2 a3 st M Q => xw_s rfl rfl,
  fun a0 a1 a2 a3 st M Q => xw_s rfl rfl,
  fun a0 a1 a2 a3 st M Q => xw_s rfl rfl,
  fun a0 a1 a2 a3 y0 y1 y2 M Q => xw_call rfl rfl rfl,
  fun a0 a1 a2 a3 y0 st M Q => xw_br (c0 := y0 = nI 0) rfl rfl,
  fun a0 a1 a2 a3 st M Q => xw_s rfl rfl,
  fun a0 a1 a2 a3 st M Q => xw_s rfl rfl,
  fun a0 a1 a2 a3 st M Q => xw_s rfl rfl,
  fun a0 a1 a2 a3 st M Q => xw_s rfl rfl,
  fun a0 a1 a2 a3 st M Q => xw_s rfl rfl,
  fun a0 a1 a2 a3 y0 y1 st M Q => xw_s rfl rfl,
  fun a0 a1 a2 a3 st M Q => xw_s rfl rfl,
  fun a0 a1 a2 a3 y0 y1 st M Q => xw_s rfl rfl,
  fun a0 a1 a2 a3 y0 y1 M Q => xw_call rfl rfl rfl,
  fun a0 a1 a2 a3 st M Q => xw_s rfl rfl,
  fun a0 a1 a2 a3 st M Q => xw_s rfl rfl⟩
set_option maxRecDepth 20000 in
theorem h103_27 :
  (∀ (a0 : Nat) (a1 : Int32) (a2 : Int32) (a3 : Int32) (y0 : Int32) (M : xM) (Q : Option Value → xM → Prop), xW xSC 103 27 [.ref a0, .int a1, .int a2, .int a3] ([.int y0]) M Q = Q (some (.int y0)) M) :=
  fun a0 a1 a2 a3 y0 M Q => xw_ret rfl rfl
set_option maxRecDepth 20000 in
theorem j103 :
  (∀ (a0 : Nat) (a1 : Int32) (a2 : Int32) (a3 : Int32) (y0 : Int32) (M : xM) (Q : Option Value → xM → Prop), xW xSC 103 27 [.ref a0, .int a1, .int a2, .int a3] ([.int y0]) M Q = Q (some (.int y0)) M) :=
  fun a0 a1 a2 a3 y0 M Q => xw_ret rfl rfl

set_option maxRecDepth 20000 in
theorem s104 :
  (∀ (a0 : Nat) (a1 : Int32) (st : List Value) (M : xM) (Q : Option Value → xM → Prop), xW xSC 104 0 [.ref a0, .int a1] (st) M Q = xW xSC 104 1 [.ref a0, .int a1] (.int a1 :: st) M Q) ∧
  (∀ (a0 : Nat) (a1 : Int32) (st : List Value) (M : xM) (Q : Option Value → xM → Prop), xW xSC 104 1 [.ref a0, .int a1] (st) M Q = xW xSC 104 2 [.ref a0, .int a1] (.int (nI 0) :: st) M Q) ∧
  (∀ (a0 : Nat) (a1 : Int32) (st : List Value) (M : xM) (Q : Option Value → xM → Prop), xW xSC 104 2 [.ref a0, .int a1] (st) M Q = xW xSC 104 4 [.ref a0, .int a1] (.int (nI 9) :: st) M Q) ∧
  (∀ (a0 : Nat) (a1 : Int32) (y0 : Int32) (y1 : Int32) (y2 : Int32) (M : xM) (Q : Option Value → xM → Prop), xW xSC 104 4 [.ref a0, .int a1] (.int y0 :: .int y1 :: .int y2 :: []) M Q = xW xSC 132 0 [.int y2, .int y1, .int y0] [] M (fun v M' => xW xSC 104 7 [.ref a0, .int a1] (xpush v []) M' Q)) ∧
  (∀ (a0 : Nat) (a1 : Int32) (y0 : Int32) (st : List Value) (M : xM) (Q : Option Value → xM → Prop), xW xSC 104 7 [.ref a0, .int a1] (.int y0 :: st) M Q = if y0 = nI 0 then xW xSC 104 21 [.ref a0, .int a1] (st) M Q else xW xSC 104 10 [.ref a0, .int a1] (st) M Q) ∧
  (∀ (a0 : Nat) (a1 : Int32) (st : List Value) (M : xM) (Q : Option Value → xM → Prop), xW xSC 104 10 [.ref a0, .int a1] (st) M Q = xW xSC 104 11 [.ref a0, .int a1] (.ref a0 :: st) M Q) ∧
  (∀ (a0 : Nat) (a1 : Int32) (st : List Value) (M : xM) (Q : Option Value → xM → Prop), xW xSC 104 11 [.ref a0, .int a1] (.ref 0 :: st) M Q = xW xSC 104 14 [.ref a0, .int a1] (.ref 9 :: st) M Q) ∧
  (∀ (a0 : Nat) (a1 : Int32) (st : List Value) (M : xM) (Q : Option Value → xM → Prop), xW xSC 104 14 [.ref a0, .int a1] (st) M Q = xW xSC 104 15 [.ref a0, .int a1] (.int a1 :: st) M Q) ∧
  (∀ (a0 : Nat) (a1 : Int32) (y0 : Int32) (M : xM) (Q : Option Value → xM → Prop), xW xSC 104 15 [.ref a0, .int a1] (.int y0 :: .ref 9 :: []) M Q = xW xSC 34 0 [.ref 9, .int y0] [] M (fun v M' => xW xSC 104 18 [.ref a0, .int a1] (xpush v []) M' Q)) ∧
  (∀ (a0 : Nat) (a1 : Int32) (st : List Value) (M : xM) (Q : Option Value → xM → Prop), xW xSC 104 18 [.ref a0, .int a1] (st) M Q = xW xSC 104 22 [.ref a0, .int a1] (st) M Q) ∧
  (∀ (a0 : Nat) (a1 : Int32) (st : List Value) (M : xM) (Q : Option Value → xM → Prop), xW xSC 104 21 [.ref a0, .int a1] (st) M Q = xW xSC 104 22 [.ref a0, .int a1] (.int (-1) :: st) M Q) :=
  ⟨fun a0 a1 st M Q => xw_s rfl rfl,
  fun a0 a1 st M Q => xw_s rfl rfl,
  fun a0 a1 st M Q => xw_s rfl rfl,
  fun a0 a1 y0 y1 y2 M Q => xw_call rfl rfl rfl,
  fun a0 a1 y0 st M Q => xw_br (c0 := y0 = nI 0) rfl rfl,
  fun a0 a1 st M Q => xw_s rfl rfl,
  fun a0 a1 st M Q => xw_s rfl rfl,
  fun a0 a1 st M Q => xw_s rfl rfl,
  fun a0 a1 y0 M Q => xw_call rfl rfl rfl,
  fun a0 a1 st M Q => xw_s rfl rfl,
  fun a0 a1 st M Q => xw_s rfl rfl⟩
set_option maxRecDepth 20000 in
theorem h104_22 :
  (∀ (a0 : Nat) (a1 : Int32) (y0 : Int32) (M : xM) (Q : Option Value → xM → Prop), xW xSC 104 22 [.ref a0, .int a1] ([.int y0]) M Q = Q (some (.int y0)) M) :=
  fun a0 a1 y0 M Q => xw_ret rfl rfl
set_option maxRecDepth 20000 in
theorem j104 :
  (∀ (a0 : Nat) (a1 : Int32) (y0 : Int32) (M : xM) (Q : Option Value → xM → Prop), xW xSC 104 22 [.ref a0, .int a1] ([.int y0]) M Q = Q (some (.int y0)) M) :=
  fun a0 a1 y0 M Q => xw_ret rfl rfl

set_option maxRecDepth 20000 in
theorem s105 :
  (∀ (a0 : Nat) (a1 : Int32) (a2 : Int32) (a3 : Int32) (a4 : Int32) (st : List Value) (M : xM) (Q : Option Value → xM → Prop), xW xSC 105 0 [.ref a0, .int a1, .int a2, .int a3, .int a4] (st) M Q = xW xSC 105 1 [.ref a0, .int a1, .int a2, .int a3, .int a4] (.ref a0 :: st) M Q) ∧
  (∀ (a0 : Nat) (a1 : Int32) (a2 : Int32) (a3 : Int32) (a4 : Int32) (st : List Value) (M : xM) (Q : Option Value → xM → Prop), xW xSC 105 1 [.ref a0, .int a1, .int a2, .int a3, .int a4] (st) M Q = xW xSC 105 2 [.ref a0, .int a1, .int a2, .int a3, .int a4] (.int a1 :: st) M Q) ∧
  (∀ (a0 : Nat) (a1 : Int32) (a2 : Int32) (a3 : Int32) (a4 : Int32) (st : List Value) (M : xM) (Q : Option Value → xM → Prop), xW xSC 105 2 [.ref a0, .int a1, .int a2, .int a3, .int a4] (st) M Q = xW xSC 105 3 [.ref a0, .int a1, .int a2, .int a3, .int a4] (.int a2 :: st) M Q) ∧
  (∀ (a0 : Nat) (a1 : Int32) (a2 : Int32) (a3 : Int32) (a4 : Int32) (st : List Value) (M : xM) (Q : Option Value → xM → Prop), xW xSC 105 3 [.ref a0, .int a1, .int a2, .int a3, .int a4] (st) M Q = xW xSC 105 4 [.ref a0, .int a1, .int a2, .int a3, .int a4] (.int a3 :: st) M Q) ∧
  (∀ (a0 : Nat) (a1 : Int32) (a2 : Int32) (a3 : Int32) (a4 : Int32) (y0 : Int32) (y1 : Int32) (y2 : Int32) (M : xM) (Q : Option Value → xM → Prop), xW xSC 105 4 [.ref a0, .int a1, .int a2, .int a3, .int a4] (.int y0 :: .int y1 :: .int y2 :: .ref 0 :: []) M Q = xW xSC 134 0 [.ref 0, .int y2, .int y1, .int y0] [] M (fun v M' => xW xSC 105 7 [.ref a0, .int a1, .int a2, .int a3, .int a4] (xpush v []) M' Q)) ∧
  (∀ (a0 : Nat) (a1 : Int32) (a2 : Int32) (a3 : Int32) (a4 : Int32) (y0 : Int32) (st : List Value) (M : xM) (Q : Option Value → xM → Prop), xW xSC 105 7 [.ref a0, .int a1, .int a2, .int a3, .int a4] (.int y0 :: st) M Q = if y0 = nI 0 then xW xSC 105 20 [.ref a0, .int a1, .int a2, .int a3, .int a4] (st) M Q else xW xSC 105 10 [.ref a0, .int a1, .int a2, .int a3, .int a4] (st) M Q) ∧
  (∀ (a0 : Nat) (a1 : Int32) (a2 : Int32) (a3 : Int32) (a4 : Int32) (st : List Value) (M : xM) (Q : Option Value → xM → Prop), xW xSC 105 10 [.ref a0, .int a1, .int a2, .int a3, .int a4] (st) M Q = xW xSC 105 12 [.ref a0, .int a1, .int a2, .int a3, .int a4] (.int a4 :: st) M Q) ∧
  (∀ (a0 : Nat) (a1 : Int32) (a2 : Int32) (a3 : Int32) (a4 : Int32) (st : List Value) (M : xM) (Q : Option Value → xM → Prop), xW xSC 105 12 [.ref a0, .int a1, .int a2, .int a3, .int a4] (st) M Q = xW xSC 105 13 [.ref a0, .int a1, .int a2, .int a3, .int a4] (.int (nI 0) :: st) M Q) ∧
  (∀ (a0 : Nat) (a1 : Int32) (a2 : Int32) (a3 : Int32) (a4 : Int32) (st : List Value) (M : xM) (Q : Option Value → xM → Prop), xW xSC 105 13 [.ref a0, .int a1, .int a2, .int a3, .int a4] (st) M Q = xW xSC 105 14 [.ref a0, .int a1, .int a2, .int a3, .int a4] (.int (nI 1) :: st) M Q) ∧
  (∀ (a0 : Nat) (a1 : Int32) (a2 : Int32) (a3 : Int32) (a4 : Int32) (y0 : Int32) (y1 : Int32) (y2 : Int32) (M : xM) (Q : Option Value → xM → Prop), xW xSC 105 14 [.ref a0, .int a1, .int a2, .int a3, .int a4] (.int y0 :: .int y1 :: .int y2 :: []) M Q = xW xSC 132 0 [.int y2, .int y1, .int y0] [] M (fun v M' => xW xSC 105 17 [.ref a0, .int a1, .int a2, .int a3, .int a4] (xpush v []) M' Q)) ∧
  (∀ (a0 : Nat) (a1 : Int32) (a2 : Int32) (a3 : Int32) (a4 : Int32) (y0 : Int32) (st : List Value) (M : xM) (Q : Option Value → xM → Prop), xW xSC 105 17 [.ref a0, .int a1, .int a2, .int a3, .int a4] (.int y0 :: st) M Q = if y0 = nI 0 then xW xSC 105 20 [.ref a0, .int a1, .int a2, .int a3, .int a4] (st) M Q else xW xSC 105 22 [.ref a0, .int a1, .int a2, .int a3, .int a4] (st) M Q) ∧
  (∀ (a0 : Nat) (a1 : Int32) (a2 : Int32) (a3 : Int32) (a4 : Int32) (y0 : Int32) (M : xM) (Q : Option Value → xM → Prop), xW xSC 105 21 [.ref a0, .int a1, .int a2, .int a3, .int a4] ([.int y0]) M Q = Q (some (.int y0)) M) ∧
  (∀ (a0 : Nat) (a1 : Int32) (a2 : Int32) (a3 : Int32) (a4 : Int32) (st : List Value) (M : xM) (Q : Option Value → xM → Prop), xW xSC 105 22 [.ref a0, .int a1, .int a2, .int a3, .int a4] (st) M Q = xW xSC 105 23 [.ref a0, .int a1, .int a2, .int a3, .int a4] (.ref a0 :: st) M Q) ∧
  (∀ (a0 : Nat) (a1 : Int32) (a2 : Int32) (a3 : Int32) (a4 : Int32) (st : List Value) (M : xM) (Q : Option Value → xM → Prop), xW xSC 105 23 [.ref a0, .int a1, .int a2, .int a3, .int a4] (.ref 0 :: st) M Q = xW xSC 105 26 [.ref a0, .int a1, .int a2, .int a3, .int a4] (.ref 31 :: st) M Q) ∧
  (∀ (a0 : Nat) (a1 : Int32) (a2 : Int32) (a3 : Int32) (a4 : Int32) (st : List Value) (M : xM) (Q : Option Value → xM → Prop), xW xSC 105 26 [.ref a0, .int a1, .int a2, .int a3, .int a4] (st) M Q = xW xSC 105 27 [.ref a0, .int a1, .int a2, .int a3, .int a4] (.ref a0 :: st) M Q) ∧
  (∀ (a0 : Nat) (a1 : Int32) (a2 : Int32) (a3 : Int32) (a4 : Int32) (st : List Value) (M : xM) (Q : Option Value → xM → Prop), xW xSC 105 27 [.ref a0, .int a1, .int a2, .int a3, .int a4] (.ref 0 :: st) M Q = xW xSC 105 30 [.ref a0, .int a1, .int a2, .int a3, .int a4] (.ref 9 :: st) M Q) ∧
  (∀ (a0 : Nat) (a1 : Int32) (a2 : Int32) (a3 : Int32) (a4 : Int32) (st : List Value) (M : xM) (Q : Option Value → xM → Prop), xW xSC 105 30 [.ref a0, .int a1, .int a2, .int a3, .int a4] (st) M Q = xW xSC 105 31 [.ref a0, .int a1, .int a2, .int a3, .int a4] (.int a1 :: st) M Q) ∧
  (∀ (a0 : Nat) (a1 : Int32) (a2 : Int32) (a3 : Int32) (a4 : Int32) (y0 : Int32) (y1 : Nat) (M : xM) (Q : Option Value → xM → Prop), xW xSC 105 31 [.ref a0, .int a1, .int a2, .int a3, .int a4] (.int y0 :: .ref y1 :: .ref 31 :: []) M Q = xW xSC 85 0 [.ref 31, .ref y1, .int y0, .null] [] M (fun v M' => xW xSC 105 34 [.ref a0, .int a1, .int a2, .int a3, .int a4] (xpush v []) M' Q)) ∧
  (∀ (a0 : Nat) (a1 : Int32) (a2 : Int32) (a3 : Int32) (a4 : Int32) (st : List Value) (M : xM) (Q : Option Value → xM → Prop), xW xSC 105 34 [.ref a0, .int a1, .int a2, .int a3, .int a4] (st) M Q = xW xSC 105 35 [.ref a0, .int a1, .int a2, .int a3, .int a4] (.ref a0 :: st) M Q) ∧
  (∀ (a0 : Nat) (a1 : Int32) (a2 : Int32) (a3 : Int32) (a4 : Int32) (st : List Value) (M : xM) (Q : Option Value → xM → Prop), xW xSC 105 35 [.ref a0, .int a1, .int a2, .int a3, .int a4] (.ref 0 :: st) M Q = xW xSC 105 38 [.ref a0, .int a1, .int a2, .int a3, .int a4] (.ref 33 :: st) M Q) ∧
  (∀ (a0 : Nat) (a1 : Int32) (a2 : Int32) (a3 : Int32) (a4 : Int32) (st : List Value) (M : xM) (Q : Option Value → xM → Prop), xW xSC 105 38 [.ref a0, .int a1, .int a2, .int a3, .int a4] (st) M Q = xW xSC 105 39 [.ref a0, .int a1, .int a2, .int a3, .int a4] (.ref a0 :: st) M Q) ∧
  (∀ (a0 : Nat) (a1 : Int32) (a2 : Int32) (a3 : Int32) (a4 : Int32) (st : List Value) (M : xM) (Q : Option Value → xM → Prop), xW xSC 105 39 [.ref a0, .int a1, .int a2, .int a3, .int a4] (.ref 0 :: st) M Q = xW xSC 105 42 [.ref a0, .int a1, .int a2, .int a3, .int a4] (.ref 9 :: st) M Q) ∧
  (∀ (a0 : Nat) (a1 : Int32) (a2 : Int32) (a3 : Int32) (a4 : Int32) (st : List Value) (M : xM) (Q : Option Value → xM → Prop), xW xSC 105 42 [.ref a0, .int a1, .int a2, .int a3, .int a4] (st) M Q = xW xSC 105 43 [.ref a0, .int a1, .int a2, .int a3, .int a4] (.ref a0 :: st) M Q) ∧
  (∀ (a0 : Nat) (a1 : Int32) (a2 : Int32) (a3 : Int32) (a4 : Int32) (st : List Value) (M : xM) (Q : Option Value → xM → Prop), xW xSC 105 43 [.ref a0, .int a1, .int a2, .int a3, .int a4] (.ref 0 :: st) M Q = xW xSC 105 46 [.ref a0, .int a1, .int a2, .int a3, .int a4] (.ref 31 :: st) M Q) ∧
  (∀ (a0 : Nat) (a1 : Int32) (a2 : Int32) (a3 : Int32) (a4 : Int32) (st : List Value) (M : xM) (Q : Option Value → xM → Prop), xW xSC 105 46 [.ref a0, .int a1, .int a2, .int a3, .int a4] (st) M Q = xW xSC 105 47 [.ref a0, .int a1, .int a2, .int a3, .int a4] (.int a2 :: st) M Q) ∧
  (∀ (a0 : Nat) (a1 : Int32) (a2 : Int32) (a3 : Int32) (a4 : Int32) (st : List Value) (M : xM) (Q : Option Value → xM → Prop), xW xSC 105 47 [.ref a0, .int a1, .int a2, .int a3, .int a4] (st) M Q = xW xSC 105 48 [.ref a0, .int a1, .int a2, .int a3, .int a4] (.int a3 :: st) M Q) ∧
  (∀ (a0 : Nat) (a1 : Int32) (a2 : Int32) (a3 : Int32) (a4 : Int32) (y0 : Int32) (y1 : Int32) (y2 : Nat) (y3 : Nat) (M : xM) (Q : Option Value → xM → Prop), xW xSC 105 48 [.ref a0, .int a1, .int a2, .int a3, .int a4] (.int y0 :: .int y1 :: .ref y2 :: .ref y3 :: .ref 33 :: []) M Q = xW xSC 43 0 [.ref 33, .ref y3, .ref y2, .int y1, .int y0, .null, .null, .null, .null, .null, .null, .null, .null] [] M (fun v M' => xW xSC 105 51 [.ref a0, .int a1, .int a2, .int a3, .int a4] (xpush v []) M' Q)) ∧
  (∀ (a0 : Nat) (a1 : Int32) (a2 : Int32) (a3 : Int32) (a4 : Int32) (st : List Value) (M : xM) (Q : Option Value → xM → Prop), xW xSC 105 51 [.ref a0, .int a1, .int a2, .int a3, .int a4] (st) M Q = xW xSC 105 53 [.ref a0, .int a1, .int a2, .int a3, .int a4] (.int a4 :: st) M Q) ∧
  (∀ (a0 : Nat) (a1 : Int32) (a2 : Int32) (a3 : Int32) (a4 : Int32) (y0 : Int32) (st : List Value) (M : xM) (Q : Option Value → xM → Prop), xW xSC 105 53 [.ref a0, .int a1, .int a2, .int a3, .int a4] (.int y0 :: st) M Q = if y0 = nI 0 then xW xSC 105 56 [.ref a0, .int a1, .int a2, .int a3, .int a4] (st) M Q else xW xSC 105 66 [.ref a0, .int a1, .int a2, .int a3, .int a4] (st) M Q) ∧
  (∀ (a0 : Nat) (a1 : Int32) (a2 : Int32) (a3 : Int32) (a4 : Int32) (st : List Value) (M : xM) (Q : Option Value → xM → Prop), xW xSC 105 56 [.ref a0, .int a1, .int a2, .int a3, .int a4] (st) M Q = xW xSC 105 57 [.ref a0, .int a1, .int a2, .int a3, .int a4] (.ref a0 :: st) M Q) ∧
  (∀ (a0 : Nat) (a1 : Int32) (a2 : Int32) (a3 : Int32) (a4 : Int32) (st : List Value) (M : xM) (Q : Option Value → xM → Prop), xW xSC 105 57 [.ref a0, .int a1, .int a2, .int a3, .int a4] (.ref 0 :: st) M Q = xW xSC 105 60 [.ref a0, .int a1, .int a2, .int a3, .int a4] (.ref 33 :: st) M Q) ∧
  (∀ (a0 : Nat) (a1 : Int32) (a2 : Int32) (a3 : Int32) (a4 : Int32) (st : List Value) (M : xM) (Q : Option Value → xM → Prop), xW xSC 105 60 [.ref a0, .int a1, .int a2, .int a3, .int a4] (.ref 33 :: st) M Q = xW xSC 105 63 [.ref a0, .int a1, .int a2, .int a3, .int a4] (.int (M 33 0) :: st) M Q) ∧
  (∀ (a0 : Nat) (a1 : Int32) (a2 : Int32) (a3 : Int32) (a4 : Int32) (st : List Value) (M : xM) (Q : Option Value → xM → Prop), xW xSC 105 63 [.ref a0, .int a1, .int a2, .int a3, .int a4] (st) M Q = xW xSC 105 73 [.ref a0, .int a1, .int a2, .int a3, .int a4] (st) M Q) ∧
  (∀ (a0 : Nat) (a1 : Int32) (a2 : Int32) (a3 : Int32) (a4 : Int32) (st : List Value) (M : xM) (Q : Option Value → xM → Prop), xW xSC 105 66 [.ref a0, .int a1, .int a2, .int a3, .int a4] (st) M Q = xW xSC 105 67 [.ref a0, .int a1, .int a2, .int a3, .int a4] (.ref a0 :: st) M Q) ∧
  (∀ (a0 : Nat) (a1 : Int32) (a2 : Int32) (a3 : Int32) (a4 : Int32) (st : List Value) (M : xM) (Q : Option Value → xM → Prop), xW xSC 105 67 [.ref a0, .int a1, .int a2, .int a3, .int a4] (.ref 0 :: st) M Q = xW xSC 105 70 [.ref a0, .int a1, .int a2, .int a3, .int a4] (.ref 33 :: st) M Q) ∧
  (∀ (a0 : Nat) (a1 : Int32) (a2 : Int32) (a3 : Int32) (a4 : Int32) (st : List Value) (M : xM) (Q : Option Value → xM → Prop), xW xSC 105 70 [.ref a0, .int a1, .int a2, .int a3, .int a4] (.ref 33 :: st) M Q = xW xSC 105 73 [.ref a0, .int a1, .int a2, .int a3, .int a4] (.int (M 33 1) :: st) M Q) :=
  ⟨fun a0 a1 a2 a3 a4 st M Q => xw_s rfl rfl,
  fun a0 a1 a2 a3 a4 st M Q => xw_s rfl rfl,
  fun a0 a1 a2 a3 a4 st M Q => xw_s rfl rfl,
  fun a0 a1 a2 a3 a4 st M Q => xw_s rfl rfl,
  fun a0 a1 a2 a3 a4 y0 y1 y2 M Q => xw_call rfl rfl rfl,
  fun a0 a1 a2 a3 a4 y0 st M Q => xw_br (c0 := y0 = nI 0) rfl rfl,
  fun a0 a1 a2 a3 a4 st M Q => xw_s rfl rfl,
  fun a0 a1 a2 a3 a4 st M Q => xw_s rfl rfl,
  fun a0 a1 a2 a3 a4 st M Q => xw_s rfl rfl,
  fun a0 a1 a2 a3 a4 y0 y1 y2 M Q => xw_call rfl rfl rfl,
  fun a0 a1 a2 a3 a4 y0 st M Q => xw_brn (c0 := y0 ≠ nI 0) (c1 := y0 = nI 0) rfl rfl (Iff.rfl),
  fun a0 a1 a2 a3 a4 y0 M Q => xw_ret rfl rfl,
  fun a0 a1 a2 a3 a4 st M Q => xw_s rfl rfl,
  fun a0 a1 a2 a3 a4 st M Q => xw_s rfl rfl,
  fun a0 a1 a2 a3 a4 st M Q => xw_s rfl rfl,
  fun a0 a1 a2 a3 a4 st M Q => xw_s rfl rfl,
  fun a0 a1 a2 a3 a4 st M Q => xw_s rfl rfl,
  fun a0 a1 a2 a3 a4 y0 y1 M Q => xw_call rfl rfl rfl,
  fun a0 a1 a2 a3 a4 st M Q => xw_s rfl rfl,
  fun a0 a1 a2 a3 a4 st M Q => xw_s rfl rfl,
  fun a0 a1 a2 a3 a4 st M Q => xw_s rfl rfl,
  fun a0 a1 a2 a3 a4 st M Q => xw_s rfl rfl,
  fun a0 a1 a2 a3 a4 st M Q => xw_s rfl rfl,
  fun a0 a1 a2 a3 a4 st M Q => xw_s rfl rfl,
  fun a0 a1 a2 a3 a4 st M Q => xw_s rfl rfl,
  fun a0 a1 a2 a3 a4 st M Q => xw_s rfl rfl,
  fun a0 a1 a2 a3 a4 y0 y1 y2 y3 M Q => xw_call rfl rfl rfl,
  fun a0 a1 a2 a3 a4 st M Q => xw_s rfl rfl,
  fun a0 a1 a2 a3 a4 y0 st M Q => xw_brn (c0 := y0 ≠ nI 0) (c1 := y0 = nI 0) rfl rfl (Iff.rfl),
  fun a0 a1 a2 a3 a4 st M Q => xw_s rfl rfl,
  fun a0 a1 a2 a3 a4 st M Q => xw_s rfl rfl,
  fun a0 a1 a2 a3 a4 st M Q => xw_s rfl rfl,
  fun a0 a1 a2 a3 a4 st M Q => xw_s rfl rfl,
  fun a0 a1 a2 a3 a4 st M Q => xw_s rfl rfl,
  fun a0 a1 a2 a3 a4 st M Q => xw_s rfl rfl,
  fun a0 a1 a2 a3 a4 st M Q => xw_s rfl rfl⟩
set_option maxRecDepth 20000 in
theorem h105_20 :
  (∀ (a0 : Nat) (a1 : Int32) (a2 : Int32) (a3 : Int32) (a4 : Int32) (st : List Value) (M : xM) (Q : Option Value → xM → Prop), xW xSC 105 20 [.ref a0, .int a1, .int a2, .int a3, .int a4] (st) M Q = xW xSC 105 21 [.ref a0, .int a1, .int a2, .int a3, .int a4] (.int (-1) :: st) M Q) :=
  fun a0 a1 a2 a3 a4 st M Q => xw_s rfl rfl
set_option maxRecDepth 20000 in
theorem h105_73 :
  (∀ (a0 : Nat) (a1 : Int32) (a2 : Int32) (a3 : Int32) (a4 : Int32) (y0 : Int32) (M : xM) (Q : Option Value → xM → Prop), xW xSC 105 73 [.ref a0, .int a1, .int a2, .int a3, .int a4] ([.int y0]) M Q = Q (some (.int y0)) M) :=
  fun a0 a1 a2 a3 a4 y0 M Q => xw_ret rfl rfl
set_option maxRecDepth 20000 in
theorem j105 :
  (∀ (a0 : Nat) (a1 : Int32) (a2 : Int32) (a3 : Int32) (a4 : Int32) (st : List Value) (M : xM) (Q : Option Value → xM → Prop), xW xSC 105 20 [.ref a0, .int a1, .int a2, .int a3, .int a4] (st) M Q = xW xSC 105 21 [.ref a0, .int a1, .int a2, .int a3, .int a4] (.int (-1) :: st) M Q) ∧
  (∀ (a0 : Nat) (a1 : Int32) (a2 : Int32) (a3 : Int32) (a4 : Int32) (y0 : Int32) (M : xM) (Q : Option Value → xM → Prop), xW xSC 105 73 [.ref a0, .int a1, .int a2, .int a3, .int a4] ([.int y0]) M Q = Q (some (.int y0)) M) :=
  ⟨fun a0 a1 a2 a3 a4 st M Q => xw_s rfl rfl,
  fun a0 a1 a2 a3 a4 y0 M Q => xw_ret rfl rfl⟩

set_option maxRecDepth 20000 in
theorem s106 :
  (∀ (a0 : Nat) (a1 : Int32) (a2 : Int32) (a3 : Int32) (a4 : Int32) (st : List Value) (M : xM) (Q : Option Value → xM → Prop), xW xSC 106 0 [.ref a0, .int a1, .int a2, .int a3, .int a4] (st) M Q = xW xSC 106 1 [.ref a0, .int a1, .int a2, .int a3, .int a4] (.ref a0 :: st) M Q) ∧
  (∀ (a0 : Nat) (a1 : Int32) (a2 : Int32) (a3 : Int32) (a4 : Int32) (st : List Value) (M : xM) (Q : Option Value → xM → Prop), xW xSC 106 1 [.ref a0, .int a1, .int a2, .int a3, .int a4] (st) M Q = xW xSC 106 2 [.ref a0, .int a1, .int a2, .int a3, .int a4] (.int a1 :: st) M Q) ∧
  (∀ (a0 : Nat) (a1 : Int32) (a2 : Int32) (a3 : Int32) (a4 : Int32) (st : List Value) (M : xM) (Q : Option Value → xM → Prop), xW xSC 106 2 [.ref a0, .int a1, .int a2, .int a3, .int a4] (st) M Q = xW xSC 106 3 [.ref a0, .int a1, .int a2, .int a3, .int a4] (.int a2 :: st) M Q) ∧
  (∀ (a0 : Nat) (a1 : Int32) (a2 : Int32) (a3 : Int32) (a4 : Int32) (st : List Value) (M : xM) (Q : Option Value → xM → Prop), xW xSC 106 3 [.ref a0, .int a1, .int a2, .int a3, .int a4] (st) M Q = xW xSC 106 4 [.ref a0, .int a1, .int a2, .int a3, .int a4] (.int a3 :: st) M Q) ∧
  (∀ (a0 : Nat) (a1 : Int32) (a2 : Int32) (a3 : Int32) (a4 : Int32) (y0 : Int32) (y1 : Int32) (y2 : Int32) (M : xM) (Q : Option Value → xM → Prop), xW xSC 106 4 [.ref a0, .int a1, .int a2, .int a3, .int a4] (.int y0 :: .int y1 :: .int y2 :: .ref 0 :: []) M Q = xW xSC 134 0 [.ref 0, .int y2, .int y1, .int y0] [] M (fun v M' => xW xSC 106 7 [.ref a0, .int a1, .int a2, .int a3, .int a4] (xpush v []) M' Q)) ∧
  (∀ (a0 : Nat) (a1 : Int32) (a2 : Int32) (a3 : Int32) (a4 : Int32) (y0 : Int32) (st : List Value) (M : xM) (Q : Option Value → xM → Prop), xW xSC 106 7 [.ref a0, .int a1, .int a2, .int a3, .int a4] (.int y0 :: st) M Q = if y0 = nI 0 then xW xSC 106 20 [.ref a0, .int a1, .int a2, .int a3, .int a4] (st) M Q else xW xSC 106 10 [.ref a0, .int a1, .int a2, .int a3, .int a4] (st) M Q) ∧
  (∀ (a0 : Nat) (a1 : Int32) (a2 : Int32) (a3 : Int32) (a4 : Int32) (st : List Value) (M : xM) (Q : Option Value → xM → Prop), xW xSC 106 10 [.ref a0, .int a1, .int a2, .int a3, .int a4] (st) M Q = xW xSC 106 12 [.ref a0, .int a1, .int a2, .int a3, .int a4] (.int a4 :: st) M Q) ∧
  (∀ (a0 : Nat) (a1 : Int32) (a2 : Int32) (a3 : Int32) (a4 : Int32) (st : List Value) (M : xM) (Q : Option Value → xM → Prop), xW xSC 106 12 [.ref a0, .int a1, .int a2, .int a3, .int a4] (st) M Q = xW xSC 106 13 [.ref a0, .int a1, .int a2, .int a3, .int a4] (.int (nI 0) :: st) M Q) ∧
  (∀ (a0 : Nat) (a1 : Int32) (a2 : Int32) (a3 : Int32) (a4 : Int32) (st : List Value) (M : xM) (Q : Option Value → xM → Prop), xW xSC 106 13 [.ref a0, .int a1, .int a2, .int a3, .int a4] (st) M Q = xW xSC 106 14 [.ref a0, .int a1, .int a2, .int a3, .int a4] (.int (nI 1) :: st) M Q) ∧
  (∀ (a0 : Nat) (a1 : Int32) (a2 : Int32) (a3 : Int32) (a4 : Int32) (y0 : Int32) (y1 : Int32) (y2 : Int32) (M : xM) (Q : Option Value → xM → Prop), xW xSC 106 14 [.ref a0, .int a1, .int a2, .int a3, .int a4] (.int y0 :: .int y1 :: .int y2 :: []) M Q = xW xSC 132 0 [.int y2, .int y1, .int y0] [] M (fun v M' => xW xSC 106 17 [.ref a0, .int a1, .int a2, .int a3, .int a4] (xpush v []) M' Q)) ∧
  (∀ (a0 : Nat) (a1 : Int32) (a2 : Int32) (a3 : Int32) (a4 : Int32) (y0 : Int32) (st : List Value) (M : xM) (Q : Option Value → xM → Prop), xW xSC 106 17 [.ref a0, .int a1, .int a2, .int a3, .int a4] (.int y0 :: st) M Q = if y0 = nI 0 then xW xSC 106 20 [.ref a0, .int a1, .int a2, .int a3, .int a4] (st) M Q else xW xSC 106 22 [.ref a0, .int a1, .int a2, .int a3, .int a4] (st) M Q) ∧
  (∀ (a0 : Nat) (a1 : Int32) (a2 : Int32) (a3 : Int32) (a4 : Int32) (y0 : Int32) (M : xM) (Q : Option Value → xM → Prop), xW xSC 106 21 [.ref a0, .int a1, .int a2, .int a3, .int a4] ([.int y0]) M Q = Q (some (.int y0)) M) ∧
  (∀ (a0 : Nat) (a1 : Int32) (a2 : Int32) (a3 : Int32) (a4 : Int32) (st : List Value) (M : xM) (Q : Option Value → xM → Prop), xW xSC 106 22 [.ref a0, .int a1, .int a2, .int a3, .int a4] (st) M Q = xW xSC 106 23 [.ref a0, .int a1, .int a2, .int a3, .int a4] (.ref a0 :: st) M Q) ∧
  (∀ (a0 : Nat) (a1 : Int32) (a2 : Int32) (a3 : Int32) (a4 : Int32) (st : List Value) (M : xM) (Q : Option Value → xM → Prop), xW xSC 106 23 [.ref a0, .int a1, .int a2, .int a3, .int a4] (.ref 0 :: st) M Q = xW xSC 106 26 [.ref a0, .int a1, .int a2, .int a3, .int a4] (.ref 31 :: st) M Q) ∧
  (∀ (a0 : Nat) (a1 : Int32) (a2 : Int32) (a3 : Int32) (a4 : Int32) (st : List Value) (M : xM) (Q : Option Value → xM → Prop), xW xSC 106 26 [.ref a0, .int a1, .int a2, .int a3, .int a4] (st) M Q = xW xSC 106 27 [.ref a0, .int a1, .int a2, .int a3, .int a4] (.ref a0 :: st) M Q) ∧
  (∀ (a0 : Nat) (a1 : Int32) (a2 : Int32) (a3 : Int32) (a4 : Int32) (st : List Value) (M : xM) (Q : Option Value → xM → Prop), xW xSC 106 27 [.ref a0, .int a1, .int a2, .int a3, .int a4] (.ref 0 :: st) M Q = xW xSC 106 30 [.ref a0, .int a1, .int a2, .int a3, .int a4] (.ref 9 :: st) M Q) ∧
  (∀ (a0 : Nat) (a1 : Int32) (a2 : Int32) (a3 : Int32) (a4 : Int32) (st : List Value) (M : xM) (Q : Option Value → xM → Prop), xW xSC 106 30 [.ref a0, .int a1, .int a2, .int a3, .int a4] (st) M Q = xW xSC 106 31 [.ref a0, .int a1, .int a2, .int a3, .int a4] (.int a1 :: st) M Q) ∧
  (∀ (a0 : Nat) (a1 : Int32) (a2 : Int32) (a3 : Int32) (a4 : Int32) (y0 : Int32) (y1 : Nat) (M : xM) (Q : Option Value → xM → Prop), xW xSC 106 31 [.ref a0, .int a1, .int a2, .int a3, .int a4] (.int y0 :: .ref y1 :: .ref 31 :: []) M Q = xW xSC 85 0 [.ref 31, .ref y1, .int y0, .null] [] M (fun v M' => xW xSC 106 34 [.ref a0, .int a1, .int a2, .int a3, .int a4] (xpush v []) M' Q)) ∧
  (∀ (a0 : Nat) (a1 : Int32) (a2 : Int32) (a3 : Int32) (a4 : Int32) (st : List Value) (M : xM) (Q : Option Value → xM → Prop), xW xSC 106 34 [.ref a0, .int a1, .int a2, .int a3, .int a4] (st) M Q = xW xSC 106 35 [.ref a0, .int a1, .int a2, .int a3, .int a4] (.ref a0 :: st) M Q) ∧
  (∀ (a0 : Nat) (a1 : Int32) (a2 : Int32) (a3 : Int32) (a4 : Int32) (st : List Value) (M : xM) (Q : Option Value → xM → Prop), xW xSC 106 35 [.ref a0, .int a1, .int a2, .int a3, .int a4] (.ref 0 :: st) M Q = xW xSC 106 38 [.ref a0, .int a1, .int a2, .int a3, .int a4] (.ref 31 :: st) M Q) ∧
  (∀ (a0 : Nat) (a1 : Int32) (a2 : Int32) (a3 : Int32) (a4 : Int32) (st : List Value) (M : xM) (Q : Option Value → xM → Prop), xW xSC 106 38 [.ref a0, .int a1, .int a2, .int a3, .int a4] (st) M Q = xW xSC 106 39 [.ref a0, .int a1, .int a2, .int a3, .int a4] (.ref a0 :: st) M Q) ∧
  (∀ (a0 : Nat) (a1 : Int32) (a2 : Int32) (a3 : Int32) (a4 : Int32) (st : List Value) (M : xM) (Q : Option Value → xM → Prop), xW xSC 106 39 [.ref a0, .int a1, .int a2, .int a3, .int a4] (.ref 0 :: st) M Q = xW xSC 106 42 [.ref a0, .int a1, .int a2, .int a3, .int a4] (.ref 9 :: st) M Q) ∧
  (∀ (a0 : Nat) (a1 : Int32) (a2 : Int32) (a3 : Int32) (a4 : Int32) (st : List Value) (M : xM) (Q : Option Value → xM → Prop), xW xSC 106 42 [.ref a0, .int a1, .int a2, .int a3, .int a4] (st) M Q = xW xSC 106 43 [.ref a0, .int a1, .int a2, .int a3, .int a4] (.int a2 :: st) M Q) ∧
  (∀ (a0 : Nat) (a1 : Int32) (a2 : Int32) (a3 : Int32) (a4 : Int32) (st : List Value) (M : xM) (Q : Option Value → xM → Prop), xW xSC 106 43 [.ref a0, .int a1, .int a2, .int a3, .int a4] (st) M Q = xW xSC 106 44 [.ref a0, .int a1, .int a2, .int a3, .int a4] (.int a3 :: st) M Q) ∧
  (∀ (a0 : Nat) (a1 : Int32) (a2 : Int32) (a3 : Int32) (a4 : Int32) (y0 : Int32) (y1 : Int32) (y3 : Nat) (M : xM) (Q : Option Value → xM → Prop), xW xSC 106 44 [.ref a0, .int a1, .int a2, .int a3, .int a4] (.int y0 :: .int y1 :: .ref 9 :: .ref y3 :: []) M Q = xW xSC 37 0 [.ref 9, .int y1, .int y0] [] M (fun v M' => xW xSC 106 47 [.ref a0, .int a1, .int a2, .int a3, .int a4] (xpush v [.ref y3]) M' Q)) ∧
  (∀ (a0 : Nat) (a1 : Int32) (a2 : Int32) (a3 : Int32) (a4 : Int32) (y0 : Int32) (M : xM) (Q : Option Value → xM → Prop), xW xSC 106 47 [.ref a0, .int a1, .int a2, .int a3, .int a4] (.int y0 :: .ref 31 :: []) M Q = xW xSC 87 0 [.ref 31, .int y0] [] M (fun v M' => xW xSC 106 50 [.ref a0, .int a1, .int a2, .int a3, .int a4] (xpush v []) M' Q)) ∧
  (∀ (a0 : Nat) (a1 : Int32) (a2 : Int32) (a3 : Int32) (a4 : Int32) (y0 : Int32) (st : List Value) (M : xM) (Q : Option Value → xM → Prop), xW xSC 106 50 [.ref a0, .int a1, .int a2, .int a3, .int a4] (.int y0 :: st) M Q = if y0 = nI 0 then xW xSC 106 53 [.ref a0, .int a1, .int a2, .int a3, .int a4] (st) M Q else xW xSC 106 56 [.ref a0, .int a1, .int a2, .int a3, .int a4] (st) M Q) ∧
  (∀ (a0 : Nat) (a1 : Int32) (a2 : Int32) (a3 : Int32) (a4 : Int32) (st : List Value) (M : xM) (Q : Option Value → xM → Prop), xW xSC 106 53 [.ref a0, .int a1, .int a2, .int a3, .int a4] (st) M Q = xW xSC 106 55 [.ref a0, .int a1, .int a2, .int a3, .int a4] (.int (-4) :: st) M Q) ∧
  (∀ (a0 : Nat) (a1 : Int32) (a2 : Int32) (a3 : Int32) (a4 : Int32) (y0 : Int32) (M : xM) (Q : Option Value → xM → Prop), xW xSC 106 55 [.ref a0, .int a1, .int a2, .int a3, .int a4] ([.int y0]) M Q = Q (some (.int y0)) M) ∧
  (∀ (a0 : Nat) (a1 : Int32) (a2 : Int32) (a3 : Int32) (a4 : Int32) (st : List Value) (M : xM) (Q : Option Value → xM → Prop), xW xSC 106 56 [.ref a0, .int a1, .int a2, .int a3, .int a4] (st) M Q = xW xSC 106 57 [.ref a0, .int a1, .int a2, .int a3, .int a4] (.ref a0 :: st) M Q) ∧
  (∀ (a0 : Nat) (a1 : Int32) (a2 : Int32) (a3 : Int32) (a4 : Int32) (st : List Value) (M : xM) (Q : Option Value → xM → Prop), xW xSC 106 57 [.ref a0, .int a1, .int a2, .int a3, .int a4] (.ref 0 :: st) M Q = xW xSC 106 60 [.ref a0, .int a1, .int a2, .int a3, .int a4] (.ref 33 :: st) M Q) ∧
  (∀ (a0 : Nat) (a1 : Int32) (a2 : Int32) (a3 : Int32) (a4 : Int32) (st : List Value) (M : xM) (Q : Option Value → xM → Prop), xW xSC 106 60 [.ref a0, .int a1, .int a2, .int a3, .int a4] (st) M Q = xW xSC 106 61 [.ref a0, .int a1, .int a2, .int a3, .int a4] (.ref a0 :: st) M Q) ∧
  (∀ (a0 : Nat) (a1 : Int32) (a2 : Int32) (a3 : Int32) (a4 : Int32) (st : List Value) (M : xM) (Q : Option Value → xM → Prop), xW xSC 106 61 [.ref a0, .int a1, .int a2, .int a3, .int a4] (.ref 0 :: st) M Q = xW xSC 106 64 [.ref a0, .int a1, .int a2, .int a3, .int a4] (.ref 9 :: st) M Q) ∧
  (∀ (a0 : Nat) (a1 : Int32) (a2 : Int32) (a3 : Int32) (a4 : Int32) (st : List Value) (M : xM) (Q : Option Value → xM → Prop), xW xSC 106 64 [.ref a0, .int a1, .int a2, .int a3, .int a4] (st) M Q = xW xSC 106 65 [.ref a0, .int a1, .int a2, .int a3, .int a4] (.ref a0 :: st) M Q) ∧
  (∀ (a0 : Nat) (a1 : Int32) (a2 : Int32) (a3 : Int32) (a4 : Int32) (st : List Value) (M : xM) (Q : Option Value → xM → Prop), xW xSC 106 65 [.ref a0, .int a1, .int a2, .int a3, .int a4] (.ref 0 :: st) M Q = xW xSC 106 68 [.ref a0, .int a1, .int a2, .int a3, .int a4] (.ref 31 :: st) M Q) ∧
  (∀ (a0 : Nat) (a1 : Int32) (a2 : Int32) (a3 : Int32) (a4 : Int32) (st : List Value) (M : xM) (Q : Option Value → xM → Prop), xW xSC 106 68 [.ref a0, .int a1, .int a2, .int a3, .int a4] (st) M Q = xW xSC 106 69 [.ref a0, .int a1, .int a2, .int a3, .int a4] (.int a2 :: st) M Q) ∧
  (∀ (a0 : Nat) (a1 : Int32) (a2 : Int32) (a3 : Int32) (a4 : Int32) (st : List Value) (M : xM) (Q : Option Value → xM → Prop), xW xSC 106 69 [.ref a0, .int a1, .int a2, .int a3, .int a4] (st) M Q = xW xSC 106 70 [.ref a0, .int a1, .int a2, .int a3, .int a4] (.int a3 :: st) M Q) ∧
  (∀ (a0 : Nat) (a1 : Int32) (a2 : Int32) (a3 : Int32) (a4 : Int32) (y0 : Int32) (y1 : Int32) (y2 : Nat) (y3 : Nat) (M : xM) (Q : Option Value → xM → Prop), xW xSC 106 70 [.ref a0, .int a1, .int a2, .int a3, .int a4] (.int y0 :: .int y1 :: .ref y2 :: .ref y3 :: .ref 33 :: []) M Q = xW xSC 50 0 [.ref 33, .ref y3, .ref y2, .int y1, .int y0, .null, .null] [] M (fun v M' => xW xSC 106 73 [.ref a0, .int a1, .int a2, .int a3, .int a4] (xpush v []) M' Q)) ∧
  (∀ (a0 : Nat) (a1 : Int32) (a2 : Int32) (a3 : Int32) (a4 : Int32) (st : List Value) (M : xM) (Q : Option Value → xM → Prop), xW xSC 106 73 [.ref a0, .int a1, .int a2, .int a3, .int a4] (st) M Q = xW xSC 106 74 [.ref a0, .int a1, .int a2, .int a3, .int a4] (.ref a0 :: st) M Q) ∧
  (∀ (a0 : Nat) (a1 : Int32) (a2 : Int32) (a3 : Int32) (a4 : Int32) (st : List Value) (M : xM) (Q : Option Value → xM → Prop), xW xSC 106 74 [.ref a0, .int a1, .int a2, .int a3, .int a4] (.ref 0 :: st) M Q = xW xSC 106 77 [.ref a0, .int a1, .int a2, .int a3, .int a4] (.ref 33 :: st) M Q) ∧
  (∀ (a0 : Nat) (a1 : Int32) (a2 : Int32) (a3 : Int32) (a4 : Int32) (st : List Value) (M : xM) (Q : Option Value → xM → Prop), xW xSC 106 77 [.ref a0, .int a1, .int a2, .int a3, .int a4] (st) M Q = xW xSC 106 79 [.ref a0, .int a1, .int a2, .int a3, .int a4] (.int a4 :: st) M Q) ∧
  (∀ (a0 : Nat) (a1 : Int32) (a2 : Int32) (a3 : Int32) (a4 : Int32) (y0 : Int32) (M : xM) (Q : Option Value → xM → Prop), xW xSC 106 79 [.ref a0, .int a1, .int a2, .int a3, .int a4] (.int y0 :: .ref 33 :: []) M Q = xW xSC 58 0 [.ref 33, .int y0, .null, .null] [] M (fun v M' => xW xSC 106 82 [.ref a0, .int a1, .int a2, .int a3, .int a4] (xpush v []) M' Q)) ∧
  (∀ (a0 : Nat) (a1 : Int32) (a2 : Int32) (a3 : Int32) (a4 : Int32) (y0 : Int32) (M : xM) (Q : Option Value → xM → Prop), xW xSC 106 82 [.ref a0, .int a1, .int a2, .int a3, .int a4] ([.int y0]) M Q = Q (some (.int y0)) M) :=
  ⟨fun a0 a1 a2 a3 a4 st M Q => xw_s rfl rfl,
  fun a0 a1 a2 a3 a4 st M Q => xw_s rfl rfl,
  fun a0 a1 a2 a3 a4 st M Q => xw_s rfl rfl,
  fun a0 a1 a2 a3 a4 st M Q => xw_s rfl rfl,
  fun a0 a1 a2 a3 a4 y0 y1 y2 M Q => xw_call rfl rfl rfl,
  fun a0 a1 a2 a3 a4 y0 st M Q => xw_br (c0 := y0 = nI 0) rfl rfl,
  fun a0 a1 a2 a3 a4 st M Q => xw_s rfl rfl,
  fun a0 a1 a2 a3 a4 st M Q => xw_s rfl rfl,
  fun a0 a1 a2 a3 a4 st M Q => xw_s rfl rfl,
  fun a0 a1 a2 a3 a4 y0 y1 y2 M Q => xw_call rfl rfl rfl,
  fun a0 a1 a2 a3 a4 y0 st M Q => xw_brn (c0 := y0 ≠ nI 0) (c1 := y0 = nI 0) rfl rfl (Iff.rfl),
  fun a0 a1 a2 a3 a4 y0 M Q => xw_ret rfl rfl,
  fun a0 a1 a2 a3 a4 st M Q => xw_s rfl rfl,
  fun a0 a1 a2 a3 a4 st M Q => xw_s rfl rfl,
  fun a0 a1 a2 a3 a4 st M Q => xw_s rfl rfl,
  fun a0 a1 a2 a3 a4 st M Q => xw_s rfl rfl,
  fun a0 a1 a2 a3 a4 st M Q => xw_s rfl rfl,
  fun a0 a1 a2 a3 a4 y0 y1 M Q => xw_call rfl rfl rfl,
  fun a0 a1 a2 a3 a4 st M Q => xw_s rfl rfl,
  fun a0 a1 a2 a3 a4 st M Q => xw_s rfl rfl,
  fun a0 a1 a2 a3 a4 st M Q => xw_s rfl rfl,
  fun a0 a1 a2 a3 a4 st M Q => xw_s rfl rfl,
  fun a0 a1 a2 a3 a4 st M Q => xw_s rfl rfl,
  fun a0 a1 a2 a3 a4 st M Q => xw_s rfl rfl,
  fun a0 a1 a2 a3 a4 y0 y1 y3 M Q => xw_call rfl rfl rfl,
  fun a0 a1 a2 a3 a4 y0 M Q => xw_call rfl rfl rfl,
  fun a0 a1 a2 a3 a4 y0 st M Q => xw_brn (c0 := y0 ≠ nI 0) (c1 := y0 = nI 0) rfl rfl (Iff.rfl),
  fun a0 a1 a2 a3 a4 st M Q => xw_s rfl rfl,
  fun a0 a1 a2 a3 a4 y0 M Q => xw_ret rfl rfl,
  fun a0 a1 a2 a3 a4 st M Q => xw_s rfl rfl,
  fun a0 a1 a2 a3 a4 st M Q => xw_s rfl rfl,
  fun a0 a1 a2 a3 a4 st M Q => xw_s rfl rfl,
  fun a0 a1 a2 a3 a4 st M Q => xw_s rfl rfl,
  fun a0 a1 a2 a3 a4 st M Q => xw_s rfl rfl,
  fun a0 a1 a2 a3 a4 st M Q => xw_s rfl rfl,
  fun a0 a1 a2 a3 a4 st M Q => xw_s rfl rfl,
  fun a0 a1 a2 a3 a4 st M Q => xw_s rfl rfl,
  fun a0 a1 a2 a3 a4 y0 y1 y2 y3 M Q => xw_call rfl rfl rfl,
  fun a0 a1 a2 a3 a4 st M Q => xw_s rfl rfl,
  fun a0 a1 a2 a3 a4 st M Q => xw_s rfl rfl,
  fun a0 a1 a2 a3 a4 st M Q => xw_s rfl rfl,
  fun a0 a1 a2 a3 a4 y0 M Q => xw_call rfl rfl rfl,
  fun a0 a1 a2 a3 a4 y0 M Q => xw_ret rfl rfl⟩
set_option maxRecDepth 20000 in
theorem h106_20 :
  (∀ (a0 : Nat) (a1 : Int32) (a2 : Int32) (a3 : Int32) (a4 : Int32) (st : List Value) (M : xM) (Q : Option Value → xM → Prop), xW xSC 106 20 [.ref a0, .int a1, .int a2, .int a3, .int a4] (st) M Q = xW xSC 106 21 [.ref a0, .int a1, .int a2, .int a3, .int a4] (.int (-1) :: st) M Q) :=
  fun a0 a1 a2 a3 a4 st M Q => xw_s rfl rfl
set_option maxRecDepth 20000 in
theorem j106 :
  (∀ (a0 : Nat) (a1 : Int32) (a2 : Int32) (a3 : Int32) (a4 : Int32) (st : List Value) (M : xM) (Q : Option Value → xM → Prop), xW xSC 106 20 [.ref a0, .int a1, .int a2, .int a3, .int a4] (st) M Q = xW xSC 106 21 [.ref a0, .int a1, .int a2, .int a3, .int a4] (.int (-1) :: st) M Q) :=
  fun a0 a1 a2 a3 a4 st M Q => xw_s rfl rfl

set_option maxRecDepth 20000 in
theorem s107 :
  (∀ (a0 : Nat) (a1 : Int32) (a2 : Int32) (a3 : Value) (st : List Value) (M : xM) (Q : Option Value → xM → Prop), xW xSC 107 0 [.ref a0, .int a1, .int a2, a3] (st) M Q = xW xSC 107 1 [.ref a0, .int a1, .int a2, a3] (.ref a0 :: st) M Q) ∧
  (∀ (a0 : Nat) (a1 : Int32) (a2 : Int32) (a3 : Value) (st : List Value) (M : xM) (Q : Option Value → xM → Prop), xW xSC 107 1 [.ref a0, .int a1, .int a2, a3] (.ref 0 :: st) M Q = xW xSC 107 4 [.ref a0, .int a1, .int a2, a3] (.ref 9 :: st) M Q) ∧
  (∀ (a0 : Nat) (a1 : Int32) (a2 : Int32) (a3 : Value) (st : List Value) (M : xM) (Q : Option Value → xM → Prop), xW xSC 107 4 [.ref a0, .int a1, .int a2, a3] (st) M Q = xW xSC 107 5 [.ref a0, .int a1, .int a2, a3] (.int a1 :: st) M Q) ∧
  (∀ (a0 : Nat) (a1 : Int32) (a2 : Int32) (a3 : Value) (y0 : Int32) (M : xM) (Q : Option Value → xM → Prop), xW xSC 107 5 [.ref a0, .int a1, .int a2, a3] (.int y0 :: .ref 9 :: []) M Q = xW xSC 25 0 [.ref 9, .int y0] [] M (fun v M' => xW xSC 107 8 [.ref a0, .int a1, .int a2, a3] (xpush v []) M' Q)) ∧
  (∀ (a0 : Nat) (a1 : Int32) (a2 : Int32) (a3 : Value) (y0 : Int32) (st : List Value) (M : xM) (Q : Option Value → xM → Prop), xW xSC 107 8 [.ref a0, .int a1, .int a2, a3] (.int y0 :: st) M Q = if y0 = nI 0 then xW xSC 107 22 [.ref a0, .int a1, .int a2, a3] (st) M Q else xW xSC 107 11 [.ref a0, .int a1, .int a2, a3] (st) M Q) ∧
  (∀ (a0 : Nat) (a1 : Int32) (a2 : Int32) (a3 : Value) (st : List Value) (M : xM) (Q : Option Value → xM → Prop), xW xSC 107 11 [.ref a0, .int a1, .int a2, a3] (st) M Q = xW xSC 107 12 [.ref a0, .int a1, .int a2, a3] (.ref a0 :: st) M Q) ∧
  (∀ (a0 : Nat) (a1 : Int32) (a2 : Int32) (a3 : Value) (st : List Value) (M : xM) (Q : Option Value → xM → Prop), xW xSC 107 12 [.ref a0, .int a1, .int a2, a3] (.ref 0 :: st) M Q = xW xSC 107 15 [.ref a0, .int a1, .int a2, a3] (.ref 9 :: st) M Q) ∧
  (∀ (a0 : Nat) (a1 : Int32) (a2 : Int32) (a3 : Value) (st : List Value) (M : xM) (Q : Option Value → xM → Prop), xW xSC 107 15 [.ref a0, .int a1, .int a2, a3] (st) M Q = xW xSC 107 16 [.ref a0, .int a1, .int a2, a3] (.int a2 :: st) M Q) ∧
  (∀ (a0 : Nat) (a1 : Int32) (a2 : Int32) (a3 : Value) (y0 : Int32) (M : xM) (Q : Option Value → xM → Prop), xW xSC 107 16 [.ref a0, .int a1, .int a2, a3] (.int y0 :: .ref 9 :: []) M Q = xW xSC 24 0 [.ref 9, .int y0] [] M (fun v M' => xW xSC 107 19 [.ref a0, .int a1, .int a2, a3] (xpush v []) M' Q)) ∧
  (∀ (a0 : Nat) (a1 : Int32) (a2 : Int32) (a3 : Value) (y0 : Int32) (st : List Value) (M : xM) (Q : Option Value → xM → Prop), xW xSC 107 19 [.ref a0, .int a1, .int a2, a3] (.int y0 :: st) M Q = if y0 = nI 0 then xW xSC 107 22 [.ref a0, .int a1, .int a2, a3] (st) M Q else xW xSC 107 24 [.ref a0, .int a1, .int a2, a3] (st) M Q) ∧
  (∀ (a0 : Nat) (a1 : Int32) (a2 : Int32) (a3 : Value) (y0 : Int32) (M : xM) (Q : Option Value → xM → Prop), xW xSC 107 23 [.ref a0, .int a1, .int a2, a3] ([.int y0]) M Q = Q (some (.int y0)) M) ∧
  (∀ (a0 : Nat) (a1 : Int32) (a2 : Int32) (a3 : Value) (st : List Value) (M : xM) (Q : Option Value → xM → Prop), xW xSC 107 24 [.ref a0, .int a1, .int a2, a3] (st) M Q = xW xSC 107 25 [.ref a0, .int a1, .int a2, a3] (.ref a0 :: st) M Q) ∧
  (∀ (a0 : Nat) (a1 : Int32) (a2 : Int32) (a3 : Value) (st : List Value) (M : xM) (Q : Option Value → xM → Prop), xW xSC 107 25 [.ref a0, .int a1, .int a2, a3] (.ref 0 :: st) M Q = xW xSC 107 28 [.ref a0, .int a1, .int a2, a3] (.ref 31 :: st) M Q) ∧
  (∀ (a0 : Nat) (a1 : Int32) (a2 : Int32) (a3 : Value) (st : List Value) (M : xM) (Q : Option Value → xM → Prop), xW xSC 107 28 [.ref a0, .int a1, .int a2, a3] (st) M Q = xW xSC 107 29 [.ref a0, .int a1, .int a2, a3] (.ref a0 :: st) M Q) ∧
  (∀ (a0 : Nat) (a1 : Int32) (a2 : Int32) (a3 : Value) (st : List Value) (M : xM) (Q : Option Value → xM → Prop), xW xSC 107 29 [.ref a0, .int a1, .int a2, a3] (.ref 0 :: st) M Q = xW xSC 107 32 [.ref a0, .int a1, .int a2, a3] (.ref 9 :: st) M Q) ∧
  (∀ (a0 : Nat) (a1 : Int32) (a2 : Int32) (a3 : Value) (st : List Value) (M : xM) (Q : Option Value → xM → Prop), xW xSC 107 32 [.ref a0, .int a1, .int a2, a3] (st) M Q = xW xSC 107 33 [.ref a0, .int a1, .int a2, a3] (.int a1 :: st) M Q) ∧
  (∀ (a0 : Nat) (a1 : Int32) (a2 : Int32) (a3 : Value) (y0 : Int32) (y1 : Nat) (M : xM) (Q : Option Value → xM → Prop), xW xSC 107 33 [.ref a0, .int a1, .int a2, a3] (.int y0 :: .ref y1 :: .ref 31 :: []) M Q = xW xSC 85 0 [.ref 31, .ref y1, .int y0, .null] [] M (fun v M' => xW xSC 107 36 [.ref a0, .int a1, .int a2, a3] (xpush v []) M' Q)) ∧
  (∀ (a0 : Nat) (a1 : Int32) (a2 : Int32) (a3 : Value) (st : List Value) (M : xM) (Q : Option Value → xM → Prop), xW xSC 107 36 [.ref a0, .int a1, .int a2, a3] (st) M Q = xW xSC 107 37 [.ref a0, .int a1, .int a2, a3] (.ref a0 :: st) M Q) ∧
  (∀ (a0 : Nat) (a1 : Int32) (a2 : Int32) (a3 : Value) (st : List Value) (M : xM) (Q : Option Value → xM → Prop), xW xSC 107 37 [.ref a0, .int a1, .int a2, a3] (.ref 0 :: st) M Q = xW xSC 107 40 [.ref a0, .int a1, .int a2, a3] (.ref 9 :: st) M Q) ∧
  (∀ (a0 : Nat) (a1 : Int32) (a2 : Int32) (a3 : Value) (st : List Value) (M : xM) (Q : Option Value → xM → Prop), xW xSC 107 40 [.ref a0, .int a1, .int a2, a3] (st) M Q = xW xSC 107 41 [.ref a0, .int a1, .int a2, a3] (.int a2 :: st) M Q) ∧
  (∀ (a0 : Nat) (a1 : Int32) (a2 : Int32) (a3 : Value) (st : List Value) (M : xM) (Q : Option Value → xM → Prop), xW xSC 107 41 [.ref a0, .int a1, .int a2, a3] (st) M Q = xW xSC 107 42 [.ref a0, .int a1, .int a2, a3] (.ref a0 :: st) M Q) ∧
  (∀ (a0 : Nat) (a1 : Int32) (a2 : Int32) (a3 : Value) (st : List Value) (M : xM) (Q : Option Value → xM → Prop), xW xSC 107 42 [.ref a0, .int a1, .int a2, a3] (.ref 0 :: st) M Q = xW xSC 107 45 [.ref a0, .int a1, .int a2, a3] (.ref 31 :: st) M Q) ∧
  (∀ (a0 : Nat) (a1 : Int32) (a2 : Int32) (a3 : Value) (st : List Value) (M : xM) (Q : Option Value → xM → Prop), xW xSC 107 45 [.ref a0, .int a1, .int a2, a3] (.ref 31 :: st) M Q = xW xSC 107 48 [.ref a0, .int a1, .int a2, a3] (.int (M 31 0) :: st) M Q) ∧
  (∀ (a0 : Nat) (a1 : Int32) (a2 : Int32) (a3 : Value) (y0 : Int32) (y1 : Int32) (M : xM) (Q : Option Value → xM → Prop), xW xSC 107 48 [.ref a0, .int a1, .int a2, a3] (.int y0 :: .int y1 :: .ref 9 :: []) M Q = xW xSC 40 0 [.ref 9, .int y1, .int y0] [] M (fun v M' => xW xSC 107 51 [.ref a0, .int a1, .int a2, a3] (xpush v []) M' Q)) ∧
  (∀ (a0 : Nat) (a1 : Int32) (a2 : Int32) (a3 : Value) (y0 : Int32) (st : List Value) (M : xM) (Q : Option Value → xM → Prop), xW xSC 107 51 [.ref a0, .int a1, .int a2, a3] (.int y0 :: st) M Q = xW xSC 107 52 [.ref a0, .int a1, .int a2, .int y0] (st) M Q) ∧
  (∀ (a0 : Nat) (a1 : Int32) (a2 : Int32) (a3 : Int32) (st : List Value) (M : xM) (Q : Option Value → xM → Prop), xW xSC 107 52 [.ref a0, .int a1, .int a2, .int a3] (st) M Q = xW xSC 107 53 [.ref a0, .int a1, .int a2, .int a3] (.int a3 :: st) M Q) ∧
  (∀ (a0 : Nat) (a1 : Int32) (a2 : Int32) (a3 : Int32) (y0 : Int32) (st : List Value) (M : xM) (Q : Option Value → xM → Prop), xW xSC 107 53 [.ref a0, .int a1, .int a2, .int a3] (.int y0 :: st) M Q = if y0 < nI 0 then xW xSC 107 75 [.ref a0, .int a1, .int a2, .int a3] (st) M Q else xW xSC 107 56 [.ref a0, .int a1, .int a2, .int a3] (st) M Q) ∧
  (∀ (a0 : Nat) (a1 : Int32) (a2 : Int32) (a3 : Int32) (st : List Value) (M : xM) (Q : Option Value → xM → Prop), xW xSC 107 56 [.ref a0, .int a1, .int a2, .int a3] (st) M Q = xW xSC 107 57 [.ref a0, .int a1, .int a2, .int a3] (.ref a0 :: st) M Q) ∧
  (∀ (a0 : Nat) (a1 : Int32) (a2 : Int32) (a3 : Int32) (st : List Value) (M : xM) (Q : Option Value → xM → Prop), xW xSC 107 57 [.ref a0, .int a1, .int a2, .int a3] (.ref 0 :: st) M Q = xW xSC 107 60 [.ref a0, .int a1, .int a2, .int a3] (.ref 31 :: st) M Q) ∧
  (∀ (a0 : Nat) (a1 : Int32) (a2 : Int32) (a3 : Int32) (st : List Value) (M : xM) (Q : Option Value → xM → Prop), xW xSC 107 60 [.ref a0, .int a1, .int a2, .int a3] (st) M Q = xW xSC 107 61 [.ref a0, .int a1, .int a2, .int a3] (.ref a0 :: st) M Q) ∧
  (∀ (a0 : Nat) (a1 : Int32) (a2 : Int32) (a3 : Int32) (st : List Value) (M : xM) (Q : Option Value → xM → Prop), xW xSC 107 61 [.ref a0, .int a1, .int a2, .int a3] (.ref 0 :: st) M Q = xW xSC 107 64 [.ref a0, .int a1, .int a2, .int a3] (.ref 9 :: st) M Q) ∧
  (∀ (a0 : Nat) (a1 : Int32) (a2 : Int32) (a3 : Int32) (st : List Value) (M : xM) (Q : Option Value → xM → Prop), xW xSC 107 64 [.ref a0, .int a1, .int a2, .int a3] (st) M Q = xW xSC 107 65 [.ref a0, .int a1, .int a2, .int a3] (.int a2 :: st) M Q) ∧
  (∀ (a0 : Nat) (a1 : Int32) (a2 : Int32) (a3 : Int32) (st : List Value) (M : xM) (Q : Option Value → xM → Prop), xW xSC 107 65 [.ref a0, .int a1, .int a2, .int a3] (st) M Q = xW xSC 107 66 [.ref a0, .int a1, .int a2, .int a3] (.int a3 :: st) M Q) ∧
  (∀ (a0 : Nat) (a1 : Int32) (a2 : Int32) (a3 : Int32) (y0 : Int32) (y1 : Int32) (y3 : Nat) (M : xM) (Q : Option Value → xM → Prop), xW xSC 107 66 [.ref a0, .int a1, .int a2, .int a3] (.int y0 :: .int y1 :: .ref 9 :: .ref y3 :: []) M Q = xW xSC 37 0 [.ref 9, .int y1, .int y0] [] M (fun v M' => xW xSC 107 69 [.ref a0, .int a1, .int a2, .int a3] (xpush v [.ref y3]) M' Q)) ∧
  (∀ (a0 : Nat) (a1 : Int32) (a2 : Int32) (a3 : Int32) (y0 : Int32) (M : xM) (Q : Option Value → xM → Prop), xW xSC 107 69 [.ref a0, .int a1, .int a2, .int a3] (.int y0 :: .ref 31 :: []) M Q = xW xSC 87 0 [.ref 31, .int y0] [] M (fun v M' => xW xSC 107 72 [.ref a0, .int a1, .int a2, .int a3] (xpush v []) M' Q)) ∧
  (∀ (a0 : Nat) (a1 : Int32) (a2 : Int32) (a3 : Int32) (y0 : Int32) (st : List Value) (M : xM) (Q : Option Value → xM → Prop), xW xSC 107 72 [.ref a0, .int a1, .int a2, .int a3] (.int y0 :: st) M Q = if y0 = nI 0 then xW xSC 107 75 [.ref a0, .int a1, .int a2, .int a3] (st) M Q else xW xSC 107 78 [.ref a0, .int a1, .int a2, .int a3] (st) M Q) ∧
  (∀ (a0 : Nat) (a1 : Int32) (a2 : Int32) (a3 : Int32) (y0 : Int32) (M : xM) (Q : Option Value → xM → Prop), xW xSC 107 77 [.ref a0, .int a1, .int a2, .int a3] ([.int y0]) M Q = Q (some (.int y0)) M) ∧
  (∀ (a0 : Nat) (a1 : Int32) (a2 : Int32) (a3 : Int32) (st : List Value) (M : xM) (Q : Option Value → xM → Prop), xW xSC 107 78 [.ref a0, .int a1, .int a2, .int a3] (st) M Q = xW xSC 107 79 [.ref a0, .int a1, .int a2, .int a3] (.ref a0 :: st) M Q) ∧
  (∀ (a0 : Nat) (a1 : Int32) (a2 : Int32) (a3 : Int32) (st : List Value) (M : xM) (Q : Option Value → xM → Prop), xW xSC 107 79 [.ref a0, .int a1, .int a2, .int a3] (.ref 0 :: st) M Q = xW xSC 107 82 [.ref a0, .int a1, .int a2, .int a3] (.ref 24 :: st) M Q) ∧
  (∀ (a0 : Nat) (a1 : Int32) (a2 : Int32) (a3 : Int32) (st : List Value) (M : xM) (Q : Option Value → xM → Prop), xW xSC 107 82 [.ref a0, .int a1, .int a2, .int a3] (st) M Q = xW xSC 107 83 [.ref a0, .int a1, .int a2, .int a3] (.ref a0 :: st) M Q) ∧
  (∀ (a0 : Nat) (a1 : Int32) (a2 : Int32) (a3 : Int32) (st : List Value) (M : xM) (Q : Option Value → xM → Prop), xW xSC 107 83 [.ref a0, .int a1, .int a2, .int a3] (.ref 0 :: st) M Q = xW xSC 107 86 [.ref a0, .int a1, .int a2, .int a3] (.ref 9 :: st) M Q) ∧
  (∀ (a0 : Nat) (a1 : Int32) (a2 : Int32) (a3 : Int32) (st : List Value) (M : xM) (Q : Option Value → xM → Prop), xW xSC 107 86 [.ref a0, .int a1, .int a2, .int a3] (st) M Q = xW xSC 107 87 [.ref a0, .int a1, .int a2, .int a3] (.int a1 :: st) M Q) ∧
  (∀ (a0 : Nat) (a1 : Int32) (a2 : Int32) (a3 : Int32) (st : List Value) (M : xM) (Q : Option Value → xM → Prop), xW xSC 107 87 [.ref a0, .int a1, .int a2, .int a3] (st) M Q = xW xSC 107 88 [.ref a0, .int a1, .int a2, .int a3] (.int (nI 2) :: st) M Q) ∧
  (∀ (a0 : Nat) (a1 : Int32) (a2 : Int32) (a3 : Int32) (st : List Value) (M : xM) (Q : Option Value → xM → Prop), xW xSC 107 88 [.ref a0, .int a1, .int a2, .int a3] (st) M Q = xW xSC 107 89 [.ref a0, .int a1, .int a2, .int a3] (.int a2 :: st) M Q) ∧
  (∀ (a0 : Nat) (a1 : Int32) (a2 : Int32) (a3 : Int32) (y0 : Int32) (y1 : Int32) (st : List Value) (M : xM) (Q : Option Value → xM → Prop), xW xSC 107 89 [.ref a0, .int a1, .int a2, .int a3] (.int y0 :: .int y1 :: st) M Q = xW xSC 107 90 [.ref a0, .int a1, .int a2, .int a3] (.int (y1 * y0) :: st) M Q) ∧
  (∀ (a0 : Nat) (a1 : Int32) (a2 : Int32) (a3 : Int32) (st : List Value) (M : xM) (Q : Option Value → xM → Prop), xW xSC 107 90 [.ref a0, .int a1, .int a2, .int a3] (st) M Q = xW xSC 107 91 [.ref a0, .int a1, .int a2, .int a3] (.int a3 :: st) M Q) ∧
  (∀ (a0 : Nat) (a1 : Int32) (a2 : Int32) (a3 : Int32) (y0 : Int32) (y1 : Int32) (st : List Value) (M : xM) (Q : Option Value → xM → Prop), xW xSC 107 91 [.ref a0, .int a1, .int a2, .int a3] (.int y0 :: .int y1 :: st) M Q = xW xSC 107 92 [.ref a0, .int a1, .int a2, .int a3] (.int (y1 + y0) :: st) M Q) ∧
  (∀ (a0 : Nat) (a1 : Int32) (a2 : Int32) (a3 : Int32) (y0 : Int32) (y1 : Int32) (y2 : Nat) (M : xM) (Q : Option Value → xM → Prop), xW xSC 107 92 [.ref a0, .int a1, .int a2, .int a3] (.int y0 :: .int y1 :: .ref y2 :: .ref 24 :: []) M Q = xW xSC 6 0 [.ref 24, .ref y2, .int y1, .int y0, .null] [] M (fun v M' => xW xSC 107 95 [.ref a0, .int a1, .int a2, .int a3] (xpush v []) M' Q)) ∧
  (∀ (a0 : Nat) (a1 : Int32) (a2 : Int32) (a3 : Int32) (st : List Value) (M : xM) (Q : Option Value → xM → Prop), xW xSC 107 95 [.ref a0, .int a1, .int a2, .int a3] (st) M Q = xW xSC 107 96 [.ref a0, .int a1, .int a2, .int a3] (.ref a0 :: st) M Q) ∧
  (∀ (a0 : Nat) (a1 : Int32) (a2 : Int32) (a3 : Int32) (st : List Value) (M : xM) (Q : Option Value → xM → Prop), xW xSC 107 96 [.ref a0, .int a1, .int a2, .int a3] (.ref 0 :: st) M Q = xW xSC 107 99 [.ref a0, .int a1, .int a2, .int a3] (.ref 31 :: st) M Q) ∧
  (∀ (a0 : Nat) (a1 : Int32) (a2 : Int32) (a3 : Int32) (st : List Value) (M : xM) (Q : Option Value → xM → Prop), xW xSC 107 99 [.ref a0, .int a1, .int a2, .int a3] (st) M Q = xW xSC 107 100 [.ref a0, .int a1, .int a2, .int a3] (.ref a0 :: st) M Q) ∧
  (∀ (a0 : Nat) (a1 : Int32) (a2 : Int32) (a3 : Int32) (st : List Value) (M : xM) (Q : Option Value → xM → Prop), xW xSC 107 100 [.ref a0, .int a1, .int a2, .int a3] (.ref 0 :: st) M Q = xW xSC 107 103 [.ref a0, .int a1, .int a2, .int a3] (.ref 9 :: st) M Q) ∧
  (∀ (a0 : Nat) (a1 : Int32) (a2 : Int32) (a3 : Int32) (st : List Value) (M : xM) (Q : Option Value → xM → Prop), xW xSC 107 103 [.ref a0, .int a1, .int a2, .int a3] (st) M Q = xW xSC 107 104 [.ref a0, .int a1, .int a2, .int a3] (.int a2 :: st) M Q) ∧
  (∀ (a0 : Nat) (a1 : Int32) (a2 : Int32) (a3 : Int32) (st : List Value) (M : xM) (Q : Option Value → xM → Prop), xW xSC 107 104 [.ref a0, .int a1, .int a2, .int a3] (st) M Q = xW xSC 107 105 [.ref a0, .int a1, .int a2, .int a3] (.int a3 :: st) M Q) ∧
  (∀ (a0 : Nat) (a1 : Int32) (a2 : Int32) (a3 : Int32) (y0 : Int32) (y1 : Int32) (y2 : Nat) (M : xM) (Q : Option Value → xM → Prop), xW xSC 107 105 [.ref a0, .int a1, .int a2, .int a3] (.int y0 :: .int y1 :: .ref y2 :: .ref 31 :: []) M Q = xW xSC 88 0 [.ref 31, .ref y2, .int y1, .int y0, .null] [] M (fun v M' => xW xSC 107 108 [.ref a0, .int a1, .int a2, .int a3] (xpush v []) M' Q)) ∧
  (∀ (a0 : Nat) (a1 : Int32) (a2 : Int32) (a3 : Int32) (st : List Value) (M : xM) (Q : Option Value → xM → Prop), xW xSC 107 108 [.ref a0, .int a1, .int a2, .int a3] (st) M Q = xW xSC 107 109 [.ref a0, .int a1, .int a2, .int a3] (.ref a0 :: st) M Q) ∧
  (∀ (a0 : Nat) (a1 : Int32) (a2 : Int32) (a3 : Int32) (st : List Value) (M : xM) (Q : Option Value → xM → Prop), xW xSC 107 109 [.ref a0, .int a1, .int a2, .int a3] (.ref 0 :: st) M Q = xW xSC 107 112 [.ref a0, .int a1, .int a2, .int a3] (.ref 31 :: st) M Q) ∧
  (∀ (a0 : Nat) (a1 : Int32) (a2 : Int32) (a3 : Int32) (st : List Value) (M : xM) (Q : Option Value → xM → Prop), xW xSC 107 112 [.ref a0, .int a1, .int a2, .int a3] (st) M Q = xW xSC 107 113 [.ref a0, .int a1, .int a2, .int a3] (.ref a0 :: st) M Q) ∧
  (∀ (a0 : Nat) (a1 : Int32) (a2 : Int32) (a3 : Int32) (st : List Value) (M : xM) (Q : Option Value → xM → Prop), xW xSC 107 113 [.ref a0, .int a1, .int a2, .int a3] (.ref 0 :: st) M Q = xW xSC 107 116 [.ref a0, .int a1, .int a2, .int a3] (.ref 9 :: st) M Q) ∧
  (∀ (a0 : Nat) (a1 : Int32) (a2 : Int32) (a3 : Int32) (st : List Value) (M : xM) (Q : Option Value → xM → Prop), xW xSC 107 116 [.ref a0, .int a1, .int a2, .int a3] (st) M Q = xW xSC 107 117 [.ref a0, .int a1, .int a2, .int a3] (.int a1 :: st) M Q) ∧
  (∀ (a0 : Nat) (a1 : Int32) (a2 : Int32) (a3 : Int32) (y0 : Int32) (y1 : Nat) (M : xM) (Q : Option Value → xM → Prop), xW xSC 107 117 [.ref a0, .int a1, .int a2, .int a3] (.int y0 :: .ref y1 :: .ref 31 :: []) M Q = xW xSC 86 0 [.ref 31, .ref y1, .int y0, .null] [] M (fun v M' => xW xSC 107 120 [.ref a0, .int a1, .int a2, .int a3] (xpush v []) M' Q)) ∧
  (∀ (a0 : Nat) (a1 : Int32) (a2 : Int32) (a3 : Int32) (st : List Value) (M : xM) (Q : Option Value → xM → Prop), xW xSC 107 120 [.ref a0, .int a1, .int a2, .int a3] (st) M Q = xW xSC 107 121 [.ref a0, .int a1, .int a2, .int a3] (.ref a0 :: st) M Q) ∧
  (∀ (a0 : Nat) (a1 : Int32) (a2 : Int32) (a3 : Int32) (st : List Value) (M : xM) (Q : Option Value → xM → Prop), xW xSC 107 121 [.ref a0, .int a1, .int a2, .int a3] (.ref 0 :: st) M Q = xW xSC 107 124 [.ref a0, .int a1, .int a2, .int a3] (.ref 31 :: st) M Q) ∧
  (∀ (a0 : Nat) (a1 : Int32) (a2 : Int32) (a3 : Int32) (st : List Value) (M : xM) (Q : Option Value → xM → Prop), xW xSC 107 124 [.ref a0, .int a1, .int a2, .int a3] (.ref 31 :: st) M Q = xW xSC 107 127 [.ref a0, .int a1, .int a2, .int a3] (.int (M 31 0) :: st) M Q) ∧
  (∀ (a0 : Nat) (a1 : Int32) (a2 : Int32) (a3 : Int32) (y0 : Int32) (M : xM) (Q : Option Value → xM → Prop), xW xSC 107 127 [.ref a0, .int a1, .int a2, .int a3] ([.int y0]) M Q = Q (some (.int y0)) M) :=
  ⟨fun a0 a1 a2 a3 st M Q => xw_s rfl rfl,
  fun a0 a1 a2 a3 st M Q => xw_s rfl rfl,
  fun a0 a1 a2 a3 st M Q => xw_s rfl rfl,
  fun a0 a1 a2 a3 y0 M Q => xw_call rfl rfl rfl,
  fun a0 a1 a2 a3 y0 st M Q => xw_br (c0 := y0 = nI 0) rfl rfl,
  fun a0 a1 a2 a3 st M Q => xw_s rfl rfl,
  fun a0 a1 a2 a3 st M Q => xw_s rfl rfl,
  fun a0 a1 a2 a3 st M Q => xw_s rfl rfl,
  fun a0 a1 a2 a3 y0 M Q => xw_call rfl rfl rfl,
  fun a0 a1 a2 a3 y0 st M Q => xw_brn (c0 := y0 ≠ nI 0) (c1 := y0 = nI 0) rfl rfl (Iff.rfl),
  fun a0 a1 a2 a3 y0 M Q => xw_ret rfl rfl,
  fun a0 a1 a2 a3 st M Q => xw_s rfl rfl,
  fun a0 a1 a2 a3 st M Q => xw_s rfl rfl,
  fun a0 a1 a2 a3 st M Q => xw_s rfl rfl,
  fun a0 a1 a2 a3 st M Q => xw_s rfl rfl,
  fun a0 a1 a2 a3 st M Q => xw_s rfl rfl,
  fun a0 a1 a2 a3 y0 y1 M Q => xw_call rfl rfl rfl,
  fun a0 a1 a2 a3 st M Q => xw_s rfl rfl,
  fun a0 a1 a2 a3 st M Q => xw_s rfl rfl,
  fun a0 a1 a2 a3 st M Q => xw_s rfl rfl,
  fun a0 a1 a2 a3 st M Q => xw_s rfl rfl,
  fun a0 a1 a2 a3 st M Q => xw_s rfl rfl,
  fun a0 a1 a2 a3 st M Q => xw_s rfl rfl,
  fun a0 a1 a2 a3 y0 y1 M Q => xw_call rfl rfl rfl,
  fun a0 a1 a2 a3 y0 st M Q => xw_s rfl rfl,
  fun a0 a1 a2 a3 st M Q => xw_s rfl rfl,
  fun a0 a1 a2 a3 y0 st M Q => xw_br (c0 := y0 < nI 0) rfl rfl,
  fun a0 a1 a2 a3 st M Q => xw_s rfl rfl,
  fun a0 a1 a2 a3 st M Q => xw_s rfl rfl,
  fun a0 a1 a2 a3 st M Q => xw_s rfl rfl,
  fun a0 a1 a2 a3 st M Q => xw_s rfl rfl,
  fun a0 a1 a2 a3 st M Q => xw_s rfl rfl,
  fun a0 a1 a2 a3 st M Q => xw_s rfl rfl,
  fun a0 a1 a2 a3 y0 y1 y3 M Q => xw_call rfl rfl rfl,
  fun a0 a1 a2 a3 y0 M Q => xw_call rfl rfl rfl,
  fun a0 a1 a2 a3 y0 st M Q => xw_brn (c0 := y0 ≠ nI 0) (c1 := y0 = nI 0) rfl rfl (Iff.rfl),
  fun a0 a1 a2 a3 y0 M Q => xw_ret rfl rfl,
  fun a0 a1 a2 a3 st M Q => xw_s rfl rfl,
  fun a0 a1 a2 a3 st M Q => xw_s rfl rfl,
  fun a0 a1 a2 a3 st M Q => xw_s rfl rfl,
  fun a0 a1 a2 a3 st M Q => xw_s rfl rfl,
  fun a0 a1 a2 a3 st M Q => xw_s rfl rfl,
  fun a0 a1 a2 a3 st M Q => xw_s rfl rfl,
  fun a0 a1 a2 a3 st M Q => xw_s rfl rfl,
  fun a0 a1 a2 a3 y0 y1 st M Q => xw_s rfl rfl,
  fun a0 a1 a2 a3 st M Q => xw_s rfl rfl,
  fun a0 a1 a2 a3 y0 y1 st M Q => xw_s rfl rfl,
  fun a0 a1 a2 a3 y0 y1 y2 M Q => xw_call rfl rfl rfl,
  fun a0 a1 a2 a3 st M Q => xw_s rfl rfl,
  fun a0 a1 a2 a3 st M Q => xw_s rfl rfl,
  fun a0 a1 a2 a3 st M Q => xw_s rfl rfl,
  fun a0 a1 a2 a3 st M Q => xw_s rfl rfl,
  fun a0 a1 a2 a3 st M Q => xw_s rfl rfl,
  fun a0 a1 a2 a3 st M Q => xw_s rfl rfl,
  fun a0 a1 a2 a3 y0 y1 y2 M Q => xw_call rfl rfl rfl,
  fun a0 a1 a2 a3 st M Q => xw_s rfl rfl,
  fun a0 a1 a2 a3 st M Q => xw_s rfl rfl,
  fun a0 a1 a2 a3 st M Q => xw_s rfl rfl,
  fun a0 a1 a2 a3 st M Q => xw_s rfl rfl,
  fun a0 a1 a2 a3 st M Q => xw_s rfl rfl,
  fun a0 a1 a2 a3 y0 y1 M Q => xw_call rfl rfl rfl,
  fun a0 a1 a2 a3 st M Q => xw_s rfl rfl,
  fun a0 a1 a2 a3 st M Q => xw_s rfl rfl,
  fun a0 a1 a2 a3 st M Q => xw_s rfl rfl,
  fun a0 a1 a2 a3 y0 M Q => xw_ret rfl rfl⟩
set_option maxRecDepth 20000 in
theorem h107_22 :
  (∀ (a0 : Nat) (a1 : Int32) (a2 : Int32) (a3 : Value) (st : List Value) (M : xM) (Q : Option Value → xM → Prop), xW xSC 107 22 [.ref a0, .int a1, .int a2, a3] (st) M Q = xW xSC 107 23 [.ref a0, .int a1, .int a2, a3] (.int (-1) :: st) M Q) :=
  fun a0 a1 a2 a3 st M Q => xw_s rfl rfl
set_option maxRecDepth 20000 in
theorem h107_75 :
  (∀ (a0 : Nat) (a1 : Int32) (a2 : Int32) (a3 : Int32) (st : List Value) (M : xM) (Q : Option Value → xM → Prop), xW xSC 107 75 [.ref a0, .int a1, .int a2, .int a3] (st) M Q = xW xSC 107 77 [.ref a0, .int a1, .int a2, .int a3] (.int (-2) :: st) M Q) :=
  fun a0 a1 a2 a3 st M Q => xw_s rfl rfl
set_option maxRecDepth 20000 in
theorem j107 :
  (∀ (a0 : Nat) (a1 : Int32) (a2 : Int32) (a3 : Value) (st : List Value) (M : xM) (Q : Option Value → xM → Prop), xW xSC 107 22 [.ref a0, .int a1, .int a2, a3] (st) M Q = xW xSC 107 23 [.ref a0, .int a1, .int a2, a3] (.int (-1) :: st) M Q) ∧
  (∀ (a0 : Nat) (a1 : Int32) (a2 : Int32) (a3 : Int32) (st : List Value) (M : xM) (Q : Option Value → xM → Prop), xW xSC 107 75 [.ref a0, .int a1, .int a2, .int a3] (st) M Q = xW xSC 107 77 [.ref a0, .int a1, .int a2, .int a3] (.int (-2) :: st) M Q) :=
  ⟨fun a0 a1 a2 a3 st M Q => xw_s rfl rfl,
  fun a0 a1 a2 a3 st M Q => xw_s rfl rfl⟩

set_option maxRecDepth 20000 in
theorem s108 :
  (∀ (a0 : Nat) (a1 : Int32) (a2 : Int32) (a3 : Int32) (a4 : Value) (st : List Value) (M : xM) (Q : Option Value → xM → Prop), xW xSC 108 0 [.ref a0, .int a1, .int a2, .int a3, a4] (st) M Q = xW xSC 108 1 [.ref a0, .int a1, .int a2, .int a3, a4] (.ref a0 :: st) M Q) ∧
  (∀ (a0 : Nat) (a1 : Int32) (a2 : Int32) (a3 : Int32) (a4 : Value) (st : List Value) (M : xM) (Q : Option Value → xM → Prop), xW xSC 108 1 [.ref a0, .int a1, .int a2, .int a3, a4] (st) M Q = xW xSC 108 2 [.ref a0, .int a1, .int a2, .int a3, a4] (.int a1 :: st) M Q) ∧
  (∀ (a0 : Nat) (a1 : Int32) (a2 : Int32) (a3 : Int32) (a4 : Value) (st : List Value) (M : xM) (Q : Option Value → xM → Prop), xW xSC 108 2 [.ref a0, .int a1, .int a2, .int a3, a4] (st) M Q = xW xSC 108 3 [.ref a0, .int a1, .int a2, .int a3, a4] (.int a2 :: st) M Q) ∧
  (∀ (a0 : Nat) (a1 : Int32) (a2 : Int32) (a3 : Int32) (a4 : Value) (y0 : Int32) (y1 : Int32) (M : xM) (Q : Option Value → xM → Prop), xW xSC 108 3 [.ref a0, .int a1, .int a2, .int a3, a4] (.int y0 :: .int y1 :: .ref 0 :: []) M Q = xW xSC 133 0 [.ref 0, .int y1, .int y0] [] M (fun v M' => xW xSC 108 6 [.ref a0, .int a1, .int a2, .int a3, a4] (xpush v []) M' Q)) ∧
  (∀ (a0 : Nat) (a1 : Int32) (a2 : Int32) (a3 : Int32) (a4 : Value) (y0 : Int32) (st : List Value) (M : xM) (Q : Option Value → xM → Prop), xW xSC 108 6 [.ref a0, .int a1, .int a2, .int a3, a4] (.int y0 :: st) M Q = if y0 = nI 0 then xW xSC 108 19 [.ref a0, .int a1, .int a2, .int a3, a4] (st) M Q else xW xSC 108 9 [.ref a0, .int a1, .int a2, .int a3, a4] (st) M Q) ∧
  (∀ (a0 : Nat) (a1 : Int32) (a2 : Int32) (a3 : Int32) (a4 : Value) (st : List Value) (M : xM) (Q : Option Value → xM → Prop), xW xSC 108 9 [.ref a0, .int a1, .int a2, .int a3, a4] (st) M Q = xW xSC 108 10 [.ref a0, .int a1, .int a2, .int a3, a4] (.int a3 :: st) M Q) ∧
  (∀ (a0 : Nat) (a1 : Int32) (a2 : Int32) (a3 : Int32) (a4 : Value) (st : List Value) (M : xM) (Q : Option Value → xM → Prop), xW xSC 108 10 [.ref a0, .int a1, .int a2, .int a3, a4] (st) M Q = xW xSC 108 11 [.ref a0, .int a1, .int a2, .int a3, a4] (.int (nI 0) :: st) M Q) ∧
  (∀ (a0 : Nat) (a1 : Int32) (a2 : Int32) (a3 : Int32) (a4 : Value) (st : List Value) (M : xM) (Q : Option Value → xM → Prop), xW xSC 108 11 [.ref a0, .int a1, .int a2, .int a3, a4] (st) M Q = xW xSC 108 13 [.ref a0, .int a1, .int a2, .int a3, a4] (.int (nI 63) :: st) M Q) ∧
  (∀ (a0 : Nat) (a1 : Int32) (a2 : Int32) (a3 : Int32) (a4 : Value) (y0 : Int32) (y1 : Int32) (y2 : Int32) (M : xM) (Q : Option Value → xM → Prop), xW xSC 108 13 [.ref a0, .int a1, .int a2, .int a3, a4] (.int y0 :: .int y1 :: .int y2 :: []) M Q = xW xSC 132 0 [.int y2, .int y1, .int y0] [] M (fun v M' => xW xSC 108 16 [.ref a0, .int a1, .int a2, .int a3, a4] (xpush v []) M' Q)) ∧
  (∀ (a0 : Nat) (a1 : Int32) (a2 : Int32) (a3 : Int32) (a4 : Value) (y0 : Int32) (st : List Value) (M : xM) (Q : Option Value → xM → Prop), xW xSC 108 16 [.ref a0, .int a1, .int a2, .int a3, a4] (.int y0 :: st) M Q = if y0 = nI 0 then xW xSC 108 19 [.ref a0, .int a1, .int a2, .int a3, a4] (st) M Q else xW xSC 108 21 [.ref a0, .int a1, .int a2, .int a3, a4] (st) M Q) ∧
  (∀ (a0 : Nat) (a1 : Int32) (a2 : Int32) (a3 : Int32) (a4 : Value) (y0 : Int32) (M : xM) (Q : Option Value → xM → Prop), xW xSC 108 20 [.ref a0, .int a1, .int a2, .int a3, a4] ([.int y0]) M Q = Q (some (.int y0)) M) ∧
  (∀ (a0 : Nat) (a1 : Int32) (a2 : Int32) (a3 : Int32) (a4 : Value) (st : List Value) (M : xM) (Q : Option Value → xM → Prop), xW xSC 108 21 [.ref a0, .int a1, .int a2, .int a3, a4] (st) M Q = xW xSC 108 22 [.ref a0, .int a1, .int a2, .int a3, a4] (.ref a0 :: st) M Q) ∧
  (∀ (a0 : Nat) (a1 : Int32) (a2 : Int32) (a3 : Int32) (a4 : Value) (st : List Value) (M : xM) (Q : Option Value → xM → Prop), xW xSC 108 22 [.ref a0, .int a1, .int a2, .int a3, a4] (.ref 0 :: st) M Q = xW xSC 108 25 [.ref a0, .int a1, .int a2, .int a3, a4] (.ref 9 :: st) M Q) ∧
  (∀ (a0 : Nat) (a1 : Int32) (a2 : Int32) (a3 : Int32) (a4 : Value) (st : List Value) (M : xM) (Q : Option Value → xM → Prop), xW xSC 108 25 [.ref a0, .int a1, .int a2, .int a3, a4] (st) M Q = xW xSC 108 26 [.ref a0, .int a1, .int a2, .int a3, a4] (.int a1 :: st) M Q) ∧
  (∀ (a0 : Nat) (a1 : Int32) (a2 : Int32) (a3 : Int32) (a4 : Value) (st : List Value) (M : xM) (Q : Option Value → xM → Prop), xW xSC 108 26 [.ref a0, .int a1, .int a2, .int a3, a4] (st) M Q = xW xSC 108 27 [.ref a0, .int a1, .int a2, .int a3, a4] (.int a2 :: st) M Q) ∧
  (∀ (a0 : Nat) (a1 : Int32) (a2 : Int32) (a3 : Int32) (a4 : Value) (y0 : Int32) (y1 : Int32) (M : xM) (Q : Option Value → xM → Prop), xW xSC 108 27 [.ref a0, .int a1, .int a2, .int a3, a4] (.int y0 :: .int y1 :: .ref 9 :: []) M Q = xW xSC 36 0 [.ref 9, .int y1, .int y0] [] M (fun v M' => xW xSC 108 30 [.ref a0, .int a1, .int a2, .int a3, a4] (xpush v []) M' Q)) ∧
  (∀ (a0 : Nat) (a1 : Int32) (a2 : Int32) (a3 : Int32) (a4 : Value) (y0 : Int32) (st : List Value) (M : xM) (Q : Option Value → xM → Prop), xW xSC 108 30 [.ref a0, .int a1, .int a2, .int a3, a4] (.int y0 :: st) M Q = xW xSC 108 32 [.ref a0, .int a1, .int a2, .int a3, .int y0] (st) M Q) ∧
  (∀ (a0 : Nat) (a1 : Int32) (a2 : Int32) (a3 : Int32) (a4 : Int32) (st : List Value) (M : xM) (Q : Option Value → xM → Prop), xW xSC 108 32 [.ref a0, .int a1, .int a2, .int a3, .int a4] (st) M Q = xW xSC 108 33 [.ref a0, .int a1, .int a2, .int a3, .int a4] (.ref a0 :: st) M Q) ∧
  (∀ (a0 : Nat) (a1 : Int32) (a2 : Int32) (a3 : Int32) (a4 : Int32) (st : List Value) (M : xM) (Q : Option Value → xM → Prop), xW xSC 108 33 [.ref a0, .int a1, .int a2, .int a3, .int a4] (.ref 0 :: st) M Q = xW xSC 108 36 [.ref a0, .int a1, .int a2, .int a3, .int a4] (.ref 24 :: st) M Q) ∧
  (∀ (a0 : Nat) (a1 : Int32) (a2 : Int32) (a3 : Int32) (a4 : Int32) (st : List Value) (M : xM) (Q : Option Value → xM → Prop), xW xSC 108 36 [.ref a0, .int a1, .int a2, .int a3, .int a4] (st) M Q = xW xSC 108 37 [.ref a0, .int a1, .int a2, .int a3, .int a4] (.int a1 :: st) M Q) ∧
  (∀ (a0 : Nat) (a1 : Int32) (a2 : Int32) (a3 : Int32) (a4 : Int32) (st : List Value) (M : xM) (Q : Option Value → xM → Prop), xW xSC 108 37 [.ref a0, .int a1, .int a2, .int a3, .int a4] (st) M Q = xW xSC 108 38 [.ref a0, .int a1, .int a2, .int a3, .int a4] (.int (nI 4) :: st) M Q) ∧
  (∀ (a0 : Nat) (a1 : Int32) (a2 : Int32) (a3 : Int32) (a4 : Int32) (st : List Value) (M : xM) (Q : Option Value → xM → Prop), xW xSC 108 38 [.ref a0, .int a1, .int a2, .int a3, .int a4] (st) M Q = xW xSC 108 39 [.ref a0, .int a1, .int a2, .int a3, .int a4] (.int a2 :: st) M Q) ∧
  (∀ (a0 : Nat) (a1 : Int32) (a2 : Int32) (a3 : Int32) (a4 : Int32) (y0 : Int32) (y1 : Int32) (st : List Value) (M : xM) (Q : Option Value → xM → Prop), xW xSC 108 39 [.ref a0, .int a1, .int a2, .int a3, .int a4] (.int y0 :: .int y1 :: st) M Q = xW xSC 108 40 [.ref a0, .int a1, .int a2, .int a3, .int a4] (.int (y1 + y0) :: st) M Q) ∧
  (∀ (a0 : Nat) (a1 : Int32) (a2 : Int32) (a3 : Int32) (a4 : Int32) (st : List Value) (M : xM) (Q : Option Value → xM → Prop), xW xSC 108 40 [.ref a0, .int a1, .int a2, .int a3, .int a4] (st) M Q = xW xSC 108 42 [.ref a0, .int a1, .int a2, .int a3, .int a4] (.int a4 :: st) M Q) ∧
  (∀ (a0 : Nat) (a1 : Int32) (a2 : Int32) (a3 : Int32) (a4 : Int32) (y0 : Int32) (y1 : Int32) (y2 : Int32) (M : xM) (Q : Option Value → xM → Prop), xW xSC 108 42 [.ref a0, .int a1, .int a2, .int a3, .int a4] (.int y0 :: .int y1 :: .int y2 :: .ref 24 :: []) M Q = xW xSC 7 0 [.ref 24, .int y2, .int y1, .int y0, .null] [] M (fun v M' => xW xSC 108 45 [.ref a0, .int a1, .int a2, .int a3, .int a4] (xpush v []) M' Q)) ∧
  (∀ (a0 : Nat) (a1 : Int32) (a2 : Int32) (a3 : Int32) (a4 : Int32) (st : List Value) (M : xM) (Q : Option Value → xM → Prop), xW xSC 108 45 [.ref a0, .int a1, .int a2, .int a3, .int a4] (st) M Q = xW xSC 108 46 [.ref a0, .int a1, .int a2, .int a3, .int a4] (.ref a0 :: st) M Q) ∧
  (∀ (a0 : Nat) (a1 : Int32) (a2 : Int32) (a3 : Int32) (a4 : Int32) (st : List Value) (M : xM) (Q : Option Value → xM → Prop), xW xSC 108 46 [.ref a0, .int a1, .int a2, .int a3, .int a4] (.ref 0 :: st) M Q = xW xSC 108 49 [.ref a0, .int a1, .int a2, .int a3, .int a4] (.ref 9 :: st) M Q) ∧
  (∀ (a0 : Nat) (a1 : Int32) (a2 : Int32) (a3 : Int32) (a4 : Int32) (st : List Value) (M : xM) (Q : Option Value → xM → Prop), xW xSC 108 49 [.ref a0, .int a1, .int a2, .int a3, .int a4] (st) M Q = xW xSC 108 50 [.ref a0, .int a1, .int a2, .int a3, .int a4] (.int a1 :: st) M Q) ∧
  (∀ (a0 : Nat) (a1 : Int32) (a2 : Int32) (a3 : Int32) (a4 : Int32) (st : List Value) (M : xM) (Q : Option Value → xM → Prop), xW xSC 108 50 [.ref a0, .int a1, .int a2, .int a3, .int a4] (st) M Q = xW xSC 108 51 [.ref a0, .int a1, .int a2, .int a3, .int a4] (.int (nI 4) :: st) M Q) ∧
  (∀ (a0 : Nat) (a1 : Int32) (a2 : Int32) (a3 : Int32) (a4 : Int32) (st : List Value) (M : xM) (Q : Option Value → xM → Prop), xW xSC 108 51 [.ref a0, .int a1, .int a2, .int a3, .int a4] (st) M Q = xW xSC 108 52 [.ref a0, .int a1, .int a2, .int a3, .int a4] (.int a2 :: st) M Q) ∧
  (∀ (a0 : Nat) (a1 : Int32) (a2 : Int32) (a3 : Int32) (a4 : Int32) (y0 : Int32) (y1 : Int32) (st : List Value) (M : xM) (Q : Option Value → xM → Prop), xW xSC 108 52 [.ref a0, .int a1, .int a2, .int a3, .int a4] (.int y0 :: .int y1 :: st) M Q = xW xSC 108 53 [.ref a0, .int a1, .int a2, .int a3, .int a4] (.int (y1 + y0) :: st) M Q) ∧
  (∀ (a0 : Nat) (a1 : Int32) (a2 : Int32) (a3 : Int32) (a4 : Int32) (st : List Value) (M : xM) (Q : Option Value → xM → Prop), xW xSC 108 53 [.ref a0, .int a1, .int a2, .int a3, .int a4] (st) M Q = xW xSC 108 54 [.ref a0, .int a1, .int a2, .int a3, .int a4] (.int a3 :: st) M Q) ∧
  (∀ (a0 : Nat) (a1 : Int32) (a2 : Int32) (a3 : Int32) (a4 : Int32) (y0 : Int32) (y1 : Int32) (y2 : Int32) (M : xM) (Q : Option Value → xM → Prop), xW xSC 108 54 [.ref a0, .int a1, .int a2, .int a3, .int a4] (.int y0 :: .int y1 :: .int y2 :: .ref 9 :: []) M Q = xW xSC 29 0 [.ref 9, .int y2, .int y1, .int y0] [] M (fun v M' => xW xSC 108 57 [.ref a0, .int a1, .int a2, .int a3, .int a4] (xpush v []) M' Q)) ∧
  (∀ (a0 : Nat) (a1 : Int32) (a2 : Int32) (a3 : Int32) (a4 : Int32) (st : List Value) (M : xM) (Q : Option Value → xM → Prop), xW xSC 108 57 [.ref a0, .int a1, .int a2, .int a3, .int a4] (st) M Q = xW xSC 108 59 [.ref a0, .int a1, .int a2, .int a3, .int a4] (.int a4 :: st) M Q) ∧
  (∀ (a0 : Nat) (a1 : Int32) (a2 : Int32) (a3 : Int32) (a4 : Int32) (y0 : Int32) (M : xM) (Q : Option Value → xM → Prop), xW xSC 108 59 [.ref a0, .int a1, .int a2, .int a3, .int a4] ([.int y0]) M Q = Q (some (.int y0)) M) :=
  ⟨fun a0 a1 a2 a3 a4 st M Q => xw_s rfl rfl,
  fun a0 a1 a2 a3 a4 st M Q => xw_s rfl rfl,
  fun a0 a1 a2 a3 a4 st M Q => xw_s rfl rfl,
  fun a0 a1 a2 a3 a4 y0 y1 M Q => xw_call rfl rfl rfl,
  fun a0 a1 a2 a3 a4 y0 st M Q => xw_br (c0 := y0 = nI 0) rfl rfl,
  fun a0 a1 a2 a3 a4 st M Q => xw_s rfl rfl,
  fun a0 a1 a2 a3 a4 st M Q => xw_s rfl rfl,
  fun a0 a1 a2 a3 a4 st M Q => xw_s rfl rfl,
  fun a0 a1 a2 a3 a4 y0 y1 y2 M Q => xw_call rfl rfl rfl,
  fun a0 a1 a2 a3 a4 y0 st M Q => xw_brn (c0 := y0 ≠ nI 0) (c1 := y0 = nI 0) rfl rfl (Iff.rfl),
  fun a0 a1 a2 a3 a4 y0 M Q => xw_ret rfl rfl,
  fun a0 a1 a2 a3 a4 st M Q => xw_s rfl rfl,
  fun a0 a1 a2 a3 a4 st M Q => xw_s rfl rfl,
  fun a0 a1 a2 a3 a4 st M Q => xw_s rfl rfl,
  fun a0 a1 a2 a3 a4 st M Q => xw_s rfl rfl,
  fun a0 a1 a2 a3 a4 y0 y1 M Q => xw_call rfl rfl rfl,
  fun a0 a1 a2 a3 a4 y0 st M Q => xw_s rfl rfl,
  fun a0 a1 a2 a3 a4 st M Q => xw_s rfl rfl,
  fun a0 a1 a2 a3 a4 st M Q => xw_s rfl rfl,
  fun a0 a1 a2 a3 a4 st M Q => xw_s rfl rfl,
  fun a0 a1 a2 a3 a4 st M Q => xw_s rfl rfl,
  fun a0 a1 a2 a3 a4 st M Q => xw_s rfl rfl,
  fun a0 a1 a2 a3 a4 y0 y1 st M Q => xw_s rfl rfl,
  fun a0 a1 a2 a3 a4 st M Q => xw_s rfl rfl,
  fun a0 a1 a2 a3 a4 y0 y1 y2 M Q => xw_call rfl rfl rfl,
  fun a0 a1 a2 a3 a4 st M Q => xw_s rfl rfl,
  fun a0 a1 a2 a3 a4 st M Q => xw_s rfl rfl,
  fun a0 a1 a2 a3 a4 st M Q => xw_s rfl rfl,
  fun a0 a1 a2 a3 a4 st M Q => xw_s rfl rfl,
  fun a0 a1 a2 a3 a4 st M Q => xw_s rfl rfl,
  fun a0 a1 a2 a3 a4 y0 y1 st M Q => xw_s rfl rfl,
  fun a0 a1 a2 a3 a4 st M Q => xw_s rfl rfl,
  fun a0 a1 a2 a3 a4 y0 y1 y2 M Q => xw_call rfl rfl rfl,
  fun a0 a1 a2 a3 a4 st M Q => xw_s rfl rfl,
  fun a0 a1 a2 a3 a4 y0 M Q => xw_ret rfl rfl⟩
set_option maxRecDepth 20000 in
theorem h108_19 :
  (∀ (a0 : Nat) (a1 : Int32) (a2 : Int32) (a3 : Int32) (a4 : Value) (st : List Value) (M : xM) (Q : Option Value → xM → Prop), xW xSC 108 19 [.ref a0, .int a1, .int a2, .int a3, a4] (st) M Q = xW xSC 108 20 [.ref a0, .int a1, .int a2, .int a3, a4] (.int (-1) :: st) M Q) :=
  fun a0 a1 a2 a3 a4 st M Q => xw_s rfl rfl
set_option maxRecDepth 20000 in
theorem j108 :
  (∀ (a0 : Nat) (a1 : Int32) (a2 : Int32) (a3 : Int32) (a4 : Value) (st : List Value) (M : xM) (Q : Option Value → xM → Prop), xW xSC 108 19 [.ref a0, .int a1, .int a2, .int a3, a4] (st) M Q = xW xSC 108 20 [.ref a0, .int a1, .int a2, .int a3, a4] (.int (-1) :: st) M Q) :=
  fun a0 a1 a2 a3 a4 st M Q => xw_s rfl rfl

set_option maxRecDepth 20000 in
theorem s109 :
  (∀ (a0 : Nat) (a1 : Int32) (a2 : Value) (st : List Value) (M : xM) (Q : Option Value → xM → Prop), xW xSC 109 0 [.ref a0, .int a1, a2] (st) M Q = xW xSC 109 1 [.ref a0, .int a1, a2] (.ref a0 :: st) M Q) ∧
  (∀ (a0 : Nat) (a1 : Int32) (a2 : Value) (st : List Value) (M : xM) (Q : Option Value → xM → Prop), xW xSC 109 1 [.ref a0, .int a1, a2] (.ref 0 :: st) M Q = xW xSC 109 4 [.ref a0, .int a1, a2] (.ref 9 :: st) M Q) ∧
  (∀ (a0 : Nat) (a1 : Int32) (a2 : Value) (st : List Value) (M : xM) (Q : Option Value → xM → Prop), xW xSC 109 4 [.ref a0, .int a1, a2] (st) M Q = xW xSC 109 5 [.ref a0, .int a1, a2] (.int a1 :: st) M Q) ∧
  (∀ (a0 : Nat) (a1 : Int32) (a2 : Value) (y0 : Int32) (M : xM) (Q : Option Value → xM → Prop), xW xSC 109 5 [.ref a0, .int a1, a2] (.int y0 :: .ref 9 :: []) M Q = xW xSC 24 0 [.ref 9, .int y0] [] M (fun v M' => xW xSC 109 8 [.ref a0, .int a1, a2] (xpush v []) M' Q)) ∧
  (∀ (a0 : Nat) (a1 : Int32) (a2 : Value) (y0 : Int32) (st : List Value) (M : xM) (Q : Option Value → xM → Prop), xW xSC 109 8 [.ref a0, .int a1, a2] (.int y0 :: st) M Q = if y0 = nI 0 then xW xSC 109 11 [.ref a0, .int a1, a2] (st) M Q else xW xSC 109 13 [.ref a0, .int a1, a2] (st) M Q) ∧
  (∀ (a0 : Nat) (a1 : Int32) (a2 : Value) (st : List Value) (M : xM) (Q : Option Value → xM → Prop), xW xSC 109 11 [.ref a0, .int a1, a2] (st) M Q = xW xSC 109 12 [.ref a0, .int a1, a2] (.int (-1) :: st) M Q) ∧
  (∀ (a0 : Nat) (a1 : Int32) (a2 : Value) (y0 : Int32) (M : xM) (Q : Option Value → xM → Prop), xW xSC 109 12 [.ref a0, .int a1, a2] ([.int y0]) M Q = Q (some (.int y0)) M) ∧
  (∀ (a0 : Nat) (a1 : Int32) (a2 : Value) (st : List Value) (M : xM) (Q : Option Value → xM → Prop), xW xSC 109 13 [.ref a0, .int a1, a2] (st) M Q = xW xSC 109 14 [.ref a0, .int a1, a2] (.ref a0 :: st) M Q) ∧
  (∀ (a0 : Nat) (a1 : Int32) (a2 : Value) (st : List Value) (M : xM) (Q : Option Value → xM → Prop), xW xSC 109 14 [.ref a0, .int a1, a2] (.ref 0 :: st) M Q = xW xSC 109 17 [.ref a0, .int a1, a2] (.ref 9 :: st) M Q) ∧
  (∀ (a0 : Nat) (a1 : Int32) (a2 : Value) (st : List Value) (M : xM) (Q : Option Value → xM → Prop), xW xSC 109 17 [.ref a0, .int a1, a2] (st) M Q = xW xSC 109 18 [.ref a0, .int a1, a2] (.int a1 :: st) M Q) ∧
  (∀ (a0 : Nat) (a1 : Int32) (a2 : Value) (st : List Value) (M : xM) (Q : Option Value → xM → Prop), xW xSC 109 18 [.ref a0, .int a1, a2] (st) M Q = xW xSC 109 19 [.ref a0, .int a1, a2] (.int (nI 2) :: st) M Q) ∧
  (∀ (a0 : Nat) (a1 : Int32) (a2 : Value) (y0 : Int32) (y1 : Int32) (M : xM) (Q : Option Value → xM → Prop), xW xSC 109 19 [.ref a0, .int a1, a2] (.int y0 :: .int y1 :: .ref 9 :: []) M Q = xW xSC 28 0 [.ref 9, .int y1, .int y0] [] M (fun v M' => xW xSC 109 22 [.ref a0, .int a1, a2] (xpush v []) M' Q)) ∧
  (∀ (a0 : Nat) (a1 : Int32) (a2 : Value) (y0 : Int32) (st : List Value) (M : xM) (Q : Option Value → xM → Prop), xW xSC 109 22 [.ref a0, .int a1, a2] (.int y0 :: st) M Q = xW xSC 109 23 [.ref a0, .int a1, .int y0] (st) M Q) ∧
  (∀ (a0 : Nat) (a1 : Int32) (a2 : Int32) (st : List Value) (M : xM) (Q : Option Value → xM → Prop), xW xSC 109 23 [.ref a0, .int a1, .int a2] (st) M Q = xW xSC 109 24 [.ref a0, .int a1, .int a2] (.int a2 :: st) M Q) ∧
  (∀ (a0 : Nat) (a1 : Int32) (a2 : Int32) (st : List Value) (M : xM) (Q : Option Value → xM → Prop), xW xSC 109 24 [.ref a0, .int a1, .int a2] (st) M Q = xW xSC 109 25 [.ref a0, .int a1, .int a2] (.int (nI 2) :: st) M Q) ∧
  (∀ (a0 : Nat) (a1 : Int32) (a2 : Int32) (y0 : Int32) (y1 : Int32) (st : List Value) (M : xM) (Q : Option Value → xM → Prop), xW xSC 109 25 [.ref a0, .int a1, .int a2] (.int y0 :: .int y1 :: st) M Q = if y1 = y0 then xW xSC 109 28 [.ref a0, .int a1, .int a2] (st) M Q else xW xSC 109 31 [.ref a0, .int a1, .int a2] (st) M Q) ∧
  (∀ (a0 : Nat) (a1 : Int32) (a2 : Int32) (st : List Value) (M : xM) (Q : Option Value → xM → Prop), xW xSC 109 28 [.ref a0, .int a1, .int a2] (st) M Q = xW xSC 109 30 [.ref a0, .int a1, .int a2] (.int (-2) :: st) M Q) ∧
  (∀ (a0 : Nat) (a1 : Int32) (a2 : Int32) (y0 : Int32) (M : xM) (Q : Option Value → xM → Prop), xW xSC 109 30 [.ref a0, .int a1, .int a2] ([.int y0]) M Q = Q (some (.int y0)) M) ∧
  (∀ (a0 : Nat) (a1 : Int32) (a2 : Int32) (st : List Value) (M : xM) (Q : Option Value → xM → Prop), xW xSC 109 31 [.ref a0, .int a1, .int a2] (st) M Q = xW xSC 109 32 [.ref a0, .int a1, .int a2] (.ref a0 :: st) M Q) ∧
  (∀ (a0 : Nat) (a1 : Int32) (a2 : Int32) (st : List Value) (M : xM) (Q : Option Value → xM → Prop), xW xSC 109 32 [.ref a0, .int a1, .int a2] (.ref 0 :: st) M Q = xW xSC 109 35 [.ref a0, .int a1, .int a2] (.ref 24 :: st) M Q) ∧
  (∀ (a0 : Nat) (a1 : Int32) (a2 : Int32) (st : List Value) (M : xM) (Q : Option Value → xM → Prop), xW xSC 109 35 [.ref a0, .int a1, .int a2] (st) M Q = xW xSC 109 36 [.ref a0, .int a1, .int a2] (.int a1 :: st) M Q) ∧
  (∀ (a0 : Nat) (a1 : Int32) (a2 : Int32) (st : List Value) (M : xM) (Q : Option Value → xM → Prop), xW xSC 109 36 [.ref a0, .int a1, .int a2] (st) M Q = xW xSC 109 37 [.ref a0, .int a1, .int a2] (.int (nI 2) :: st) M Q) ∧
  (∀ (a0 : Nat) (a1 : Int32) (a2 : Int32) (st : List Value) (M : xM) (Q : Option Value → xM → Prop), xW xSC 109 37 [.ref a0, .int a1, .int a2] (st) M Q = xW xSC 109 38 [.ref a0, .int a1, .int a2] (.int a2 :: st) M Q) ∧
  (∀ (a0 : Nat) (a1 : Int32) (a2 : Int32) (y0 : Int32) (y1 : Int32) (y2 : Int32) (M : xM) (Q : Option Value → xM → Prop), xW xSC 109 38 [.ref a0, .int a1, .int a2] (.int y0 :: .int y1 :: .int y2 :: .ref 24 :: []) M Q = xW xSC 7 0 [.ref 24, .int y2, .int y1, .int y0, .null] [] M (fun v M' => xW xSC 109 41 [.ref a0, .int a1, .int a2] (xpush v []) M' Q)) ∧
  (∀ (a0 : Nat) (a1 : Int32) (a2 : Int32) (st : List Value) (M : xM) (Q : Option Value → xM → Prop), xW xSC 109 41 [.ref a0, .int a1, .int a2] (st) M Q = xW xSC 109 42 [.ref a0, .int a1, .int a2] (.ref a0 :: st) M Q) ∧
  (∀ (a0 : Nat) (a1 : Int32) (a2 : Int32) (st : List Value) (M : xM) (Q : Option Value → xM → Prop), xW xSC 109 42 [.ref a0, .int a1, .int a2] (.ref 0 :: st) M Q = xW xSC 109 45 [.ref a0, .int a1, .int a2] (.ref 9 :: st) M Q) ∧
  (∀ (a0 : Nat) (a1 : Int32) (a2 : Int32) (st : List Value) (M : xM) (Q : Option Value → xM → Prop), xW xSC 109 45 [.ref a0, .int a1, .int a2] (st) M Q = xW xSC 109 46 [.ref a0, .int a1, .int a2] (.int a1 :: st) M Q) ∧
  (∀ (a0 : Nat) (a1 : Int32) (a2 : Int32) (st : List Value) (M : xM) (Q : Option Value → xM → Prop), xW xSC 109 46 [.ref a0, .int a1, .int a2] (st) M Q = xW xSC 109 47 [.ref a0, .int a1, .int a2] (.int (nI 2) :: st) M Q) ∧
  (∀ (a0 : Nat) (a1 : Int32) (a2 : Int32) (st : List Value) (M : xM) (Q : Option Value → xM → Prop), xW xSC 109 47 [.ref a0, .int a1, .int a2] (st) M Q = xW xSC 109 48 [.ref a0, .int a1, .int a2] (.int (nI 1) :: st) M Q) ∧
  (∀ (a0 : Nat) (a1 : Int32) (a2 : Int32) (st : List Value) (M : xM) (Q : Option Value → xM → Prop), xW xSC 109 48 [.ref a0, .int a1, .int a2] (st) M Q = xW xSC 109 49 [.ref a0, .int a1, .int a2] (.int a2 :: st) M Q) ∧
  (∀ (a0 : Nat) (a1 : Int32) (a2 : Int32) (y0 : Int32) (y1 : Int32) (st : List Value) (M : xM) (Q : Option Value → xM → Prop), xW xSC 109 49 [.ref a0, .int a1, .int a2] (.int y0 :: .int y1 :: st) M Q = xW xSC 109 50 [.ref a0, .int a1, .int a2] (.int (y1 - y0) :: st) M Q) ∧
  (∀ (a0 : Nat) (a1 : Int32) (a2 : Int32) (y0 : Int32) (y1 : Int32) (y2 : Int32) (M : xM) (Q : Option Value → xM → Prop), xW xSC 109 50 [.ref a0, .int a1, .int a2] (.int y0 :: .int y1 :: .int y2 :: .ref 9 :: []) M Q = xW xSC 29 0 [.ref 9, .int y2, .int y1, .int y0] [] M (fun v M' => xW xSC 109 53 [.ref a0, .int a1, .int a2] (xpush v []) M' Q)) ∧
  (∀ (a0 : Nat) (a1 : Int32) (a2 : Int32) (st : List Value) (M : xM) (Q : Option Value → xM → Prop), xW xSC 109 53 [.ref a0, .int a1, .int a2] (st) M Q = xW xSC 109 54 [.ref a0, .int a1, .int a2] (.int (nI 1) :: st) M Q) ∧
  (∀ (a0 : Nat) (a1 : Int32) (a2 : Int32) (st : List Value) (M : xM) (Q : Option Value → xM → Prop), xW xSC 109 54 [.ref a0, .int a1, .int a2] (st) M Q = xW xSC 109 55 [.ref a0, .int a1, .int a2] (.int a2 :: st) M Q) ∧
  (∀ (a0 : Nat) (a1 : Int32) (a2 : Int32) (y0 : Int32) (y1 : Int32) (st : List Value) (M : xM) (Q : Option Value → xM → Prop), xW xSC 109 55 [.ref a0, .int a1, .int a2] (.int y0 :: .int y1 :: st) M Q = xW xSC 109 56 [.ref a0, .int a1, .int a2] (.int (y1 - y0) :: st) M Q) ∧
  (∀ (a0 : Nat) (a1 : Int32) (a2 : Int32) (y0 : Int32) (M : xM) (Q : Option Value → xM → Prop), xW xSC 109 56 [.ref a0, .int a1, .int a2] ([.int y0]) M Q = Q (some (.int y0)) M) :=
  ⟨fun a0 a1 a2 st M Q => xw_s rfl rfl,
  fun a0 a1 a2 st M Q => xw_s rfl rfl,
  fun a0 a1 a2 st M Q => xw_s rfl rfl,
  fun a0 a1 a2 y0 M Q => xw_call rfl rfl rfl,
  fun a0 a1 a2 y0 st M Q => xw_brn (c0 := y0 ≠ nI 0) (c1 := y0 = nI 0) rfl rfl (Iff.rfl),
  fun a0 a1 a2 st M Q => xw_s rfl rfl,
  fun a0 a1 a2 y0 M Q => xw_ret rfl rfl,
  fun a0 a1 a2 st M Q => xw_s rfl rfl,
  fun a0 a1 a2 st M Q => xw_s rfl rfl,
  fun a0 a1 a2 st M Q => xw_s rfl rfl,
  fun a0 a1 a2 st M Q => xw_s rfl rfl,
  fun a0 a1 a2 y0 y1 M Q => xw_call rfl rfl rfl,
  fun a0 a1 a2 y0 st M Q => xw_s rfl rfl,
  fun a0 a1 a2 st M Q => xw_s rfl rfl,
  fun a0 a1 a2 st M Q => xw_s rfl rfl,
  fun a0 a1 a2 y0 y1 st M Q => xw_brn (c0 := y1 ≠ y0) (c1 := y1 = y0) rfl rfl (Iff.rfl),
  fun a0 a1 a2 st M Q => xw_s rfl rfl,
  fun a0 a1 a2 y0 M Q => xw_ret rfl rfl,
  fun a0 a1 a2 st M Q => xw_s rfl rfl,
  fun a0 a1 a2 st M Q => xw_s rfl rfl,
  fun a0 a1 a2 st M Q => xw_s rfl rfl,
  fun a0 a1 a2 st M Q => xw_s rfl rfl,
  fun a0 a1 a2 st M Q => xw_s rfl rfl,
  fun a0 a1 a2 y0 y1 y2 M Q => xw_call rfl rfl rfl,
  fun a0 a1 a2 st M Q => xw_s rfl rfl,
  fun a0 a1 a2 st M Q => xw_s rfl rfl,
  fun a0 a1 a2 st M Q => xw_s rfl rfl,
  fun a0 a1 a2 st M Q => xw_s rfl rfl,
  fun a0 a1 a2 st M Q => xw_s rfl rfl,
  fun a0 a1 a2 st M Q => xw_s rfl rfl,
  fun a0 a1 a2 y0 y1 st M Q => xw_s rfl rfl,
  fun a0 a1 a2 y0 y1 y2 M Q => xw_call rfl rfl rfl,
  fun a0 a1 a2 st M Q => xw_s rfl rfl,
  fun a0 a1 a2 st M Q => xw_s rfl rfl,
  fun a0 a1 a2 y0 y1 st M Q => xw_s rfl rfl,
  fun a0 a1 a2 y0 M Q => xw_ret rfl rfl⟩
theorem j109 : True := trivial

set_option maxRecDepth 20000 in
theorem s110 :
  (∀ (a0 : Nat) (st : List Value) (M : xM) (Q : Option Value → xM → Prop), xW xSC 110 0 [.ref a0] (st) M Q = xW xSC 110 1 [.ref a0] (.ref a0 :: st) M Q) ∧
  (∀ (a0 : Nat) (st : List Value) (M : xM) (Q : Option Value → xM → Prop), xW xSC 110 1 [.ref a0] (.ref 0 :: st) M Q = xW xSC 110 4 [.ref a0] (.ref 24 :: st) M Q) ∧
  (∀ (a0 : Nat) (st : List Value) (M : xM) (Q : Option Value → xM → Prop), xW xSC 110 4 [.ref a0] (.ref 24 :: st) M Q = xW xSC 110 7 [.ref a0] (.int (M 24 2) :: st) M Q) ∧
  (∀ (a0 : Nat) (st : List Value) (M : xM) (Q : Option Value → xM → Prop), xW xSC 110 7 [.ref a0] (st) M Q = xW xSC 110 8 [.ref a0] (.int (nI 1) :: st) M Q) ∧
  (∀ (a0 : Nat) (y0 : Int32) (y1 : Int32) (st : List Value) (M : xM) (Q : Option Value → xM → Prop), xW xSC 110 8 [.ref a0] (.int y0 :: .int y1 :: st) M Q = if y1 < y0 then xW xSC 110 11 [.ref a0] (st) M Q else xW xSC 110 14 [.ref a0] (st) M Q) ∧
  (∀ (a0 : Nat) (st : List Value) (M : xM) (Q : Option Value → xM → Prop), xW xSC 110 11 [.ref a0] (st) M Q = xW xSC 110 13 [.ref a0] (.int (-2) :: st) M Q) ∧
  (∀ (a0 : Nat) (y0 : Int32) (M : xM) (Q : Option Value → xM → Prop), xW xSC 110 13 [.ref a0] ([.int y0]) M Q = Q (some (.int y0)) M) ∧
  (∀ (a0 : Nat) (st : List Value) (M : xM) (Q : Option Value → xM → Prop), xW xSC 110 14 [.ref a0] (st) M Q = xW xSC 110 15 [.ref a0] (.ref a0 :: st) M Q) ∧
  (∀ (a0 : Nat) (st : List Value) (M : xM) (Q : Option Value → xM → Prop), xW xSC 110 15 [.ref a0] (.ref 0 :: st) M Q = xW xSC 110 18 [.ref a0] (.ref 24 :: st) M Q) ∧
  (∀ (a0 : Nat) (st : List Value) (M : xM) (Q : Option Value → xM → Prop), xW xSC 110 18 [.ref a0] (st) M Q = xW xSC 110 19 [.ref a0] (.ref a0 :: st) M Q) ∧
  (∀ (a0 : Nat) (st : List Value) (M : xM) (Q : Option Value → xM → Prop), xW xSC 110 19 [.ref a0] (.ref 0 :: st) M Q = xW xSC 110 22 [.ref a0] (.ref 9 :: st) M Q) ∧
  (∀ (a0 : Nat) (y0 : Nat) (M : xM) (Q : Option Value → xM → Prop), xW xSC 110 22 [.ref a0] (.ref y0 :: .ref 24 :: []) M Q = xW xSC 9 0 [.ref 24, .ref y0, .null, .null, .null, .null] [] M (fun v M' => xW xSC 110 25 [.ref a0] (xpush v []) M' Q)) ∧
  (∀ (a0 : Nat) (st : List Value) (M : xM) (Q : Option Value → xM → Prop), xW xSC 110 25 [.ref a0] (st) M Q = xW xSC 110 26 [.ref a0] (.ref a0 :: st) M Q) ∧
  (∀ (a0 : Nat) (st : List Value) (M : xM) (Q : Option Value → xM → Prop), xW xSC 110 26 [.ref a0] (.ref 0 :: st) M Q = xW xSC 110 29 [.ref a0] (.ref 24 :: st) M Q) ∧
  (∀ (a0 : Nat) (st : List Value) (M : xM) (Q : Option Value → xM → Prop), xW xSC 110 29 [.ref a0] (.ref 24 :: st) M Q = xW xSC 110 32 [.ref a0] (.int (M 24 2) :: st) M Q) ∧
  (∀ (a0 : Nat) (y0 : Int32) (M : xM) (Q : Option Value → xM → Prop), xW xSC 110 32 [.ref a0] ([.int y0]) M Q = Q (some (.int y0)) M) :=
  ⟨fun a0 st M Q => xw_s rfl rfl,
  fun a0 st M Q => xw_s rfl rfl,
  fun a0 st M Q => xw_s rfl rfl,
  fun a0 st M Q => xw_s rfl rfl,
  fun a0 y0 y1 st M Q => xw_brn (c0 := y0 ≤ y1) (c1 := y1 < y0) rfl rfl (xge _ _),
  fun a0 st M Q => xw_s rfl rfl,
  fun a0 y0 M Q => xw_ret rfl rfl,
  fun a0 st M Q => xw_s rfl rfl,
  fun a0 st M Q => xw_s rfl rfl,
  fun a0 st M Q => xw_s rfl rfl,
  fun a0 st M Q => xw_s rfl rfl,
  fun a0 y0 M Q => xw_call rfl rfl rfl,
  fun a0 st M Q => xw_s rfl rfl,
  fun a0 st M Q => xw_s rfl rfl,
  fun a0 st M Q => xw_s rfl rfl,
  fun a0 y0 M Q => xw_ret rfl rfl⟩
theorem j110 : True := trivial

set_option maxRecDepth 20000 in
theorem s111 :
  (∀ (a0 : Nat) (a1 : Int32) (st : List Value) (M : xM) (Q : Option Value → xM → Prop), xW xSC 111 0 [.ref a0, .int a1] (st) M Q = xW xSC 111 1 [.ref a0, .int a1] (.ref a0 :: st) M Q) ∧
  (∀ (a0 : Nat) (a1 : Int32) (st : List Value) (M : xM) (Q : Option Value → xM → Prop), xW xSC 111 1 [.ref a0, .int a1] (.ref 0 :: st) M Q = xW xSC 111 4 [.ref a0, .int a1] (.ref 9 :: st) M Q) ∧
  (∀ (a0 : Nat) (a1 : Int32) (st : List Value) (M : xM) (Q : Option Value → xM → Prop), xW xSC 111 4 [.ref a0, .int a1] (st) M Q = xW xSC 111 5 [.ref a0, .int a1] (.int a1 :: st) M Q) ∧
  (∀ (a0 : Nat) (a1 : Int32) (y0 : Int32) (M : xM) (Q : Option Value → xM → Prop), xW xSC 111 5 [.ref a0, .int a1] (.int y0 :: .ref 9 :: []) M Q = xW xSC 24 0 [.ref 9, .int y0] [] M (fun v M' => xW xSC 111 8 [.ref a0, .int a1] (xpush v []) M' Q)) ∧
  (∀ (a0 : Nat) (a1 : Int32) (y0 : Int32) (st : List Value) (M : xM) (Q : Option Value → xM → Prop), xW xSC 111 8 [.ref a0, .int a1] (.int y0 :: st) M Q = if y0 = nI 0 then xW xSC 111 11 [.ref a0, .int a1] (st) M Q else xW xSC 111 13 [.ref a0, .int a1] (st) M Q) ∧
  (∀ (a0 : Nat) (a1 : Int32) (st : List Value) (M : xM) (Q : Option Value → xM → Prop), xW xSC 111 11 [.ref a0, .int a1] (st) M Q = xW xSC 111 12 [.ref a0, .int a1] (.int (-1) :: st) M Q) ∧
  (∀ (a0 : Nat) (a1 : Int32) (y0 : Int32) (M : xM) (Q : Option Value → xM → Prop), xW xSC 111 12 [.ref a0, .int a1] ([.int y0]) M Q = Q (some (.int y0)) M) ∧
  (∀ (a0 : Nat) (a1 : Int32) (st : List Value) (M : xM) (Q : Option Value → xM → Prop), xW xSC 111 13 [.ref a0, .int a1] (st) M Q = xW xSC 111 14 [.ref a0, .int a1] (.ref a0 :: st) M Q) ∧
  (∀ (a0 : Nat) (a1 : Int32) (st : List Value) (M : xM) (Q : Option Value → xM → Prop), xW xSC 111 14 [.ref a0, .int a1] (.ref 0 :: st) M Q = xW xSC 111 17 [.ref a0, .int a1] (.int (M 0 7) :: st) M Q) ∧
  (∀ (a0 : Nat) (a1 : Int32) (st : List Value) (M : xM) (Q : Option Value → xM → Prop), xW xSC 111 17 [.ref a0, .int a1] (st) M Q = xW xSC 111 19 [.ref a0, .int a1] (.int (nI 12) :: st) M Q) ∧
  (∀ (a0 : Nat) (a1 : Int32) (y0 : Int32) (y1 : Int32) (st : List Value) (M : xM) (Q : Option Value → xM → Prop), xW xSC 111 19 [.ref a0, .int a1] (.int y0 :: .int y1 :: st) M Q = if y1 < y0 then xW xSC 111 25 [.ref a0, .int a1] (st) M Q else xW xSC 111 22 [.ref a0, .int a1] (st) M Q) ∧
  (∀ (a0 : Nat) (a1 : Int32) (st : List Value) (M : xM) (Q : Option Value → xM → Prop), xW xSC 111 22 [.ref a0, .int a1] (st) M Q = xW xSC 111 24 [.ref a0, .int a1] (.int (-3) :: st) M Q) ∧
  (∀ (a0 : Nat) (a1 : Int32) (y0 : Int32) (M : xM) (Q : Option Value → xM → Prop), xW xSC 111 24 [.ref a0, .int a1] ([.int y0]) M Q = Q (some (.int y0)) M) ∧
  (∀ (a0 : Nat) (a1 : Int32) (st : List Value) (M : xM) (Q : Option Value → xM → Prop), xW xSC 111 25 [.ref a0, .int a1] (st) M Q = xW xSC 111 26 [.ref a0, .int a1] (.ref a0 :: st) M Q) ∧
  (∀ (a0 : Nat) (a1 : Int32) (st : List Value) (M : xM) (Q : Option Value → xM → Prop), xW xSC 111 26 [.ref a0, .int a1] (.ref 0 :: st) M Q = xW xSC 111 29 [.ref a0, .int a1] (.ref 26 :: st) M Q) ∧
  (∀ (a0 : Nat) (a1 : Int32) (st : List Value) (M : xM) (Q : Option Value → xM → Prop), xW xSC 111 29 [.ref a0, .int a1] (st) M Q = xW xSC 111 30 [.ref a0, .int a1] (.ref a0 :: st) M Q) ∧
  (∀ (a0 : Nat) (a1 : Int32) (st : List Value) (M : xM) (Q : Option Value → xM → Prop), xW xSC 111 30 [.ref a0, .int a1] (.ref 0 :: st) M Q = xW xSC 111 33 [.ref a0, .int a1] (.int (M 0 7) :: st) M Q) ∧
  (∀ (a0 : Nat) (a1 : Int32) (st : List Value) (M : xM) (Q : Option Value → xM → Prop), xW xSC 111 33 [.ref a0, .int a1] (st) M Q = xW xSC 111 34 [.ref a0, .int a1] (.int a1 :: st) M Q) ∧
  (∀ (a0 : Nat) (a1 : Int32) (y0 : Int32) (y1 : Int32) (y2 : Nat) (M : xM) (Q : Option Value → xM → Prop), xW xSC 111 34 [.ref a0, .int a1] (.int y0 :: .int y1 :: .ref y2 :: []) M Q = xW xSC 1 0 [.ref y2, .int y1, .int y0] [] M (fun v M' => xW xSC 111 37 [.ref a0, .int a1] (xpush v []) M' Q)) ∧
  (∀ (a0 : Nat) (a1 : Int32) (st : List Value) (M : xM) (Q : Option Value → xM → Prop), xW xSC 111 37 [.ref a0, .int a1] (st) M Q = xW xSC 111 38 [.ref a0, .int a1] (.ref a0 :: st) M Q) ∧
  (∀ (a0 : Nat) (a1 : Int32) (y0 : Nat) (st : List Value) (M : xM) (Q : Option Value → xM → Prop), xW xSC 111 38 [.ref a0, .int a1] (.ref y0 :: st) M Q = xW xSC 111 39 [.ref a0, .int a1] (.ref y0 :: .ref y0 :: st) M Q) ∧
  (∀ (a0 : Nat) (a1 : Int32) (st : List Value) (M : xM) (Q : Option Value → xM → Prop), xW xSC 111 39 [.ref a0, .int a1] (.ref 0 :: st) M Q = xW xSC 111 42 [.ref a0, .int a1] (.int (M 0 7) :: st) M Q) ∧
  (∀ (a0 : Nat) (a1 : Int32) (st : List Value) (M : xM) (Q : Option Value → xM → Prop), xW xSC 111 42 [.ref a0, .int a1] (st) M Q = xW xSC 111 43 [.ref a0, .int a1] (.int (nI 1) :: st) M Q) ∧
  (∀ (a0 : Nat) (a1 : Int32) (y0 : Int32) (y1 : Int32) (st : List Value) (M : xM) (Q : Option Value → xM → Prop), xW xSC 111 43 [.ref a0, .int a1] (.int y0 :: .int y1 :: st) M Q = xW xSC 111 44 [.ref a0, .int a1] (.int (y1 + y0) :: st) M Q) ∧
  (∀ (a0 : Nat) (a1 : Int32) (y0 : Int32) (st : List Value) (M : xM) (Q : Option Value → xM → Prop), xW xSC 111 44 [.ref a0, .int a1] (.int y0 :: .ref 0 :: st) M Q = xW xSC 111 47 [.ref a0, .int a1] (st) (xup M 0 7 y0) Q) ∧
  (∀ (a0 : Nat) (a1 : Int32) (st : List Value) (M : xM) (Q : Option Value → xM → Prop), xW xSC 111 47 [.ref a0, .int a1] (st) M Q = xW xSC 111 48 [.ref a0, .int a1] (.ref a0 :: st) M Q) ∧
  (∀ (a0 : Nat) (a1 : Int32) (st : List Value) (M : xM) (Q : Option Value → xM → Prop), xW xSC 111 48 [.ref a0, .int a1] (.ref 0 :: st) M Q = xW xSC 111 51 [.ref a0, .int a1] (.int (M 0 7) :: st) M Q) ∧
  (∀ (a0 : Nat) (a1 : Int32) (y0 : Int32) (M : xM) (Q : Option Value → xM → Prop), xW xSC 111 51 [.ref a0, .int a1] ([.int y0]) M Q = Q (some (.int y0)) M) :=
  ⟨fun a0 a1 st M Q => xw_s rfl rfl,
  fun a0 a1 st M Q => xw_s rfl rfl,
  fun a0 a1 st M Q => xw_s rfl rfl,
  fun a0 a1 y0 M Q => xw_call rfl rfl rfl,
  fun a0 a1 y0 st M Q => xw_brn (c0 := y0 ≠ nI 0) (c1 := y0 = nI 0) rfl rfl (Iff.rfl),
  fun a0 a1 st M Q => xw_s rfl rfl,
  fun a0 a1 y0 M Q => xw_ret rfl rfl,
  fun a0 a1 st M Q => xw_s rfl rfl,
  fun a0 a1 st M Q => xw_s rfl rfl,
  fun a0 a1 st M Q => xw_s rfl rfl,
  fun a0 a1 y0 y1 st M Q => xw_br (c0 := y1 < y0) rfl rfl,
  fun a0 a1 st M Q => xw_s rfl rfl,
  fun a0 a1 y0 M Q => xw_ret rfl rfl,
  fun a0 a1 st M Q => xw_s rfl rfl,
  fun a0 a1 st M Q => xw_s rfl rfl,
  fun a0 a1 st M Q => xw_s rfl rfl,
  fun a0 a1 st M Q => xw_s rfl rfl,
  fun a0 a1 st M Q => xw_s rfl rfl,
  fun a0 a1 y0 y1 y2 M Q => xw_call rfl rfl rfl,
  fun a0 a1 st M Q => xw_s rfl rfl,
  fun a0 a1 y0 st M Q => xw_s rfl rfl,
  fun a0 a1 st M Q => xw_s rfl rfl,
  fun a0 a1 st M Q => xw_s rfl rfl,
  fun a0 a1 y0 y1 st M Q => xw_s rfl rfl,
  fun a0 a1 y0 st M Q => xw_s rfl rfl,
  fun a0 a1 st M Q => xw_s rfl rfl,
  fun a0 a1 st M Q => xw_s rfl rfl,
  fun a0 a1 y0 M Q => xw_ret rfl rfl⟩
theorem j111 : True := trivial

set_option maxRecDepth 20000 in
theorem s112 :
  (∀ (a0 : Nat) (a1 : Value) (st : List Value) (M : xM) (Q : Option Value → xM → Prop), xW xSC 112 0 [.ref a0, a1] (st) M Q = xW xSC 112 1 [.ref a0, a1] (.ref a0 :: st) M Q) ∧
  (∀ (a0 : Nat) (a1 : Value) (st : List Value) (M : xM) (Q : Option Value → xM → Prop), xW xSC 112 1 [.ref a0, a1] (.ref 0 :: st) M Q = xW xSC 112 4 [.ref a0, a1] (.int (M 0 7) :: st) M Q) ∧
  (∀ (a0 : Nat) (a1 : Value) (y0 : Int32) (st : List Value) (M : xM) (Q : Option Value → xM → Prop), xW xSC 112 4 [.ref a0, a1] (.int y0 :: st) M Q = xW xSC 112 5 [.ref a0, .int y0] (st) M Q) ∧
  (∀ (a0 : Nat) (a1 : Int32) (st : List Value) (M : xM) (Q : Option Value → xM → Prop), xW xSC 112 5 [.ref a0, .int a1] (st) M Q = xW xSC 112 6 [.ref a0, .int a1] (.ref a0 :: st) M Q) ∧
  (∀ (a0 : Nat) (a1 : Int32) (st : List Value) (M : xM) (Q : Option Value → xM → Prop), xW xSC 112 6 [.ref a0, .int a1] (st) M Q = xW xSC 112 7 [.ref a0, .int a1] (.int (nI 0) :: st) M Q) ∧
  (∀ (a0 : Nat) (a1 : Int32) (y0 : Int32) (st : List Value) (M : xM) (Q : Option Value → xM → Prop), xW xSC 112 7 [.ref a0, .int a1] (.int y0 :: .ref 0 :: st) M Q = xW xSC 112 10 [.ref a0, .int a1] (st) (xup M 0 7 y0) Q) ∧
  (∀ (a0 : Nat) (a1 : Int32) (st : List Value) (M : xM) (Q : Option Value → xM → Prop), xW xSC 112 10 [.ref a0, .int a1] (st) M Q = xW xSC 112 11 [.ref a0, .int a1] (.int a1 :: st) M Q) ∧
  (∀ (a0 : Nat) (a1 : Int32) (y0 : Int32) (M : xM) (Q : Option Value → xM → Prop), xW xSC 112 11 [.ref a0, .int a1] ([.int y0]) M Q = Q (some (.int y0)) M) :=
  ⟨fun a0 a1 st M Q => xw_s rfl rfl,
  fun a0 a1 st M Q => xw_s rfl rfl,
  fun a0 a1 y0 st M Q => xw_s rfl rfl,
  fun a0 a1 st M Q => xw_s rfl rfl,
  fun a0 a1 st M Q => xw_s rfl rfl,
  fun a0 a1 y0 st M Q => xw_s rfl rfl,
  fun a0 a1 st M Q => xw_s rfl rfl,
  fun a0 a1 y0 M Q => xw_ret rfl rfl⟩
theorem j112 : True := trivial

set_option maxRecDepth 20000 in
theorem s113 :
  (∀ (a0 : Nat) (a1 : Int32) (a2 : Value) (a3 : Value) (a4 : Value) (a5 : Value) (st : List Value) (M : xM) (Q : Option Value → xM → Prop), xW xSC 113 0 [.ref a0, .int a1, a2, a3, a4, a5] (st) M Q = xW xSC 113 1 [.ref a0, .int a1, a2, a3, a4, a5] (.ref a0 :: st) M Q) ∧
  (∀ (a0 : Nat) (a1 : Int32) (a2 : Value) (a3 : Value) (a4 : Value) (a5 : Value) (st : List Value) (M : xM) (Q : Option Value → xM → Prop), xW xSC 113 1 [.ref a0, .int a1, a2, a3, a4, a5] (.ref 0 :: st) M Q = xW xSC 113 4 [.ref a0, .int a1, a2, a3, a4, a5] (.ref 9 :: st) M Q) ∧
  (∀ (a0 : Nat) (a1 : Int32) (a2 : Value) (a3 : Value) (a4 : Value) (a5 : Value) (st : List Value) (M : xM) (Q : Option Value → xM → Prop), xW xSC 113 4 [.ref a0, .int a1, a2, a3, a4, a5] (st) M Q = xW xSC 113 5 [.ref a0, .int a1, a2, a3, a4, a5] (.int a1 :: st) M Q) ∧
  (∀ (a0 : Nat) (a1 : Int32) (a2 : Value) (a3 : Value) (a4 : Value) (a5 : Value) (y0 : Int32) (M : xM) (Q : Option Value → xM → Prop), xW xSC 113 5 [.ref a0, .int a1, a2, a3, a4, a5] (.int y0 :: .ref 9 :: []) M Q = xW xSC 25 0 [.ref 9, .int y0] [] M (fun v M' => xW xSC 113 8 [.ref a0, .int a1, a2, a3, a4, a5] (xpush v []) M' Q)) ∧
  (∀ (a0 : Nat) (a1 : Int32) (a2 : Value) (a3 : Value) (a4 : Value) (a5 : Value) (y0 : Int32) (st : List Value) (M : xM) (Q : Option Value → xM → Prop), xW xSC 113 8 [.ref a0, .int a1, a2, a3, a4, a5] (.int y0 :: st) M Q = if y0 = nI 0 then xW xSC 113 11 [.ref a0, .int a1, a2, a3, a4, a5] (st) M Q else xW xSC 113 13 [.ref a0, .int a1, a2, a3, a4, a5] (st) M Q) ∧
  (∀ (a0 : Nat) (a1 : Int32) (a2 : Value) (a3 : Value) (a4 : Value) (a5 : Value) (st : List Value) (M : xM) (Q : Option Value → xM → Prop), xW xSC 113 11 [.ref a0, .int a1, a2, a3, a4, a5] (st) M Q = xW xSC 113 12 [.ref a0, .int a1, a2, a3, a4, a5] (.int (-1) :: st) M Q) ∧
  (∀ (a0 : Nat) (a1 : Int32) (a2 : Value) (a3 : Value) (a4 : Value) (a5 : Value) (y0 : Int32) (M : xM) (Q : Option Value → xM → Prop), xW xSC 113 12 [.ref a0, .int a1, a2, a3, a4, a5] ([.int y0]) M Q = Q (some (.int y0)) M) ∧
  (∀ (a0 : Nat) (a1 : Int32) (a2 : Value) (a3 : Value) (a4 : Value) (a5 : Value) (st : List Value) (M : xM) (Q : Option Value → xM → Prop), xW xSC 113 13 [.ref a0, .int a1, a2, a3, a4, a5] (st) M Q = xW xSC 113 14 [.ref a0, .int a1, a2, a3, a4, a5] (.ref a0 :: st) M Q) ∧
  (∀ (a0 : Nat) (a1 : Int32) (a2 : Value) (a3 : Value) (a4 : Value) (a5 : Value) (st : List Value) (M : xM) (Q : Option Value → xM → Prop), xW xSC 113 14 [.ref a0, .int a1, a2, a3, a4, a5] (.ref 0 :: st) M Q = xW xSC 113 17 [.ref a0, .int a1, a2, a3, a4, a5] (.ref 31 :: st) M Q) ∧
  (∀ (a0 : Nat) (a1 : Int32) (a2 : Value) (a3 : Value) (a4 : Value) (a5 : Value) (st : List Value) (M : xM) (Q : Option Value → xM → Prop), xW xSC 113 17 [.ref a0, .int a1, a2, a3, a4, a5] (st) M Q = xW xSC 113 18 [.ref a0, .int a1, a2, a3, a4, a5] (.ref a0 :: st) M Q) ∧
  (∀ (a0 : Nat) (a1 : Int32) (a2 : Value) (a3 : Value) (a4 : Value) (a5 : Value) (st : List Value) (M : xM) (Q : Option Value → xM → Prop), xW xSC 113 18 [.ref a0, .int a1, a2, a3, a4, a5] (.ref 0 :: st) M Q = xW xSC 113 21 [.ref a0, .int a1, a2, a3, a4, a5] (.ref 9 :: st) M Q) ∧
  (∀ (a0 : Nat) (a1 : Int32) (a2 : Value) (a3 : Value) (a4 : Value) (a5 : Value) (st : List Value) (M : xM) (Q : Option Value → xM → Prop), xW xSC 113 21 [.ref a0, .int a1, a2, a3, a4, a5] (st) M Q = xW xSC 113 22 [.ref a0, .int a1, a2, a3, a4, a5] (.int a1 :: st) M Q) ∧
  (∀ (a0 : Nat) (a1 : Int32) (a2 : Value) (a3 : Value) (a4 : Value) (a5 : Value) (y0 : Int32) (y1 : Nat) (M : xM) (Q : Option Value → xM → Prop), xW xSC 113 22 [.ref a0, .int a1, a2, a3, a4, a5] (.int y0 :: .ref y1 :: .ref 31 :: []) M Q = xW xSC 85 0 [.ref 31, .ref y1, .int y0, .null] [] M (fun v M' => xW xSC 113 25 [.ref a0, .int a1, a2, a3, a4, a5] (xpush v []) M' Q)) ∧
  (∀ (a0 : Nat) (a1 : Int32) (a2 : Value) (a3 : Value) (a4 : Value) (a5 : Value) (st : List Value) (M : xM) (Q : Option Value → xM → Prop), xW xSC 113 25 [.ref a0, .int a1, a2, a3, a4, a5] (st) M Q = xW xSC 113 26 [.ref a0, .int a1, a2, a3, a4, a5] (.int (nI 0) :: st) M Q) ∧
  (∀ (a0 : Nat) (a1 : Int32) (a2 : Value) (a3 : Value) (a4 : Value) (a5 : Value) (y0 : Int32) (st : List Value) (M : xM) (Q : Option Value → xM → Prop), xW xSC 113 26 [.ref a0, .int a1, a2, a3, a4, a5] (.int y0 :: st) M Q = xW xSC 113 27 [.ref a0, .int a1, .int y0, a3, a4, a5] (st) M Q) ∧
  (∀ (a0 : Nat) (a1 : Int32) (a2 : Int32) (a3 : Value) (a4 : Value) (a5 : Value) (st : List Value) (M : xM) (Q : Option Value → xM → Prop), xW xSC 113 27 [.ref a0, .int a1, .int a2, a3, a4, a5] (st) M Q = xW xSC 113 28 [.ref a0, .int a1, .int a2, a3, a4, a5] (.int (nI 0) :: st) M Q) ∧
  (∀ (a0 : Nat) (a1 : Int32) (a2 : Int32) (a3 : Value) (a4 : Value) (a5 : Value) (y0 : Int32) (st : List Value) (M : xM) (Q : Option Value → xM → Prop), xW xSC 113 28 [.ref a0, .int a1, .int a2, a3, a4, a5] (.int y0 :: st) M Q = xW xSC 113 29 [.ref a0, .int a1, .int a2, .int y0, a4, a5] (st) M Q) ∧
  (∀ (a0 : Nat) (a1 : Int32) (a2 : Int32) (a3 : Int32) (a4 : Value) (a5 : Value) (st : List Value) (M : xM) (Q : Option Value → xM → Prop), xW xSC 113 30 [.ref a0, .int a1, .int a2, .int a3, a4, a5] (st) M Q = xW xSC 113 31 [.ref a0, .int a1, .int a2, .int a3, a4, a5] (.ref a0 :: st) M Q) ∧
  (∀ (a0 : Nat) (a1 : Int32) (a2 : Int32) (a3 : Int32) (a4 : Value) (a5 : Value) (st : List Value) (M : xM) (Q : Option Value → xM → Prop), xW xSC 113 31 [.ref a0, .int a1, .int a2, .int a3, a4, a5] (.ref 0 :: st) M Q = xW xSC 113 34 [.ref a0, .int a1, .int a2, .int a3, a4, a5] (.int (M 0 7) :: st) M Q) ∧
  (∀ (a0 : Nat) (a1 : Int32) (a2 : Int32) (a3 : Int32) (a4 : Value) (a5 : Value) (y0 : Int32) (y1 : Int32) (st : List Value) (M : xM) (Q : Option Value → xM → Prop), xW xSC 113 34 [.ref a0, .int a1, .int a2, .int a3, a4, a5] (.int y0 :: .int y1 :: st) M Q = if y1 < y0 then xW xSC 113 37 [.ref a0, .int a1, .int a2, .int a3, a4, a5] (st) M Q else xW xSC 113 147 [.ref a0, .int a1, .int a2, .int a3, a4, a5] (st) M Q) ∧
  (∀ (a0 : Nat) (a1 : Int32) (a2 : Int32) (a3 : Int32) (a4 : Value) (a5 : Value) (st : List Value) (M : xM) (Q : Option Value → xM → Prop), xW xSC 113 37 [.ref a0, .int a1, .int a2, .int a3, a4, a5] (st) M Q = xW xSC 113 38 [.ref a0, .int a1, .int a2, .int a3, a4, a5] (.ref a0 :: st) M Q) ∧
  (∀ (a0 : Nat) (a1 : Int32) (a2 : Int32) (a3 : Int32) (a4 : Value) (a5 : Value) (st : List Value) (M : xM) (Q : Option Value → xM → Prop), xW xSC 113 38 [.ref a0, .int a1, .int a2, .int a3, a4, a5] (.ref 0 :: st) M Q = xW xSC 113 41 [.ref a0, .int a1, .int a2, .int a3, a4, a5] (.ref 26 :: st) M Q) ∧
  (∀ (a0 : Nat) (a1 : Int32) (a2 : Int32) (a3 : Int32) (a4 : Value) (a5 : Value) (st : List Value) (M : xM) (Q : Option Value → xM → Prop), xW xSC 113 41 [.ref a0, .int a1, .int a2, .int a3, a4, a5] (st) M Q = xW xSC 113 42 [.ref a0, .int a1, .int a2, .int a3, a4, a5] (.int a3 :: st) M Q) ∧
  (∀ (a0 : Nat) (a1 : Int32) (a2 : Int32) (a3 : Int32) (a4 : Value) (a5 : Value) (y0 : Int32) (y1 : Nat) (M : xM) (Q : Option Value → xM → Prop), xW xSC 113 42 [.ref a0, .int a1, .int a2, .int a3, a4, a5] (.int y0 :: .ref y1 :: []) M Q = xW xSC 0 0 [.ref y1, .int y0] [] M (fun v M' => xW xSC 113 45 [.ref a0, .int a1, .int a2, .int a3, a4, a5] (xpush v []) M' Q)) ∧
  (∀ (a0 : Nat) (a1 : Int32) (a2 : Int32) (a3 : Int32) (a4 : Value) (a5 : Value) (y0 : Int32) (st : List Value) (M : xM) (Q : Option Value → xM → Prop), xW xSC 113 45 [.ref a0, .int a1, .int a2, .int a3, a4, a5] (.int y0 :: st) M Q = xW xSC 113 47 [.ref a0, .int a1, .int a2, .int a3, .int y0, a5] (st) M Q) ∧
  (∀ (a0 : Nat) (a1 : Int32) (a2 : Int32) (a3 : Int32) (a4 : Int32) (a5 : Value) (st : List Value) (M : xM) (Q : Option Value → xM → Prop), xW xSC 113 47 [.ref a0, .int a1, .int a2, .int a3, .int a4, a5] (st) M Q = xW xSC 113 48 [.ref a0, .int a1, .int a2, .int a3, .int a4, a5] (.ref a0 :: st) M Q) ∧
  (∀ (a0 : Nat) (a1 : Int32) (a2 : Int32) (a3 : Int32) (a4 : Int32) (a5 : Value) (st : List Value) (M : xM) (Q : Option Value → xM → Prop), xW xSC 113 48 [.ref a0, .int a1, .int a2, .int a3, .int a4, a5] (.ref 0 :: st) M Q = xW xSC 113 51 [.ref a0, .int a1, .int a2, .int a3, .int a4, a5] (.ref 9 :: st) M Q) ∧
  (∀ (a0 : Nat) (a1 : Int32) (a2 : Int32) (a3 : Int32) (a4 : Int32) (a5 : Value) (st : List Value) (M : xM) (Q : Option Value → xM → Prop), xW xSC 113 51 [.ref a0, .int a1, .int a2, .int a3, .int a4, a5] (st) M Q = xW xSC 113 53 [.ref a0, .int a1, .int a2, .int a3, .int a4, a5] (.int a4 :: st) M Q) ∧
  (∀ (a0 : Nat) (a1 : Int32) (a2 : Int32) (a3 : Int32) (a4 : Int32) (a5 : Value) (st : List Value) (M : xM) (Q : Option Value → xM → Prop), xW xSC 113 53 [.ref a0, .int a1, .int a2, .int a3, .int a4, a5] (st) M Q = xW xSC 113 54 [.ref a0, .int a1, .int a2, .int a3, .int a4, a5] (.ref a0 :: st) M Q) ∧
  (∀ (a0 : Nat) (a1 : Int32) (a2 : Int32) (a3 : Int32) (a4 : Int32) (a5 : Value) (st : List Value) (M : xM) (Q : Option Value → xM → Prop), xW xSC 113 54 [.ref a0, .int a1, .int a2, .int a3, .int a4, a5] (.ref 0 :: st) M Q = xW xSC 113 57 [.ref a0, .int a1, .int a2, .int a3, .int a4, a5] (.ref 31 :: st) M Q) ∧
  (∀ (a0 : Nat) (a1 : Int32) (a2 : Int32) (a3 : Int32) (a4 : Int32) (a5 : Value) (st : List Value) (M : xM) (Q : Option Value → xM → Prop), xW xSC 113 57 [.ref a0, .int a1, .int a2, .int a3, .int a4, a5] (.ref 31 :: st) M Q = xW xSC 113 60 [.ref a0, .int a1, .int a2, .int a3, .int a4, a5] (.int (M 31 0) :: st) M Q) ∧
  (∀ (a0 : Nat) (a1 : Int32) (a2 : Int32) (a3 : Int32) (a4 : Int32) (a5 : Value) (y0 : Int32) (y1 : Int32) (M : xM) (Q : Option Value → xM → Prop), xW xSC 113 60 [.ref a0, .int a1, .int a2, .int a3, .int a4, a5] (.int y0 :: .int y1 :: .ref 9 :: []) M Q = xW xSC 40 0 [.ref 9, .int y1, .int y0] [] M (fun v M' => xW xSC 113 63 [.ref a0, .int a1, .int a2, .int a3, .int a4, a5] (xpush v []) M' Q)) ∧
  (∀ (a0 : Nat) (a1 : Int32) (a2 : Int32) (a3 : Int32) (a4 : Int32) (a5 : Value) (y0 : Int32) (st : List Value) (M : xM) (Q : Option Value → xM → Prop), xW xSC 113 63 [.ref a0, .int a1, .int a2, .int a3, .int a4, a5] (.int y0 :: st) M Q = xW xSC 113 65 [.ref a0, .int a1, .int a2, .int a3, .int a4, .int y0] (st) M Q) ∧
  (∀ (a0 : Nat) (a1 : Int32) (a2 : Int32) (a3 : Int32) (a4 : Int32) (a5 : Int32) (st : List Value) (M : xM) (Q : Option Value → xM → Prop), xW xSC 113 65 [.ref a0, .int a1, .int a2, .int a3, .int a4, .int a5] (st) M Q = xW xSC 113 67 [.ref a0, .int a1, .int a2, .int a3, .int a4, .int a5] (.int a5 :: st) M Q) ∧
  (∀ (a0 : Nat) (a1 : Int32) (a2 : Int32) (a3 : Int32) (a4 : Int32) (a5 : Int32) (y0 : Int32) (st : List Value) (M : xM) (Q : Option Value → xM → Prop), xW xSC 113 67 [.ref a0, .int a1, .int a2, .int a3, .int a4, .int a5] (.int y0 :: st) M Q = if y0 < nI 0 then xW xSC 113 91 [.ref a0, .int a1, .int a2, .int a3, .int a4, .int a5] (st) M Q else xW xSC 113 70 [.ref a0, .int a1, .int a2, .int a3, .int a4, .int a5] (st) M Q) ∧
  (∀ (a0 : Nat) (a1 : Int32) (a2 : Int32) (a3 : Int32) (a4 : Int32) (a5 : Int32) (st : List Value) (M : xM) (Q : Option Value → xM → Prop), xW xSC 113 70 [.ref a0, .int a1, .int a2, .int a3, .int a4, .int a5] (st) M Q = xW xSC 113 71 [.ref a0, .int a1, .int a2, .int a3, .int a4, .int a5] (.ref a0 :: st) M Q) ∧
  (∀ (a0 : Nat) (a1 : Int32) (a2 : Int32) (a3 : Int32) (a4 : Int32) (a5 : Int32) (st : List Value) (M : xM) (Q : Option Value → xM → Prop), xW xSC 113 71 [.ref a0, .int a1, .int a2, .int a3, .int a4, .int a5] (.ref 0 :: st) M Q = xW xSC 113 74 [.ref a0, .int a1, .int a2, .int a3, .int a4, .int a5] (.ref 31 :: st) M Q) ∧
  (∀ (a0 : Nat) (a1 : Int32) (a2 : Int32) (a3 : Int32) (a4 : Int32) (a5 : Int32) (st : List Value) (M : xM) (Q : Option Value → xM → Prop), xW xSC 113 74 [.ref a0, .int a1, .int a2, .int a3, .int a4, .int a5] (st) M Q = xW xSC 113 75 [.ref a0, .int a1, .int a2, .int a3, .int a4, .int a5] (.ref a0 :: st) M Q) ∧
  (∀ (a0 : Nat) (a1 : Int32) (a2 : Int32) (a3 : Int32) (a4 : Int32) (a5 : Int32) (st : List Value) (M : xM) (Q : Option Value → xM → Prop), xW xSC 113 75 [.ref a0, .int a1, .int a2, .int a3, .int a4, .int a5] (.ref 0 :: st) M Q = xW xSC 113 78 [.ref a0, .int a1, .int a2, .int a3, .int a4, .int a5] (.ref 9 :: st) M Q) ∧
  (∀ (a0 : Nat) (a1 : Int32) (a2 : Int32) (a3 : Int32) (a4 : Int32) (a5 : Int32) (st : List Value) (M : xM) (Q : Option Value → xM → Prop), xW xSC 113 78 [.ref a0, .int a1, .int a2, .int a3, .int a4, .int a5] (st) M Q = xW xSC 113 80 [.ref a0, .int a1, .int a2, .int a3, .int a4, .int a5] (.int a4 :: st) M Q) ∧
  (∀ (a0 : Nat) (a1 : Int32) (a2 : Int32) (a3 : Int32) (a4 : Int32) (a5 : Int32) (st : List Value) (M : xM) (Q : Option Value → xM → Prop), xW xSC 113 80 [.ref a0, .int a1, .int a2, .int a3, .int a4, .int a5] (st) M Q = xW xSC 113 82 [.ref a0, .int a1, .int a2, .int a3, .int a4, .int a5] (.int a5 :: st) M Q) ∧
  (∀ (a0 : Nat) (a1 : Int32) (a2 : Int32) (a3 : Int32) (a4 : Int32) (a5 : Int32) (y0 : Int32) (y1 : Int32) (y3 : Nat) (M : xM) (Q : Option Value → xM → Prop), xW xSC 113 82 [.ref a0, .int a1, .int a2, .int a3, .int a4, .int a5] (.int y0 :: .int y1 :: .ref 9 :: .ref y3 :: []) M Q = xW xSC 37 0 [.ref 9, .int y1, .int y0] [] M (fun v M' => xW xSC 113 85 [.ref a0, .int a1, .int a2, .int a3, .int a4, .int a5] (xpush v [.ref y3]) M' Q)) ∧
  (∀ (a0 : Nat) (a1 : Int32) (a2 : Int32) (a3 : Int32) (a4 : Int32) (a5 : Int32) (y0 : Int32) (M : xM) (Q : Option Value → xM → Prop), xW xSC 113 85 [.ref a0, .int a1, .int a2, .int a3, .int a4, .int a5] (.int y0 :: .ref 31 :: []) M Q = xW xSC 87 0 [.ref 31, .int y0] [] M (fun v M' => xW xSC 113 88 [.ref a0, .int a1, .int a2, .int a3, .int a4, .int a5] (xpush v []) M' Q)) ∧
  (∀ (a0 : Nat) (a1 : Int32) (a2 : Int32) (a3 : Int32) (a4 : Int32) (a5 : Int32) (y0 : Int32) (st : List Value) (M : xM) (Q : Option Value → xM → Prop), xW xSC 113 88 [.ref a0, .int a1, .int a2, .int a3, .int a4, .int a5] (.int y0 :: st) M Q = if y0 = nI 0 then xW xSC 113 91 [.ref a0, .int a1, .int a2, .int a3, .int a4, .int a5] (st) M Q else xW xSC 113 94 [.ref a0, .int a1, .int a2, .int a3, .int a4, .int a5] (st) M Q) ∧
  (∀ (a0 : Nat) (a1 : Int32) (a2 : Int32) (a3 : Int32) (a4 : Int32) (a5 : Int32) (y0 : Int32) (M : xM) (Q : Option Value → xM → Prop), xW xSC 113 93 [.ref a0, .int a1, .int a2, .int a3, .int a4, .int a5] ([.int y0]) M Q = Q (some (.int y0)) M) ∧
  (∀ (a0 : Nat) (a1 : Int32) (a2 : Int32) (a3 : Int32) (a4 : Int32) (a5 : Int32) (st : List Value) (M : xM) (Q : Option Value → xM → Prop), xW xSC 113 94 [.ref a0, .int a1, .int a2, .int a3, .int a4, .int a5] (st) M Q = xW xSC 113 95 [.ref a0, .int a1, .int a2, .int a3, .int a4, .int a5] (.ref a0 :: st) M Q) ∧
  (∀ (a0 : Nat) (a1 : Int32) (a2 : Int32) (a3 : Int32) (a4 : Int32) (a5 : Int32) (st : List Value) (M : xM) (Q : Option Value → xM → Prop), xW xSC 113 95 [.ref a0, .int a1, .int a2, .int a3, .int a4, .int a5] (.ref 0 :: st) M Q = xW xSC 113 98 [.ref a0, .int a1, .int a2, .int a3, .int a4, .int a5] (.ref 33 :: st) M Q) ∧
  (∀ (a0 : Nat) (a1 : Int32) (a2 : Int32) (a3 : Int32) (a4 : Int32) (a5 : Int32) (st : List Value) (M : xM) (Q : Option Value → xM → Prop), xW xSC 113 98 [.ref a0, .int a1, .int a2, .int a3, .int a4, .int a5] (st) M Q = xW xSC 113 99 [.ref a0, .int a1, .int a2, .int a3, .int a4, .int a5] (.ref a0 :: st) M Q) ∧
  (∀ (a0 : Nat) (a1 : Int32) (a2 : Int32) (a3 : Int32) (a4 : Int32) (a5 : Int32) (st : List Value) (M : xM) (Q : Option Value → xM → Prop), xW xSC 113 99 [.ref a0, .int a1, .int a2, .int a3, .int a4, .int a5] (.ref 0 :: st) M Q = xW xSC 113 102 [.ref a0, .int a1, .int a2, .int a3, .int a4, .int a5] (.ref 9 :: st) M Q) ∧
  (∀ (a0 : Nat) (a1 : Int32) (a2 : Int32) (a3 : Int32) (a4 : Int32) (a5 : Int32) (st : List Value) (M : xM) (Q : Option Value → xM → Prop), xW xSC 113 102 [.ref a0, .int a1, .int a2, .int a3, .int a4, .int a5] (st) M Q = xW xSC 113 103 [.ref a0, .int a1, .int a2, .int a3, .int a4, .int a5] (.ref a0 :: st) M Q) ∧
  (∀ (a0 : Nat) (a1 : Int32) (a2 : Int32) (a3 : Int32) (a4 : Int32) (a5 : Int32) (st : List Value) (M : xM) (Q : Option Value → xM → Prop), xW xSC 113 103 [.ref a0, .int a1, .int a2, .int a3, .int a4, .int a5] (.ref 0 :: st) M Q = xW xSC 113 106 [.ref a0, .int a1, .int a2, .int a3, .int a4, .int a5] (.ref 31 :: st) M Q) ∧
  (∀ (a0 : Nat) (a1 : Int32) (a2 : Int32) (a3 : Int32) (a4 : Int32) (a5 : Int32) (st : List Value) (M : xM) (Q : Option Value → xM → Prop), xW xSC 113 106 [.ref a0, .int a1, .int a2, .int a3, .int a4, .int a5] (st) M Q = xW xSC 113 108 [.ref a0, .int a1, .int a2, .int a3, .int a4, .int a5] (.int a4 :: st) M Q) ∧
  (∀ (a0 : Nat) (a1 : Int32) (a2 : Int32) (a3 : Int32) (a4 : Int32) (a5 : Int32) (st : List Value) (M : xM) (Q : Option Value → xM → Prop), xW xSC 113 108 [.ref a0, .int a1, .int a2, .int a3, .int a4, .int a5] (st) M Q = xW xSC 113 110 [.ref a0, .int a1, .int a2, .int a3, .int a4, .int a5] (.int a5 :: st) M Q) ∧
  (∀ (a0 : Nat) (a1 : Int32) (a2 : Int32) (a3 : Int32) (a4 : Int32) (a5 : Int32) (y0 : Int32) (y1 : Int32) (y2 : Nat) (y3 : Nat) (M : xM) (Q : Option Value → xM → Prop), xW xSC 113 110 [.ref a0, .int a1, .int a2, .int a3, .int a4, .int a5] (.int y0 :: .int y1 :: .ref y2 :: .ref y3 :: .ref 33 :: []) M Q = xW xSC 50 0 [.ref 33, .ref y3, .ref y2, .int y1, .int y0, .null, .null] [] M (fun v M' => xW xSC 113 113 [.ref a0, .int a1, .int a2, .int a3, .int a4, .int a5] (xpush v []) M' Q)) ∧
  (∀ (a0 : Nat) (a1 : Int32) (a2 : Int32) (a3 : Int32) (a4 : Int32) (a5 : Int32) (st : List Value) (M : xM) (Q : Option Value → xM → Prop), xW xSC 113 113 [.ref a0, .int a1, .int a2, .int a3, .int a4, .int a5] (st) M Q = xW xSC 113 114 [.ref a0, .int a1, .int a2, .int a3, .int a4, .int a5] (.int a2 :: st) M Q) ∧
  (∀ (a0 : Nat) (a1 : Int32) (a2 : Int32) (a3 : Int32) (a4 : Int32) (a5 : Int32) (st : List Value) (M : xM) (Q : Option Value → xM → Prop), xW xSC 113 114 [.ref a0, .int a1, .int a2, .int a3, .int a4, .int a5] (st) M Q = xW xSC 113 115 [.ref a0, .int a1, .int a2, .int a3, .int a4, .int a5] (.ref a0 :: st) M Q) ∧
  (∀ (a0 : Nat) (a1 : Int32) (a2 : Int32) (a3 : Int32) (a4 : Int32) (a5 : Int32) (st : List Value) (M : xM) (Q : Option Value → xM → Prop), xW xSC 113 115 [.ref a0, .int a1, .int a2, .int a3, .int a4, .int a5] (.ref 0 :: st) M Q = xW xSC 113 118 [.ref a0, .int a1, .int a2, .int a3, .int a4, .int a5] (.ref 33 :: st) M Q) ∧
  (∀ (a0 : Nat) (a1 : Int32) (a2 : Int32) (a3 : Int32) (a4 : Int32) (a5 : Int32) (st : List Value) (M : xM) (Q : Option Value → xM → Prop), xW xSC 113 118 [.ref a0, .int a1, .int a2, .int a3, .int a4, .int a5] (st) M Q = xW xSC 113 121 [.ref a0, .int a1, .int a2, .int a3, .int a4, .int a5] (.int (nI 1000) :: st) M Q) ∧
  (∀ (a0 : Nat) (a1 : Int32) (a2 : Int32) (a3 : Int32) (a4 : Int32) (a5 : Int32) (y0 : Int32) (y2 : Int32) (M : xM) (Q : Option Value → xM → Prop), xW xSC 113 121 [.ref a0, .int a1, .int a2, .int a3, .int a4, .int a5] (.int y0 :: .ref 33 :: .int y2 :: []) M Q = xW xSC 55 0 [.ref 33, .int y0] [] M (fun v M' => xW xSC 113 124 [.ref a0, .int a1, .int a2, .int a3, .int a4, .int a5] (xpush v [.int y2]) M' Q)) ∧
  (∀ (a0 : Nat) (a1 : Int32) (a2 : Int32) (a3 : Int32) (a4 : Int32) (a5 : Int32) (y0 : Int32) (y1 : Int32) (st : List Value) (M : xM) (Q : Option Value → xM → Prop), xW xSC 113 124 [.ref a0, .int a1, .int a2, .int a3, .int a4, .int a5] (.int y0 :: .int y1 :: st) M Q = xW xSC 113 125 [.ref a0, .int a1, .int a2, .int a3, .int a4, .int a5] (.int (y1 + y0) :: st) M Q) ∧
  (∀ (a0 : Nat) (a1 : Int32) (a2 : Int32) (a3 : Int32) (a4 : Int32) (a5 : Int32) (y0 : Int32) (st : List Value) (M : xM) (Q : Option Value → xM → Prop), xW xSC 113 125 [.ref a0, .int a1, .int a2, .int a3, .int a4, .int a5] (.int y0 :: st) M Q = xW xSC 113 126 [.ref a0, .int a1, .int y0, .int a3, .int a4, .int a5] (st) M Q) ∧
  (∀ (a0 : Nat) (a1 : Int32) (a2 : Int32) (a3 : Int32) (a4 : Int32) (a5 : Int32) (st : List Value) (M : xM) (Q : Option Value → xM → Prop), xW xSC 113 126 [.ref a0, .int a1, .int a2, .int a3, .int a4, .int a5] (st) M Q = xW xSC 113 127 [.ref a0, .int a1, .int a2, .int a3, .int a4, .int a5] (.ref a0 :: st) M Q) ∧
  (∀ (a0 : Nat) (a1 : Int32) (a2 : Int32) (a3 : Int32) (a4 : Int32) (a5 : Int32) (st : List Value) (M : xM) (Q : Option Value → xM → Prop), xW xSC 113 127 [.ref a0, .int a1, .int a2, .int a3, .int a4, .int a5] (.ref 0 :: st) M Q = xW xSC 113 130 [.ref a0, .int a1, .int a2, .int a3, .int a4, .int a5] (.ref 31 :: st) M Q) ∧
  (∀ (a0 : Nat) (a1 : Int32) (a2 : Int32) (a3 : Int32) (a4 : Int32) (a5 : Int32) (st : List Value) (M : xM) (Q : Option Value → xM → Prop), xW xSC 113 130 [.ref a0, .int a1, .int a2, .int a3, .int a4, .int a5] (st) M Q = xW xSC 113 131 [.ref a0, .int a1, .int a2, .int a3, .int a4, .int a5] (.ref a0 :: st) M Q) ∧
  (∀ (a0 : Nat) (a1 : Int32) (a2 : Int32) (a3 : Int32) (a4 : Int32) (a5 : Int32) (st : List Value) (M : xM) (Q : Option Value → xM → Prop), xW xSC 113 131 [.ref a0, .int a1, .int a2, .int a3, .int a4, .int a5] (.ref 0 :: st) M Q = xW xSC 113 134 [.ref a0, .int a1, .int a2, .int a3, .int a4, .int a5] (.ref 9 :: st) M Q) ∧
  (∀ (a0 : Nat) (a1 : Int32) (a2 : Int32) (a3 : Int32) (a4 : Int32) (a5 : Int32) (st : List Value) (M : xM) (Q : Option Value → xM → Prop), xW xSC 113 134 [.ref a0, .int a1, .int a2, .int a3, .int a4, .int a5] (st) M Q = xW xSC 113 136 [.ref a0, .int a1, .int a2, .int a3, .int a4, .int a5] (.int a4 :: st) M Q) ∧
  (∀ (a0 : Nat) (a1 : Int32) (a2 : Int32) (a3 : Int32) (a4 : Int32) (a5 : Int32) (st : List Value) (M : xM) (Q : Option Value → xM → Prop), xW xSC 113 136 [.ref a0, .int a1, .int a2, .int a3, .int a4, .int a5] (st) M Q = xW xSC 113 138 [.ref a0, .int a1, .int a2, .int a3, .int a4, .int a5] (.int a5 :: st) M Q) ∧
  (∀ (a0 : Nat) (a1 : Int32) (a2 : Int32) (a3 : Int32) (a4 : Int32) (a5 : Int32) (y0 : Int32) (y1 : Int32) (y2 : Nat) (M : xM) (Q : Option Value → xM → Prop), xW xSC 113 138 [.ref a0, .int a1, .int a2, .int a3, .int a4, .int a5] (.int y0 :: .int y1 :: .ref y2 :: .ref 31 :: []) M Q = xW xSC 88 0 [.ref 31, .ref y2, .int y1, .int y0, .null] [] M (fun v M' => xW xSC 113 141 [.ref a0, .int a1, .int a2, .int a3, .int a4, .int a5] (xpush v []) M' Q)) ∧
  (∀ (a0 : Nat) (a1 : Int32) (a2 : Int32) (a3 : Int32) (a4 : Int32) (a5 : Int32) (st : List Value) (M : xM) (Q : Option Value → xM → Prop), xW xSC 113 141 [.ref a0, .int a1, .int a2, .int a3, .int a4, .int a5] (st) M Q = xW xSC 113 144 [.ref a0, .int a1, .int a2, .int (a3 + nI 1), .int a4, .int a5] (st) M Q) ∧
  (∀ (a0 : Nat) (a1 : Int32) (a2 : Int32) (a3 : Int32) (a4 : Int32) (a5 : Int32) (st : List Value) (M : xM) (Q : Option Value → xM → Prop), xW xSC 113 144 [.ref a0, .int a1, .int a2, .int a3, .int a4, .int a5] (st) M Q = xW xSC 113 29 [.ref a0, .int a1, .int a2, .int a3, .int a4, .int a5] (st) M Q) ∧
  (∀ (a0 : Nat) (a1 : Int32) (a2 : Int32) (a3 : Int32) (a4 : Value) (a5 : Value) (st : List Value) (M : xM) (Q : Option Value → xM → Prop), xW xSC 113 147 [.ref a0, .int a1, .int a2, .int a3, a4, a5] (st) M Q = xW xSC 113 148 [.ref a0, .int a1, .int a2, .int a3, a4, a5] (.int a2 :: st) M Q) ∧
  (∀ (a0 : Nat) (a1 : Int32) (a2 : Int32) (a3 : Int32) (a4 : Value) (a5 : Value) (y0 : Int32) (M : xM) (Q : Option Value → xM → Prop), xW xSC 113 148 [.ref a0, .int a1, .int a2, .int a3, a4, a5] ([.int y0]) M Q = Q (some (.int y0)) M) :=
  ⟨fun a0 a1 a2 a3 a4 a5 st M Q => xw_s rfl rfl,
  fun a0 a1 a2 a3 a4 a5 st M Q => xw_s rfl rfl,
  fun a0 a1 a2 a3 a4 a5 st M Q => xw_s rfl rfl,
  fun a0 a1 a2 a3 a4 a5 y0 M Q => xw_call rfl rfl rfl,
  fun a0 a1 a2 a3 a4 a5 y0 st M Q => xw_brn (c0 := y0 ≠ nI 0) (c1 := y0 = nI 0) rfl rfl (Iff.rfl),
  fun a0 a1 a2 a3 a4 a5 st M Q => xw_s rfl rfl,
  fun a0 a1 a2 a3 a4 a5 y0 M Q => xw_ret rfl rfl,
  fun a0 a1 a2 a3 a4 a5 st M Q => xw_s rfl rfl,
  fun a0 a1 a2 a3 a4 a5 st M Q => xw_s rfl rfl,
  fun a0 a1 a2 a3 a4 a5 st M Q => xw_s rfl rfl,
  fun a0 a1 a2 a3 a4 a5 st M Q => xw_s rfl rfl,
  fun a0 a1 a2 a3 a4 a5 st M Q => xw_s rfl rfl,
  fun a0 a1 a2 a3 a4 a5 y0 y1 M Q => xw_call rfl rfl rfl,
  fun a0 a1 a2 a3 a4 a5 st M Q => xw_s rfl rfl,
  fun a0 a1 a2 a3 a4 a5 y0 st M Q => xw_s rfl rfl,
  fun a0 a1 a2 a3 a4 a5 st M Q => xw_s rfl rfl,
  fun a0 a1 a2 a3 a4 a5 y0 st M Q => xw_s rfl rfl,
  fun a0 a1 a2 a3 a4 a5 st M Q => xw_s rfl rfl,
  fun a0 a1 a2 a3 a4 a5 st M Q => xw_s rfl rfl,
  fun a0 a1 a2 a3 a4 a5 y0 y1 st M Q => xw_brn (c0 := y0 ≤ y1) (c1 := y1 < y0) rfl rfl (xge _ _),
  fun a0 a1 a2 a3 a4 a5 st M Q => xw_s rfl rfl,
  fun a0 a1 a2 a3 a4 a5 st M Q => xw_s rfl rfl,
  fun a0 a1 a2 a3 a4 a5 st M Q => xw_s rfl rfl,
  fun a0 a1 a2 a3 a4 a5 y0 y1 M Q => xw_call rfl rfl rfl,
  fun a0 a1 a2 a3 a4 a5 y0 st M Q => xw_s rfl rfl,
  fun a0 a1 a2 a3 a4 a5 st M Q => xw_s rfl rfl,
  fun a0 a1 a2 a3 a4 a5 st M Q => xw_s rfl rfl,
  fun a0 a1 a2 a3 a4 a5 st M Q => xw_s rfl rfl,
  fun a0 a1 a2 a3 a4 a5 st M Q => xw_s rfl rfl,
  fun a0 a1 a2 a3 a4 a5 st M Q => xw_s rfl rfl,
  fun a0 a1 a2 a3 a4 a5 st M Q => xw_s rfl rfl,
  fun a0 a1 a2 a3 a4 a5 y0 y1 M Q => xw_call rfl rfl rfl,
  fun a0 a1 a2 a3 a4 a5 y0 st M Q => xw_s rfl rfl,
  fun a0 a1 a2 a3 a4 a5 st M Q => xw_s rfl rfl,
  fun a0 a1 a2 a3 a4 a5 y0 st M Q => xw_br (c0 := y0 < nI 0) rfl rfl,
  fun a0 a1 a2 a3 a4 a5 st M Q => xw_s rfl rfl,
  fun a0 a1 a2 a3 a4 a5 st M Q => xw_s rfl rfl,
  fun a0 a1 a2 a3 a4 a5 st M Q => xw_s rfl rfl,
  fun a0 a1 a2 a3 a4 a5 st M Q => xw_s rfl rfl,
  fun a0 a1 a2 a3 a4 a5 st M Q => xw_s rfl rfl,
  fun a0 a1 a2 a3 a4 a5 st M Q => xw_s rfl rfl,
  fun a0 a1 a2 a3 a4 a5 y0 y1 y3 M Q => xw_call rfl rfl rfl,
  fun a0 a1 a2 a3 a4 a5 y0 M Q => xw_call rfl rfl rfl,
  fun a0 a1 a2 a3 a4 a5 y0 st M Q => xw_brn (c0 := y0 ≠ nI 0) (c1 := y0 = nI 0) rfl rfl (Iff.rfl),
  fun a0 a1 a2 a3 a4 a5 y0 M Q => xw_ret rfl rfl,
  fun a0 a1 a2 a3 a4 a5 st M Q => xw_s rfl rfl,
  fun a0 a1 a2 a3 a4 a5 st M Q => xw_s rfl rfl,
  fun a0 a1 a2 a3 a4 a5 st M Q => xw_s rfl rfl,
  fun a0 a1 a2 a3 a4 a5 st M Q => xw_s rfl rfl,
  fun a0 a1 a2 a3 a4 a5 st M Q => xw_s rfl rfl,
  fun a0 a1 a2 a3 a4 a5 st M Q => xw_s rfl rfl,
  fun a0 a1 a2 a3 a4 a5 st M Q => xw_s rfl rfl,
  fun a0 a1 a2 a3 a4 a5 st M Q => xw_s rfl rfl,
  fun a0 a1 a2 a3 a4 a5 y0 y1 y2 y3 M Q => xw_call rfl rfl rfl,
  fun a0 a1 a2 a3 a4 a5 st M Q => xw_s rfl rfl,
  fun a0 a1 a2 a3 a4 a5 st M Q => xw_s rfl rfl,
  fun a0 a1 a2 a3 a4 a5 st M Q => xw_s rfl rfl,
  fun a0 a1 a2 a3 a4 a5 st M Q => xw_s rfl rfl,
  fun a0 a1 a2 a3 a4 a5 y0 y2 M Q => xw_call rfl rfl rfl,
  fun a0 a1 a2 a3 a4 a5 y0 y1 st M Q => xw_s rfl rfl,
  fun a0 a1 a2 a3 a4 a5 y0 st M Q => xw_s rfl rfl,
  fun a0 a1 a2 a3 a4 a5 st M Q => xw_s rfl rfl,
  fun a0 a1 a2 a3 a4 a5 st M Q => xw_s rfl rfl,
  fun a0 a1 a2 a3 a4 a5 st M Q => xw_s rfl rfl,
  fun a0 a1 a2 a3 a4 a5 st M Q => xw_s rfl rfl,
  fun a0 a1 a2 a3 a4 a5 st M Q => xw_s rfl rfl,
  fun a0 a1 a2 a3 a4 a5 st M Q => xw_s rfl rfl,
  fun a0 a1 a2 a3 a4 a5 y0 y1 y2 M Q => xw_call rfl rfl rfl,
  fun a0 a1 a2 a3 a4 a5 st M Q => xw_s rfl rfl,
  fun a0 a1 a2 a3 a4 a5 st M Q => xw_s rfl rfl,
  fun a0 a1 a2 a3 a4 a5 st M Q => xw_s rfl rfl,
  fun a0 a1 a2 a3 a4 a5 y0 M Q => xw_ret rfl rfl⟩
set_option maxRecDepth 20000 in
theorem h113_29 :
  (∀ (a0 : Nat) (a1 : Int32) (a2 : Int32) (a3 : Int32) (a4 : Value) (a5 : Value) (st : List Value) (M : xM) (Q : Option Value → xM → Prop), xW xSC 113 29 [.ref a0, .int a1, .int a2, .int a3, a4, a5] (st) M Q = xW xSC 113 30 [.ref a0, .int a1, .int a2, .int a3, a4, a5] (.int a3 :: st) M Q) :=
  fun a0 a1 a2 a3 a4 a5 st M Q => xw_s rfl rfl
set_option maxRecDepth 20000 in
theorem h113_91 :
  (∀ (a0 : Nat) (a1 : Int32) (a2 : Int32) (a3 : Int32) (a4 : Int32) (a5 : Int32) (st : List Value) (M : xM) (Q : Option Value → xM → Prop), xW xSC 113 91 [.ref a0, .int a1, .int a2, .int a3, .int a4, .int a5] (st) M Q = xW xSC 113 93 [.ref a0, .int a1, .int a2, .int a3, .int a4, .int a5] (.int (-4) :: st) M Q) :=
  fun a0 a1 a2 a3 a4 a5 st M Q => xw_s rfl rfl
set_option maxRecDepth 20000 in
theorem j113 :
  (∀ (a0 : Nat) (a1 : Int32) (a2 : Int32) (a3 : Int32) (a4 : Int32) (a5 : Int32) (st : List Value) (M : xM) (Q : Option Value → xM → Prop), xW xSC 113 91 [.ref a0, .int a1, .int a2, .int a3, .int a4, .int a5] (st) M Q = xW xSC 113 93 [.ref a0, .int a1, .int a2, .int a3, .int a4, .int a5] (.int (-4) :: st) M Q) :=
  fun a0 a1 a2 a3 a4 a5 st M Q => xw_s rfl rfl

set_option maxRecDepth 20000 in
theorem s114 :
  (∀ (a0 : Nat) (a1 : Int32) (a2 : Int32) (a3 : Int32) (st : List Value) (M : xM) (Q : Option Value → xM → Prop), xW xSC 114 0 [.ref a0, .int a1, .int a2, .int a3] (st) M Q = xW xSC 114 1 [.ref a0, .int a1, .int a2, .int a3] (.ref a0 :: st) M Q) ∧
  (∀ (a0 : Nat) (a1 : Int32) (a2 : Int32) (a3 : Int32) (st : List Value) (M : xM) (Q : Option Value → xM → Prop), xW xSC 114 1 [.ref a0, .int a1, .int a2, .int a3] (.ref 0 :: st) M Q = xW xSC 114 4 [.ref a0, .int a1, .int a2, .int a3] (.ref 9 :: st) M Q) ∧
  (∀ (a0 : Nat) (a1 : Int32) (a2 : Int32) (a3 : Int32) (st : List Value) (M : xM) (Q : Option Value → xM → Prop), xW xSC 114 4 [.ref a0, .int a1, .int a2, .int a3] (st) M Q = xW xSC 114 5 [.ref a0, .int a1, .int a2, .int a3] (.int a1 :: st) M Q) ∧
  (∀ (a0 : Nat) (a1 : Int32) (a2 : Int32) (a3 : Int32) (y0 : Int32) (M : xM) (Q : Option Value → xM → Prop), xW xSC 114 5 [.ref a0, .int a1, .int a2, .int a3] (.int y0 :: .ref 9 :: []) M Q = xW xSC 25 0 [.ref 9, .int y0] [] M (fun v M' => xW xSC 114 8 [.ref a0, .int a1, .int a2, .int a3] (xpush v []) M' Q)) ∧
  (∀ (a0 : Nat) (a1 : Int32) (a2 : Int32) (a3 : Int32) (y0 : Int32) (st : List Value) (M : xM) (Q : Option Value → xM → Prop), xW xSC 114 8 [.ref a0, .int a1, .int a2, .int a3] (.int y0 :: st) M Q = if y0 = nI 0 then xW xSC 114 31 [.ref a0, .int a1, .int a2, .int a3] (st) M Q else xW xSC 114 11 [.ref a0, .int a1, .int a2, .int a3] (st) M Q) ∧
  (∀ (a0 : Nat) (a1 : Int32) (a2 : Int32) (a3 : Int32) (st : List Value) (M : xM) (Q : Option Value → xM → Prop), xW xSC 114 11 [.ref a0, .int a1, .int a2, .int a3] (st) M Q = xW xSC 114 12 [.ref a0, .int a1, .int a2, .int a3] (.ref a0 :: st) M Q) ∧
  (∀ (a0 : Nat) (a1 : Int32) (a2 : Int32) (a3 : Int32) (st : List Value) (M : xM) (Q : Option Value → xM → Prop), xW xSC 114 12 [.ref a0, .int a1, .int a2, .int a3] (.ref 0 :: st) M Q = xW xSC 114 15 [.ref a0, .int a1, .int a2, .int a3] (.ref 9 :: st) M Q) ∧
  (∀ (a0 : Nat) (a1 : Int32) (a2 : Int32) (a3 : Int32) (st : List Value) (M : xM) (Q : Option Value → xM → Prop), xW xSC 114 15 [.ref a0, .int a1, .int a2, .int a3] (st) M Q = xW xSC 114 16 [.ref a0, .int a1, .int a2, .int a3] (.int a2 :: st) M Q) ∧
  (∀ (a0 : Nat) (a1 : Int32) (a2 : Int32) (a3 : Int32) (y0 : Int32) (M : xM) (Q : Option Value → xM → Prop), xW xSC 114 16 [.ref a0, .int a1, .int a2, .int a3] (.int y0 :: .ref 9 :: []) M Q = xW xSC 23 0 [.ref 9, .int y0] [] M (fun v M' => xW xSC 114 19 [.ref a0, .int a1, .int a2, .int a3] (xpush v []) M' Q)) ∧
  (∀ (a0 : Nat) (a1 : Int32) (a2 : Int32) (a3 : Int32) (y0 : Int32) (st : List Value) (M : xM) (Q : Option Value → xM → Prop), xW xSC 114 19 [.ref a0, .int a1, .int a2, .int a3] (.int y0 :: st) M Q = if y0 = nI 0 then xW xSC 114 31 [.ref a0, .int a1, .int a2, .int a3] (st) M Q else xW xSC 114 22 [.ref a0, .int a1, .int a2, .int a3] (st) M Q) ∧
  (∀ (a0 : Nat) (a1 : Int32) (a2 : Int32) (a3 : Int32) (st : List Value) (M : xM) (Q : Option Value → xM → Prop), xW xSC 114 22 [.ref a0, .int a1, .int a2, .int a3] (st) M Q = xW xSC 114 23 [.ref a0, .int a1, .int a2, .int a3] (.int a3 :: st) M Q) ∧
  (∀ (a0 : Nat) (a1 : Int32) (a2 : Int32) (a3 : Int32) (st : List Value) (M : xM) (Q : Option Value → xM → Prop), xW xSC 114 23 [.ref a0, .int a1, .int a2, .int a3] (st) M Q = xW xSC 114 24 [.ref a0, .int a1, .int a2, .int a3] (.int (nI 0) :: st) M Q) ∧
  (∀ (a0 : Nat) (a1 : Int32) (a2 : Int32) (a3 : Int32) (st : List Value) (M : xM) (Q : Option Value → xM → Prop), xW xSC 114 24 [.ref a0, .int a1, .int a2, .int a3] (st) M Q = xW xSC 114 25 [.ref a0, .int a1, .int a2, .int a3] (.int (nI 1) :: st) M Q) ∧
  (∀ (a0 : Nat) (a1 : Int32) (a2 : Int32) (a3 : Int32) (y0 : Int32) (y1 : Int32) (y2 : Int32) (M : xM) (Q : Option Value → xM → Prop), xW xSC 114 25 [.ref a0, .int a1, .int a2, .int a3] (.int y0 :: .int y1 :: .int y2 :: []) M Q = xW xSC 132 0 [.int y2, .int y1, .int y0] [] M (fun v M' => xW xSC 114 28 [.ref a0, .int a1, .int a2, .int a3] (xpush v []) M' Q)) ∧
  (∀ (a0 : Nat) (a1 : Int32) (a2 : Int32) (a3 : Int32) (y0 : Int32) (st : List Value) (M : xM) (Q : Option Value → xM → Prop), xW xSC 114 28 [.ref a0, .int a1, .int a2, .int a3] (.int y0 :: st) M Q = if y0 = nI 0 then xW xSC 114 31 [.ref a0, .int a1, .int a2, .int a3] (st) M Q else xW xSC 114 33 [.ref a0, .int a1, .int a2, .int a3] (st) M Q) ∧
  (∀ (a0 : Nat) (a1 : Int32) (a2 : Int32) (a3 : Int32) (y0 : Int32) (M : xM) (Q : Option Value → xM → Prop), xW xSC 114 32 [.ref a0, .int a1, .int a2, .int a3] ([.int y0]) M Q = Q (some (.int y0)) M) ∧
  (∀ (a0 : Nat) (a1 : Int32) (a2 : Int32) (a3 : Int32) (st : List Value) (M : xM) (Q : Option Value → xM → Prop), xW xSC 114 33 [.ref a0, .int a1, .int a2, .int a3] (st) M Q = xW xSC 114 34 [.ref a0, .int a1, .int a2, .int a3] (.ref a0 :: st) M Q) ∧
  (∀ (a0 : Nat) (a1 : Int32) (a2 : Int32) (a3 : Int32) (st : List Value) (M : xM) (Q : Option Value → xM → Prop), xW xSC 114 34 [.ref a0, .int a1, .int a2, .int a3] (.ref 0 :: st) M Q = xW xSC 114 37 [.ref a0, .int a1, .int a2, .int a3] (.ref 31 :: st) M Q) ∧
  (∀ (a0 : Nat) (a1 : Int32) (a2 : Int32) (a3 : Int32) (st : List Value) (M : xM) (Q : Option Value → xM → Prop), xW xSC 114 37 [.ref a0, .int a1, .int a2, .int a3] (st) M Q = xW xSC 114 38 [.ref a0, .int a1, .int a2, .int a3] (.ref a0 :: st) M Q) ∧
  (∀ (a0 : Nat) (a1 : Int32) (a2 : Int32) (a3 : Int32) (st : List Value) (M : xM) (Q : Option Value → xM → Prop), xW xSC 114 38 [.ref a0, .int a1, .int a2, .int a3] (.ref 0 :: st) M Q = xW xSC 114 41 [.ref a0, .int a1, .int a2, .int a3] (.ref 9 :: st) M Q) ∧
  (∀ (a0 : Nat) (a1 : Int32) (a2 : Int32) (a3 : Int32) (st : List Value) (M : xM) (Q : Option Value → xM → Prop), xW xSC 114 41 [.ref a0, .int a1, .int a2, .int a3] (st) M Q = xW xSC 114 42 [.ref a0, .int a1, .int a2, .int a3] (.int a1 :: st) M Q) ∧
  (∀ (a0 : Nat) (a1 : Int32) (a2 : Int32) (a3 : Int32) (y0 : Int32) (y1 : Nat) (M : xM) (Q : Option Value → xM → Prop), xW xSC 114 42 [.ref a0, .int a1, .int a2, .int a3] (.int y0 :: .ref y1 :: .ref 31 :: []) M Q = xW xSC 85 0 [.ref 31, .ref y1, .int y0, .null] [] M (fun v M' => xW xSC 114 45 [.ref a0, .int a1, .int a2, .int a3] (xpush v []) M' Q)) ∧
  (∀ (a0 : Nat) (a1 : Int32) (a2 : Int32) (a3 : Int32) (st : List Value) (M : xM) (Q : Option Value → xM → Prop), xW xSC 114 45 [.ref a0, .int a1, .int a2, .int a3] (st) M Q = xW xSC 114 46 [.ref a0, .int a1, .int a2, .int a3] (.ref a0 :: st) M Q) ∧
  (∀ (a0 : Nat) (a1 : Int32) (a2 : Int32) (a3 : Int32) (st : List Value) (M : xM) (Q : Option Value → xM → Prop), xW xSC 114 46 [.ref a0, .int a1, .int a2, .int a3] (.ref 0 :: st) M Q = xW xSC 114 49 [.ref a0, .int a1, .int a2, .int a3] (.ref 31 :: st) M Q) ∧
  (∀ (a0 : Nat) (a1 : Int32) (a2 : Int32) (a3 : Int32) (st : List Value) (M : xM) (Q : Option Value → xM → Prop), xW xSC 114 49 [.ref a0, .int a1, .int a2, .int a3] (.ref 31 :: st) M Q = xW xSC 114 52 [.ref a0, .int a1, .int a2, .int a3] (.int (M 31 0) :: st) M Q) ∧
  (∀ (a0 : Nat) (a1 : Int32) (a2 : Int32) (a3 : Int32) (st : List Value) (M : xM) (Q : Option Value → xM → Prop), xW xSC 114 52 [.ref a0, .int a1, .int a2, .int a3] (st) M Q = xW xSC 114 53 [.ref a0, .int a1, .int a2, .int a3] (.int a2 :: st) M Q) ∧
  (∀ (a0 : Nat) (a1 : Int32) (a2 : Int32) (a3 : Int32) (y0 : Int32) (y1 : Int32) (st : List Value) (M : xM) (Q : Option Value → xM → Prop), xW xSC 114 53 [.ref a0, .int a1, .int a2, .int a3] (.int y0 :: .int y1 :: st) M Q = if y1 = y0 then xW xSC 114 56 [.ref a0, .int a1, .int a2, .int a3] (st) M Q else xW xSC 114 67 [.ref a0, .int a1, .int a2, .int a3] (st) M Q) ∧
  (∀ (a0 : Nat) (a1 : Int32) (a2 : Int32) (a3 : Int32) (st : List Value) (M : xM) (Q : Option Value → xM → Prop), xW xSC 114 56 [.ref a0, .int a1, .int a2, .int a3] (st) M Q = xW xSC 114 57 [.ref a0, .int a1, .int a2, .int a3] (.int a3 :: st) M Q) ∧
  (∀ (a0 : Nat) (a1 : Int32) (a2 : Int32) (a3 : Int32) (y0 : Int32) (st : List Value) (M : xM) (Q : Option Value → xM → Prop), xW xSC 114 57 [.ref a0, .int a1, .int a2, .int a3] (.int y0 :: st) M Q = if y0 = nI 0 then xW xSC 114 60 [.ref a0, .int a1, .int a2, .int a3] (st) M Q else xW xSC 114 64 [.ref a0, .int a1, .int a2, .int a3] (st) M Q) ∧
  (∀ (a0 : Nat) (a1 : Int32) (a2 : Int32) (a3 : Int32) (st : List Value) (M : xM) (Q : Option Value → xM → Prop), xW xSC 114 60 [.ref a0, .int a1, .int a2, .int a3] (st) M Q = xW xSC 114 61 [.ref a0, .int a1, .int a2, .int a3] (.int (nI 0) :: st) M Q) ∧
  (∀ (a0 : Nat) (a1 : Int32) (a2 : Int32) (a3 : Int32) (st : List Value) (M : xM) (Q : Option Value → xM → Prop), xW xSC 114 61 [.ref a0, .int a1, .int a2, .int a3] (st) M Q = xW xSC 114 66 [.ref a0, .int a1, .int a2, .int a3] (st) M Q) ∧
  (∀ (a0 : Nat) (a1 : Int32) (a2 : Int32) (a3 : Int32) (st : List Value) (M : xM) (Q : Option Value → xM → Prop), xW xSC 114 64 [.ref a0, .int a1, .int a2, .int a3] (st) M Q = xW xSC 114 66 [.ref a0, .int a1, .int a2, .int a3] (.int (-4) :: st) M Q) ∧
  (∀ (a0 : Nat) (a1 : Int32) (a2 : Int32) (a3 : Int32) (st : List Value) (M : xM) (Q : Option Value → xM → Prop), xW xSC 114 67 [.ref a0, .int a1, .int a2, .int a3] (st) M Q = xW xSC 114 68 [.ref a0, .int a1, .int a2, .int a3] (.ref a0 :: st) M Q) ∧
  (∀ (a0 : Nat) (a1 : Int32) (a2 : Int32) (a3 : Int32) (st : List Value) (M : xM) (Q : Option Value → xM → Prop), xW xSC 114 68 [.ref a0, .int a1, .int a2, .int a3] (.ref 0 :: st) M Q = xW xSC 114 71 [.ref a0, .int a1, .int a2, .int a3] (.ref 34 :: st) M Q) ∧
  (∀ (a0 : Nat) (a1 : Int32) (a2 : Int32) (a3 : Int32) (st : List Value) (M : xM) (Q : Option Value → xM → Prop), xW xSC 114 71 [.ref a0, .int a1, .int a2, .int a3] (st) M Q = xW xSC 114 72 [.ref a0, .int a1, .int a2, .int a3] (.ref a0 :: st) M Q) ∧
  (∀ (a0 : Nat) (a1 : Int32) (a2 : Int32) (a3 : Int32) (st : List Value) (M : xM) (Q : Option Value → xM → Prop), xW xSC 114 72 [.ref a0, .int a1, .int a2, .int a3] (.ref 0 :: st) M Q = xW xSC 114 75 [.ref a0, .int a1, .int a2, .int a3] (.ref 9 :: st) M Q) ∧
  (∀ (a0 : Nat) (a1 : Int32) (a2 : Int32) (a3 : Int32) (st : List Value) (M : xM) (Q : Option Value → xM → Prop), xW xSC 114 75 [.ref a0, .int a1, .int a2, .int a3] (st) M Q = xW xSC 114 76 [.ref a0, .int a1, .int a2, .int a3] (.ref a0 :: st) M Q) ∧
  (∀ (a0 : Nat) (a1 : Int32) (a2 : Int32) (a3 : Int32) (st : List Value) (M : xM) (Q : Option Value → xM → Prop), xW xSC 114 76 [.ref a0, .int a1, .int a2, .int a3] (.ref 0 :: st) M Q = xW xSC 114 79 [.ref a0, .int a1, .int a2, .int a3] (.ref 31 :: st) M Q) ∧
  (∀ (a0 : Nat) (a1 : Int32) (a2 : Int32) (a3 : Int32) (y0 : Nat) (y1 : Nat) (M : xM) (Q : Option Value → xM → Prop), xW xSC 114 79 [.ref a0, .int a1, .int a2, .int a3] (.ref y0 :: .ref y1 :: .ref 34 :: []) M Q = xW xSC 91 0 [.ref 34, .ref y1, .ref y0, .null, .null, .null] [] M (fun v M' => xW xSC 114 82 [.ref a0, .int a1, .int a2, .int a3] (xpush v []) M' Q)) ∧
  (∀ (a0 : Nat) (a1 : Int32) (a2 : Int32) (a3 : Int32) (st : List Value) (M : xM) (Q : Option Value → xM → Prop), xW xSC 114 82 [.ref a0, .int a1, .int a2, .int a3] (st) M Q = xW xSC 114 83 [.ref a0, .int a1, .int a2, .int a3] (.ref a0 :: st) M Q) ∧
  (∀ (a0 : Nat) (a1 : Int32) (a2 : Int32) (a3 : Int32) (st : List Value) (M : xM) (Q : Option Value → xM → Prop), xW xSC 114 83 [.ref a0, .int a1, .int a2, .int a3] (.ref 0 :: st) M Q = xW xSC 114 86 [.ref a0, .int a1, .int a2, .int a3] (.ref 34 :: st) M Q) ∧
  (∀ (a0 : Nat) (a1 : Int32) (a2 : Int32) (a3 : Int32) (st : List Value) (M : xM) (Q : Option Value → xM → Prop), xW xSC 114 86 [.ref a0, .int a1, .int a2, .int a3] (st) M Q = xW xSC 114 87 [.ref a0, .int a1, .int a2, .int a3] (.ref a0 :: st) M Q) ∧
  (∀ (a0 : Nat) (a1 : Int32) (a2 : Int32) (a3 : Int32) (st : List Value) (M : xM) (Q : Option Value → xM → Prop), xW xSC 114 87 [.ref a0, .int a1, .int a2, .int a3] (.ref 0 :: st) M Q = xW xSC 114 90 [.ref a0, .int a1, .int a2, .int a3] (.ref 9 :: st) M Q) ∧
  (∀ (a0 : Nat) (a1 : Int32) (a2 : Int32) (a3 : Int32) (st : List Value) (M : xM) (Q : Option Value → xM → Prop), xW xSC 114 90 [.ref a0, .int a1, .int a2, .int a3] (st) M Q = xW xSC 114 91 [.ref a0, .int a1, .int a2, .int a3] (.ref a0 :: st) M Q) ∧
  (∀ (a0 : Nat) (a1 : Int32) (a2 : Int32) (a3 : Int32) (st : List Value) (M : xM) (Q : Option Value → xM → Prop), xW xSC 114 91 [.ref a0, .int a1, .int a2, .int a3] (.ref 0 :: st) M Q = xW xSC 114 94 [.ref a0, .int a1, .int a2, .int a3] (.ref 31 :: st) M Q) ∧
  (∀ (a0 : Nat) (a1 : Int32) (a2 : Int32) (a3 : Int32) (st : List Value) (M : xM) (Q : Option Value → xM → Prop), xW xSC 114 94 [.ref a0, .int a1, .int a2, .int a3] (st) M Q = xW xSC 114 95 [.ref a0, .int a1, .int a2, .int a3] (.int a2 :: st) M Q) ∧
  (∀ (a0 : Nat) (a1 : Int32) (a2 : Int32) (a3 : Int32) (y0 : Int32) (y1 : Nat) (y2 : Nat) (M : xM) (Q : Option Value → xM → Prop), xW xSC 114 95 [.ref a0, .int a1, .int a2, .int a3] (.int y0 :: .ref y1 :: .ref y2 :: .ref 34 :: []) M Q = xW xSC 90 0 [.ref 34, .ref y2, .ref y1, .int y0, .null] [] M (fun v M' => xW xSC 114 98 [.ref a0, .int a1, .int a2, .int a3] (xpush v []) M' Q)) ∧
  (∀ (a0 : Nat) (a1 : Int32) (a2 : Int32) (a3 : Int32) (st : List Value) (M : xM) (Q : Option Value → xM → Prop), xW xSC 114 98 [.ref a0, .int a1, .int a2, .int a3] (st) M Q = xW xSC 114 99 [.ref a0, .int a1, .int a2, .int a3] (.ref a0 :: st) M Q) ∧
  (∀ (a0 : Nat) (a1 : Int32) (a2 : Int32) (a3 : Int32) (st : List Value) (M : xM) (Q : Option Value → xM → Prop), xW xSC 114 99 [.ref a0, .int a1, .int a2, .int a3] (.ref 0 :: st) M Q = xW xSC 114 102 [.ref a0, .int a1, .int a2, .int a3] (.ref 34 :: st) M Q) ∧
  (∀ (a0 : Nat) (a1 : Int32) (a2 : Int32) (a3 : Int32) (st : List Value) (M : xM) (Q : Option Value → xM → Prop), xW xSC 114 102 [.ref a0, .int a1, .int a2, .int a3] (.ref 34 :: st) M Q = xW xSC 114 105 [.ref a0, .int a1, .int a2, .int a3] (.int (M 34 5) :: st) M Q) ∧
  (∀ (a0 : Nat) (a1 : Int32) (a2 : Int32) (a3 : Int32) (y0 : Int32) (st : List Value) (M : xM) (Q : Option Value → xM → Prop), xW xSC 114 105 [.ref a0, .int a1, .int a2, .int a3] (.int y0 :: st) M Q = if y0 < nI 0 then xW xSC 114 108 [.ref a0, .int a1, .int a2, .int a3] (st) M Q else xW xSC 114 111 [.ref a0, .int a1, .int a2, .int a3] (st) M Q) ∧
  (∀ (a0 : Nat) (a1 : Int32) (a2 : Int32) (a3 : Int32) (st : List Value) (M : xM) (Q : Option Value → xM → Prop), xW xSC 114 108 [.ref a0, .int a1, .int a2, .int a3] (st) M Q = xW xSC 114 110 [.ref a0, .int a1, .int a2, .int a3] (.int (-4) :: st) M Q) ∧
  (∀ (a0 : Nat) (a1 : Int32) (a2 : Int32) (a3 : Int32) (y0 : Int32) (M : xM) (Q : Option Value → xM → Prop), xW xSC 114 110 [.ref a0, .int a1, .int a2, .int a3] ([.int y0]) M Q = Q (some (.int y0)) M) ∧
  (∀ (a0 : Nat) (a1 : Int32) (a2 : Int32) (a3 : Int32) (st : List Value) (M : xM) (Q : Option Value → xM → Prop), xW xSC 114 111 [.ref a0, .int a1, .int a2, .int a3] (st) M Q = xW xSC 114 112 [.ref a0, .int a1, .int a2, .int a3] (.int a3 :: st) M Q) ∧
  (∀ (a0 : Nat) (a1 : Int32) (a2 : Int32) (a3 : Int32) (y0 : Int32) (st : List Value) (M : xM) (Q : Option Value → xM → Prop), xW xSC 114 112 [.ref a0, .int a1, .int a2, .int a3] (.int y0 :: st) M Q = if y0 = nI 0 then xW xSC 114 115 [.ref a0, .int a1, .int a2, .int a3] (st) M Q else xW xSC 114 125 [.ref a0, .int a1, .int a2, .int a3] (st) M Q) ∧
  (∀ (a0 : Nat) (a1 : Int32) (a2 : Int32) (a3 : Int32) (st : List Value) (M : xM) (Q : Option Value → xM → Prop), xW xSC 114 115 [.ref a0, .int a1, .int a2, .int a3] (st) M Q = xW xSC 114 116 [.ref a0, .int a1, .int a2, .int a3] (.ref a0 :: st) M Q) ∧
  (∀ (a0 : Nat) (a1 : Int32) (a2 : Int32) (a3 : Int32) (st : List Value) (M : xM) (Q : Option Value → xM → Prop), xW xSC 114 116 [.ref a0, .int a1, .int a2, .int a3] (.ref 0 :: st) M Q = xW xSC 114 119 [.ref a0, .int a1, .int a2, .int a3] (.ref 34 :: st) M Q) ∧
  (∀ (a0 : Nat) (a1 : Int32) (a2 : Int32) (a3 : Int32) (st : List Value) (M : xM) (Q : Option Value → xM → Prop), xW xSC 114 119 [.ref a0, .int a1, .int a2, .int a3] (.ref 34 :: st) M Q = xW xSC 114 122 [.ref a0, .int a1, .int a2, .int a3] (.int (M 34 4) :: st) M Q) ∧
  (∀ (a0 : Nat) (a1 : Int32) (a2 : Int32) (a3 : Int32) (st : List Value) (M : xM) (Q : Option Value → xM → Prop), xW xSC 114 122 [.ref a0, .int a1, .int a2, .int a3] (st) M Q = xW xSC 114 132 [.ref a0, .int a1, .int a2, .int a3] (st) M Q) ∧
  (∀ (a0 : Nat) (a1 : Int32) (a2 : Int32) (a3 : Int32) (st : List Value) (M : xM) (Q : Option Value → xM → Prop), xW xSC 114 125 [.ref a0, .int a1, .int a2, .int a3] (st) M Q = xW xSC 114 126 [.ref a0, .int a1, .int a2, .int a3] (.ref a0 :: st) M Q) ∧
  (∀ (a0 : Nat) (a1 : Int32) (a2 : Int32) (a3 : Int32) (st : List Value) (M : xM) (Q : Option Value → xM → Prop), xW xSC 114 126 [.ref a0, .int a1, .int a2, .int a3] (.ref 0 :: st) M Q = xW xSC 114 129 [.ref a0, .int a1, .int a2, .int a3] (.ref 34 :: st) M Q) ∧
  (∀ (a0 : Nat) (a1 : Int32) (a2 : Int32) (a3 : Int32) (st : List Value) (M : xM) (Q : Option Value → xM → Prop), xW xSC 114 129 [.ref a0, .int a1, .int a2, .int a3] (.ref 34 :: st) M Q = xW xSC 114 132 [.ref a0, .int a1, .int a2, .int a3] (.int (M 34 5) :: st) M Q) :=
  ⟨fun a0 a1 a2 a3 st M Q => xw_s rfl rfl,
  fun a0 a1 a2 a3 st M Q => xw_s rfl rfl,
  fun a0 a1 a2 a3 st M Q => xw_s rfl rfl,
  fun a0 a1 a2 a3 y0 M Q => xw_call rfl rfl rfl,
  fun a0 a1 a2 a3 y0 st M Q => xw_br (c0 := y0 = nI 0) rfl rfl,
  fun a0 a1 a2 a3 st M Q => xw_s rfl rfl,
  fun a0 a1 a2 a3 st M Q => xw_s rfl rfl,
  fun a0 a1 a2 a3 st M Q => xw_s rfl rfl,
  fun a0 a1 a2 a3 y0 M Q => xw_call rfl rfl rfl,
  fun a0 a1 a2 a3 y0 st M Q => xw_br (c0 := y0 = nI 0) rfl rfl,
  fun a0 a1 a2 a3 st M Q => xw_s rfl rfl,
  fun a0 a1 a2 a3 st M Q => xw_s rfl rfl,
  fun a0 a1 a2 a3 st M Q => xw_s rfl rfl,
  fun a0 a1 a2 a3 y0 y1 y2 M Q => xw_call rfl rfl rfl,
  fun a0 a1 a2 a3 y0 st M Q => xw_brn (c0 := y0 ≠ nI 0) (c1 := y0 = nI 0) rfl rfl (Iff.rfl),
  fun a0 a1 a2 a3 y0 M Q => xw_ret rfl rfl,
  fun a0 a1 a2 a3 st M Q => xw_s rfl rfl,
  fun a0 a1 a2 a3 st M Q => xw_s rfl rfl,
  fun a0 a1 a2 a3 st M Q => xw_s rfl rfl,
  fun a0 a1 a2 a3 st M Q => xw_s rfl rfl,
  fun a0 a1 a2 a3 st M Q => xw_s rfl rfl,
  fun a0 a1 a2 a3 y0 y1 M Q => xw_call rfl rfl rfl,
  fun a0 a1 a2 a3 st M Q => xw_s rfl rfl,
  fun a0 a1 a2 a3 st M Q => xw_s rfl rfl,
  fun a0 a1 a2 a3 st M Q => xw_s rfl rfl,
  fun a0 a1 a2 a3 st M Q => xw_s rfl rfl,
  fun a0 a1 a2 a3 y0 y1 st M Q => xw_brn (c0 := y1 ≠ y0) (c1 := y1 = y0) rfl rfl (Iff.rfl),
  fun a0 a1 a2 a3 st M Q => xw_s rfl rfl,
  fun a0 a1 a2 a3 y0 st M Q => xw_brn (c0 := y0 ≠ nI 0) (c1 := y0 = nI 0) rfl rfl (Iff.rfl),
  fun a0 a1 a2 a3 st M Q => xw_s rfl rfl,
  fun a0 a1 a2 a3 st M Q => xw_s rfl rfl,
  fun a0 a1 a2 a3 st M Q => xw_s rfl rfl,
  fun a0 a1 a2 a3 st M Q => xw_s rfl rfl,
  fun a0 a1 a2 a3 st M Q => xw_s rfl rfl,
  fun a0 a1 a2 a3 st M Q => xw_s rfl rfl,
  fun a0 a1 a2 a3 st M Q => xw_s rfl rfl,
  fun a0 a1 a2 a3 st M Q => xw_s rfl rfl,
  fun a0 a1 a2 a3 st M Q => xw_s rfl rfl,
  fun a0 a1 a2 a3 y0 y1 M Q => xw_call rfl rfl rfl,
  fun a0 a1 a2 a3 st M Q => xw_s rfl rfl,
  fun a0 a1 a2 a3 st M Q => xw_s rfl rfl,
  fun a0 a1 a2 a3 st M Q => xw_s rfl rfl,
  fun a0 a1 a2 a3 st M Q => xw_s rfl rfl,
  fun a0 a1 a2 a3 st M Q => xw_s rfl rfl,
  fun a0 a1 a2 a3 st M Q => xw_s rfl rfl,
  fun a0 a1 a2 a3 st M Q => xw_s rfl rfl,
  fun a0 a1 a2 a3 y0 y1 y2 M Q => xw_call rfl rfl rfl,
  fun a0 a1 a2 a3 st M Q => xw_s rfl rfl,
  fun a0 a1 a2 a3 st M Q => xw_s rfl rfl,
  fun a0 a1 a2 a3 st M Q => xw_s rfl rfl,
  fun a0 a1 a2 a3 y0 st M Q => xw_brn (c0 := nI 0 ≤ y0) (c1 := y0 < nI 0) rfl rfl (xge _ _),
  fun a0 a1 a2 a3 st M Q => xw_s rfl rfl,
  fun a0 a1 a2 a3 y0 M Q => xw_ret rfl rfl,
  fun a0 a1 a2 a3 st M Q => xw_s rfl rfl,
  fun a0 a1 a2 a3 y0 st M Q => xw_brn (c0 := y0 ≠ nI 0) (c1 := y0 = nI 0) rfl rfl (Iff.rfl),
  fun a0 a1 a2 a3 st M Q => xw_s rfl rfl,
  fun a0 a1 a2 a3 st M Q => xw_s rfl rfl,
  fun a0 a1 a2 a3 st M Q => xw_s rfl rfl,
  fun a0 a1 a2 a3 st M Q => xw_s rfl rfl,
  fun a0 a1 a2 a3 st M Q => xw_s rfl rfl,
  fun a0 a1 a2 a3 st M Q => xw_s rfl rfl,
  fun a0 a1 a2 a3 st M Q => xw_s rfl rfl⟩
set_option maxRecDepth 20000 in
theorem h114_31 :
  (∀ (a0 : Nat) (a1 : Int32) (a2 : Int32) (a3 : Int32) (st : List Value) (M : xM) (Q : Option Value → xM → Prop), xW xSC 114 31 [.ref a0, .int a1, .int a2, .int a3] (st) M Q = xW xSC 114 32 [.ref a0, .int a1, .int a2, .int a3] (.int (-1) :: st) M Q) :=
  fun a0 a1 a2 a3 st M Q => xw_s rfl rfl
set_option maxRecDepth 20000 in
theorem h114_66 :
  (∀ (a0 : Nat) (a1 : Int32) (a2 : Int32) (a3 : Int32) (y0 : Int32) (M : xM) (Q : Option Value → xM → Prop), xW xSC 114 66 [.ref a0, .int a1, .int a2, .int a3] ([.int y0]) M Q = Q (some (.int y0)) M) :=
  fun a0 a1 a2 a3 y0 M Q => xw_ret rfl rfl
set_option maxRecDepth 20000 in
theorem h114_132 :
  (∀ (a0 : Nat) (a1 : Int32) (a2 : Int32) (a3 : Int32) (y0 : Int32) (M : xM) (Q : Option Value → xM → Prop), xW xSC 114 132 [.ref a0, .int a1, .int a2, .int a3] ([.int y0]) M Q = Q (some (.int y0)) M) :=
  fun a0 a1 a2 a3 y0 M Q => xw_ret rfl rfl
set_option maxRecDepth 20000 in
theorem j114 :
  (∀ (a0 : Nat) (a1 : Int32) (a2 : Int32) (a3 : Int32) (st : List Value) (M : xM) (Q : Option Value → xM → Prop), xW xSC 114 31 [.ref a0, .int a1, .int a2, .int a3] (st) M Q = xW xSC 114 32 [.ref a0, .int a1, .int a2, .int a3] (.int (-1) :: st) M Q) ∧
  (∀ (a0 : Nat) (a1 : Int32) (a2 : Int32) (a3 : Int32) (y0 : Int32) (M : xM) (Q : Option Value → xM → Prop), xW xSC 114 66 [.ref a0, .int a1, .int a2, .int a3] ([.int y0]) M Q = Q (some (.int y0)) M) ∧
  (∀ (a0 : Nat) (a1 : Int32) (a2 : Int32) (a3 : Int32) (y0 : Int32) (M : xM) (Q : Option Value → xM → Prop), xW xSC 114 132 [.ref a0, .int a1, .int a2, .int a3] ([.int y0]) M Q = Q (some (.int y0)) M) :=
  ⟨fun a0 a1 a2 a3 st M Q => xw_s rfl rfl,
  fun a0 a1 a2 a3 y0 M Q => xw_ret rfl rfl,
  fun a0 a1 a2 a3 y0 M Q => xw_ret rfl rfl⟩

set_option maxRecDepth 20000 in
theorem s115 :
  (∀ (a0 : Nat) (a1 : Int32) (a2 : Int32) (a3 : Int32) (a4 : Int32) (a5 : Value) (st : List Value) (M : xM) (Q : Option Value → xM → Prop), xW xSC 115 0 [.ref a0, .int a1, .int a2, .int a3, .int a4, a5] (st) M Q = xW xSC 115 1 [.ref a0, .int a1, .int a2, .int a3, .int a4, a5] (.ref a0 :: st) M Q) ∧
  (∀ (a0 : Nat) (a1 : Int32) (a2 : Int32) (a3 : Int32) (a4 : Int32) (a5 : Value) (st : List Value) (M : xM) (Q : Option Value → xM → Prop), xW xSC 115 1 [.ref a0, .int a1, .int a2, .int a3, .int a4, a5] (st) M Q = xW xSC 115 2 [.ref a0, .int a1, .int a2, .int a3, .int a4, a5] (.int a1 :: st) M Q) ∧
  (∀ (a0 : Nat) (a1 : Int32) (a2 : Int32) (a3 : Int32) (a4 : Int32) (a5 : Value) (st : List Value) (M : xM) (Q : Option Value → xM → Prop), xW xSC 115 2 [.ref a0, .int a1, .int a2, .int a3, .int a4, a5] (st) M Q = xW xSC 115 3 [.ref a0, .int a1, .int a2, .int a3, .int a4, a5] (.int a2 :: st) M Q) ∧
  (∀ (a0 : Nat) (a1 : Int32) (a2 : Int32) (a3 : Int32) (a4 : Int32) (a5 : Value) (st : List Value) (M : xM) (Q : Option Value → xM → Prop), xW xSC 115 3 [.ref a0, .int a1, .int a2, .int a3, .int a4, a5] (st) M Q = xW xSC 115 4 [.ref a0, .int a1, .int a2, .int a3, .int a4, a5] (.int a3 :: st) M Q) ∧
  (∀ (a0 : Nat) (a1 : Int32) (a2 : Int32) (a3 : Int32) (a4 : Int32) (a5 : Value) (y0 : Int32) (y1 : Int32) (y2 : Int32) (M : xM) (Q : Option Value → xM → Prop), xW xSC 115 4 [.ref a0, .int a1, .int a2, .int a3, .int a4, a5] (.int y0 :: .int y1 :: .int y2 :: .ref 0 :: []) M Q = xW xSC 134 0 [.ref 0, .int y2, .int y1, .int y0] [] M (fun v M' => xW xSC 115 7 [.ref a0, .int a1, .int a2, .int a3, .int a4, a5] (xpush v []) M' Q)) ∧
  (∀ (a0 : Nat) (a1 : Int32) (a2 : Int32) (a3 : Int32) (a4 : Int32) (a5 : Value) (y0 : Int32) (st : List Value) (M : xM) (Q : Option Value → xM → Prop), xW xSC 115 7 [.ref a0, .int a1, .int a2, .int a3, .int a4, a5] (.int y0 :: st) M Q = if y0 = nI 0 then xW xSC 115 21 [.ref a0, .int a1, .int a2, .int a3, .int a4, a5] (st) M Q else xW xSC 115 10 [.ref a0, .int a1, .int a2, .int a3, .int a4, a5] (st) M Q) ∧
  (∀ (a0 : Nat) (a1 : Int32) (a2 : Int32) (a3 : Int32) (a4 : Int32) (a5 : Value) (st : List Value) (M : xM) (Q : Option Value → xM → Prop), xW xSC 115 10 [.ref a0, .int a1, .int a2, .int a3, .int a4, a5] (st) M Q = xW xSC 115 12 [.ref a0, .int a1, .int a2, .int a3, .int a4, a5] (.int a4 :: st) M Q) ∧
  (∀ (a0 : Nat) (a1 : Int32) (a2 : Int32) (a3 : Int32) (a4 : Int32) (a5 : Value) (st : List Value) (M : xM) (Q : Option Value → xM → Prop), xW xSC 115 12 [.ref a0, .int a1, .int a2, .int a3, .int a4, a5] (st) M Q = xW xSC 115 13 [.ref a0, .int a1, .int a2, .int a3, .int a4, a5] (.int (nI 0) :: st) M Q) ∧
  (∀ (a0 : Nat) (a1 : Int32) (a2 : Int32) (a3 : Int32) (a4 : Int32) (a5 : Value) (st : List Value) (M : xM) (Q : Option Value → xM → Prop), xW xSC 115 13 [.ref a0, .int a1, .int a2, .int a3, .int a4, a5] (st) M Q = xW xSC 115 15 [.ref a0, .int a1, .int a2, .int a3, .int a4, a5] (.int (nI 99) :: st) M Q) ∧
  (∀ (a0 : Nat) (a1 : Int32) (a2 : Int32) (a3 : Int32) (a4 : Int32) (a5 : Value) (y0 : Int32) (y1 : Int32) (y2 : Int32) (M : xM) (Q : Option Value → xM → Prop), xW xSC 115 15 [.ref a0, .int a1, .int a2, .int a3, .int a4, a5] (.int y0 :: .int y1 :: .int y2 :: []) M Q = xW xSC 132 0 [.int y2, .int y1, .int y0] [] M (fun v M' => xW xSC 115 18 [.ref a0, .int a1, .int a2, .int a3, .int a4, a5] (xpush v []) M' Q)) ∧
  (∀ (a0 : Nat) (a1 : Int32) (a2 : Int32) (a3 : Int32) (a4 : Int32) (a5 : Value) (y0 : Int32) (st : List Value) (M : xM) (Q : Option Value → xM → Prop), xW xSC 115 18 [.ref a0, .int a1, .int a2, .int a3, .int a4, a5] (.int y0 :: st) M Q = if y0 = nI 0 then xW xSC 115 21 [.ref a0, .int a1, .int a2, .int a3, .int a4, a5] (st) M Q else xW xSC 115 23 [.ref a0, .int a1, .int a2, .int a3, .int a4, a5] (st) M Q) ∧
  (∀ (a0 : Nat) (a1 : Int32) (a2 : Int32) (a3 : Int32) (a4 : Int32) (a5 : Value) (y0 : Int32) (M : xM) (Q : Option Value → xM → Prop), xW xSC 115 22 [.ref a0, .int a1, .int a2, .int a3, .int a4, a5] ([.int y0]) M Q = Q (some (.int y0)) M) ∧
  (∀ (a0 : Nat) (a1 : Int32) (a2 : Int32) (a3 : Int32) (a4 : Int32) (a5 : Value) (st : List Value) (M : xM) (Q : Option Value → xM → Prop), xW xSC 115 23 [.ref a0, .int a1, .int a2, .int a3, .int a4, a5] (st) M Q = xW xSC 115 24 [.ref a0, .int a1, .int a2, .int a3, .int a4, a5] (.ref a0 :: st) M Q) ∧
  (∀ (a0 : Nat) (a1 : Int32) (a2 : Int32) (a3 : Int32) (a4 : Int32) (a5 : Value) (st : List Value) (M : xM) (Q : Option Value → xM → Prop), xW xSC 115 24 [.ref a0, .int a1, .int a2, .int a3, .int a4, a5] (.ref 0 :: st) M Q = xW xSC 115 27 [.ref a0, .int a1, .int a2, .int a3, .int a4, a5] (.ref 31 :: st) M Q) ∧
  (∀ (a0 : Nat) (a1 : Int32) (a2 : Int32) (a3 : Int32) (a4 : Int32) (a5 : Value) (st : List Value) (M : xM) (Q : Option Value → xM → Prop), xW xSC 115 27 [.ref a0, .int a1, .int a2, .int a3, .int a4, a5] (st) M Q = xW xSC 115 28 [.ref a0, .int a1, .int a2, .int a3, .int a4, a5] (.ref a0 :: st) M Q) ∧
  (∀ (a0 : Nat) (a1 : Int32) (a2 : Int32) (a3 : Int32) (a4 : Int32) (a5 : Value) (st : List Value) (M : xM) (Q : Option Value → xM → Prop), xW xSC 115 28 [.ref a0, .int a1, .int a2, .int a3, .int a4, a5] (.ref 0 :: st) M Q = xW xSC 115 31 [.ref a0, .int a1, .int a2, .int a3, .int a4, a5] (.ref 9 :: st) M Q) ∧
  (∀ (a0 : Nat) (a1 : Int32) (a2 : Int32) (a3 : Int32) (a4 : Int32) (a5 : Value) (st : List Value) (M : xM) (Q : Option Value → xM → Prop), xW xSC 115 31 [.ref a0, .int a1, .int a2, .int a3, .int a4, a5] (st) M Q = xW xSC 115 32 [.ref a0, .int a1, .int a2, .int a3, .int a4, a5] (.int a1 :: st) M Q) ∧
  (∀ (a0 : Nat) (a1 : Int32) (a2 : Int32) (a3 : Int32) (a4 : Int32) (a5 : Value) (y0 : Int32) (y1 : Nat) (M : xM) (Q : Option Value → xM → Prop), xW xSC 115 32 [.ref a0, .int a1, .int a2, .int a3, .int a4, a5] (.int y0 :: .ref y1 :: .ref 31 :: []) M Q = xW xSC 85 0 [.ref 31, .ref y1, .int y0, .null] [] M (fun v M' => xW xSC 115 35 [.ref a0, .int a1, .int a2, .int a3, .int a4, a5] (xpush v []) M' Q)) ∧
  (∀ (a0 : Nat) (a1 : Int32) (a2 : Int32) (a3 : Int32) (a4 : Int32) (a5 : Value) (st : List Value) (M : xM) (Q : Option Value → xM → Prop), xW xSC 115 35 [.ref a0, .int a1, .int a2, .int a3, .int a4, a5] (st) M Q = xW xSC 115 36 [.ref a0, .int a1, .int a2, .int a3, .int a4, a5] (.ref a0 :: st) M Q) ∧
  (∀ (a0 : Nat) (a1 : Int32) (a2 : Int32) (a3 : Int32) (a4 : Int32) (a5 : Value) (st : List Value) (M : xM) (Q : Option Value → xM → Prop), xW xSC 115 36 [.ref a0, .int a1, .int a2, .int a3, .int a4, a5] (.ref 0 :: st) M Q = xW xSC 115 39 [.ref a0, .int a1, .int a2, .int a3, .int a4, a5] (.ref 31 :: st) M Q) ∧
  (∀ (a0 : Nat) (a1 : Int32) (a2 : Int32) (a3 : Int32) (a4 : Int32) (a5 : Value) (st : List Value) (M : xM) (Q : Option Value → xM → Prop), xW xSC 115 39 [.ref a0, .int a1, .int a2, .int a3, .int a4, a5] (st) M Q = xW xSC 115 40 [.ref a0, .int a1, .int a2, .int a3, .int a4, a5] (.int (nI 0) :: st) M Q) ∧
  (∀ (a0 : Nat) (a1 : Int32) (a2 : Int32) (a3 : Int32) (a4 : Int32) (a5 : Value) (y0 : Int32) (st : List Value) (M : xM) (Q : Option Value → xM → Prop), y0 = 0 ∨ y0 = 1 → xW xSC 115 40 [.ref a0, .int a1, .int a2, .int a3, .int a4, a5] (.int y0 :: .ref 31 :: st) M Q = xW xSC 115 43 [.ref a0, .int a1, .int a2, .int a3, .int a4, a5] (st) (xup M 31 1 y0) Q) ∧
  (∀ (a0 : Nat) (a1 : Int32) (a2 : Int32) (a3 : Int32) (a4 : Int32) (a5 : Value) (st : List Value) (M : xM) (Q : Option Value → xM → Prop), xW xSC 115 43 [.ref a0, .int a1, .int a2, .int a3, .int a4, a5] (st) M Q = xW xSC 115 44 [.ref a0, .int a1, .int a2, .int a3, .int a4, a5] (.ref a0 :: st) M Q) ∧
  (∀ (a0 : Nat) (a1 : Int32) (a2 : Int32) (a3 : Int32) (a4 : Int32) (a5 : Value) (st : List Value) (M : xM) (Q : Option Value → xM → Prop), xW xSC 115 44 [.ref a0, .int a1, .int a2, .int a3, .int a4, a5] (.ref 0 :: st) M Q = xW xSC 115 47 [.ref a0, .int a1, .int a2, .int a3, .int a4, a5] (.ref 31 :: st) M Q) ∧
  (∀ (a0 : Nat) (a1 : Int32) (a2 : Int32) (a3 : Int32) (a4 : Int32) (a5 : Value) (st : List Value) (M : xM) (Q : Option Value → xM → Prop), xW xSC 115 47 [.ref a0, .int a1, .int a2, .int a3, .int a4, a5] (st) M Q = xW xSC 115 48 [.ref a0, .int a1, .int a2, .int a3, .int a4, a5] (.int (nI 3) :: st) M Q) ∧
  (∀ (a0 : Nat) (a1 : Int32) (a2 : Int32) (a3 : Int32) (a4 : Int32) (a5 : Value) (y0 : Int32) (st : List Value) (M : xM) (Q : Option Value → xM → Prop), xW xSC 115 48 [.ref a0, .int a1, .int a2, .int a3, .int a4, a5] (.int y0 :: .ref 31 :: st) M Q = xW xSC 115 51 [.ref a0, .int a1, .int a2, .int a3, .int a4, a5] (st) (xup M 31 2 y0) Q) ∧
  (∀ (a0 : Nat) (a1 : Int32) (a2 : Int32) (a3 : Int32) (a4 : Int32) (a5 : Value) (st : List Value) (M : xM) (Q : Option Value → xM → Prop), xW xSC 115 51 [.ref a0, .int a1, .int a2, .int a3, .int a4, a5] (st) M Q = xW xSC 115 52 [.ref a0, .int a1, .int a2, .int a3, .int a4, a5] (.int (nI 0) :: st) M Q) ∧
  (∀ (a0 : Nat) (a1 : Int32) (a2 : Int32) (a3 : Int32) (a4 : Int32) (a5 : Value) (y0 : Int32) (st : List Value) (M : xM) (Q : Option Value → xM → Prop), xW xSC 115 52 [.ref a0, .int a1, .int a2, .int a3, .int a4, a5] (.int y0 :: st) M Q = xW xSC 115 54 [.ref a0, .int a1, .int a2, .int a3, .int a4, .int y0] (st) M Q) ∧
  (∀ (a0 : Nat) (a1 : Int32) (a2 : Int32) (a3 : Int32) (a4 : Int32) (a5 : Int32) (st : List Value) (M : xM) (Q : Option Value → xM → Prop), xW xSC 115 56 [.ref a0, .int a1, .int a2, .int a3, .int a4, .int a5] (st) M Q = xW xSC 115 58 [.ref a0, .int a1, .int a2, .int a3, .int a4, .int a5] (.int (nI 99) :: st) M Q) ∧
  (∀ (a0 : Nat) (a1 : Int32) (a2 : Int32) (a3 : Int32) (a4 : Int32) (a5 : Int32) (y0 : Int32) (y1 : Int32) (st : List Value) (M : xM) (Q : Option Value → xM → Prop), xW xSC 115 58 [.ref a0, .int a1, .int a2, .int a3, .int a4, .int a5] (.int y0 :: .int y1 :: st) M Q = if y0 < y1 then xW xSC 115 118 [.ref a0, .int a1, .int a2, .int a3, .int a4, .int a5] (st) M Q else xW xSC 115 61 [.ref a0, .int a1, .int a2, .int a3, .int a4, .int a5] (st) M Q) ∧
  (∀ (a0 : Nat) (a1 : Int32) (a2 : Int32) (a3 : Int32) (a4 : Int32) (a5 : Int32) (st : List Value) (M : xM) (Q : Option Value → xM → Prop), xW xSC 115 61 [.ref a0, .int a1, .int a2, .int a3, .int a4, .int a5] (st) M Q = xW xSC 115 62 [.ref a0, .int a1, .int a2, .int a3, .int a4, .int a5] (.ref a0 :: st) M Q) ∧
  (∀ (a0 : Nat) (a1 : Int32) (a2 : Int32) (a3 : Int32) (a4 : Int32) (a5 : Int32) (st : List Value) (M : xM) (Q : Option Value → xM → Prop), xW xSC 115 62 [.ref a0, .int a1, .int a2, .int a3, .int a4, .int a5] (.ref 0 :: st) M Q = xW xSC 115 65 [.ref a0, .int a1, .int a2, .int a3, .int a4, .int a5] (.ref 31 :: st) M Q) ∧
  (∀ (a0 : Nat) (a1 : Int32) (a2 : Int32) (a3 : Int32) (a4 : Int32) (a5 : Int32) (st : List Value) (M : xM) (Q : Option Value → xM → Prop), xW xSC 115 65 [.ref a0, .int a1, .int a2, .int a3, .int a4, .int a5] (.ref 31 :: st) M Q = xW xSC 115 68 [.ref a0, .int a1, .int a2, .int a3, .int a4, .int a5] (.ref 32 :: st) M Q) ∧
  (∀ (a0 : Nat) (a1 : Int32) (a2 : Int32) (a3 : Int32) (a4 : Int32) (a5 : Int32) (st : List Value) (M : xM) (Q : Option Value → xM → Prop), xW xSC 115 68 [.ref a0, .int a1, .int a2, .int a3, .int a4, .int a5] (st) M Q = xW xSC 115 69 [.ref a0, .int a1, .int a2, .int a3, .int a4, .int a5] (.int (nI 2) :: st) M Q) ∧
  (∀ (a0 : Nat) (a1 : Int32) (a2 : Int32) (a3 : Int32) (a4 : Int32) (a5 : Int32) (st : List Value) (M : xM) (Q : Option Value → xM → Prop), xW xSC 115 69 [.ref a0, .int a1, .int a2, .int a3, .int a4, .int a5] (st) M Q = xW xSC 115 70 [.ref a0, .int a1, .int a2, .int a3, .int a4, .int a5] (.int a2 :: st) M Q) ∧
  (∀ (a0 : Nat) (a1 : Int32) (a2 : Int32) (a3 : Int32) (a4 : Int32) (a5 : Int32) (y0 : Int32) (y1 : Int32) (st : List Value) (M : xM) (Q : Option Value → xM → Prop), xW xSC 115 70 [.ref a0, .int a1, .int a2, .int a3, .int a4, .int a5] (.int y0 :: .int y1 :: st) M Q = xW xSC 115 71 [.ref a0, .int a1, .int a2, .int a3, .int a4, .int a5] (.int (y1 * y0) :: st) M Q) ∧
  (∀ (a0 : Nat) (a1 : Int32) (a2 : Int32) (a3 : Int32) (a4 : Int32) (a5 : Int32) (st : List Value) (M : xM) (Q : Option Value → xM → Prop), xW xSC 115 71 [.ref a0, .int a1, .int a2, .int a3, .int a4, .int a5] (st) M Q = xW xSC 115 72 [.ref a0, .int a1, .int a2, .int a3, .int a4, .int a5] (.int a3 :: st) M Q) ∧
  (∀ (a0 : Nat) (a1 : Int32) (a2 : Int32) (a3 : Int32) (a4 : Int32) (a5 : Int32) (y0 : Int32) (y1 : Int32) (st : List Value) (M : xM) (Q : Option Value → xM → Prop), xW xSC 115 72 [.ref a0, .int a1, .int a2, .int a3, .int a4, .int a5] (.int y0 :: .int y1 :: st) M Q = xW xSC 115 73 [.ref a0, .int a1, .int a2, .int a3, .int a4, .int a5] (.int (y1 + y0) :: st) M Q) ∧
  (∀ (a0 : Nat) (a1 : Int32) (a2 : Int32) (a3 : Int32) (a4 : Int32) (a5 : Int32) (st : List Value) (M : xM) (Q : Option Value → xM → Prop), xW xSC 115 73 [.ref a0, .int a1, .int a2, .int a3, .int a4, .int a5] (st) M Q = xW xSC 115 75 [.ref a0, .int a1, .int a2, .int a3, .int a4, .int a5] (.int a5 :: st) M Q) ∧
  (∀ (a0 : Nat) (a1 : Int32) (a2 : Int32) (a3 : Int32) (a4 : Int32) (a5 : Int32) (y0 : Int32) (y1 : Int32) (y2 : Nat) (M : xM) (Q : Option Value → xM → Prop), xW xSC 115 75 [.ref a0, .int a1, .int a2, .int a3, .int a4, .int a5] (.int y0 :: .int y1 :: .ref y2 :: []) M Q = xW xSC 1 0 [.ref y2, .int y1, .int y0] [] M (fun v M' => xW xSC 115 78 [.ref a0, .int a1, .int a2, .int a3, .int a4, .int a5] (xpush v []) M' Q)) ∧
  (∀ (a0 : Nat) (a1 : Int32) (a2 : Int32) (a3 : Int32) (a4 : Int32) (a5 : Int32) (st : List Value) (M : xM) (Q : Option Value → xM → Prop), xW xSC 115 78 [.ref a0, .int a1, .int a2, .int a3, .int a4, .int a5] (st) M Q = xW xSC 115 79 [.ref a0, .int a1, .int a2, .int a3, .int a4, .int a5] (.ref a0 :: st) M Q) ∧
  (∀ (a0 : Nat) (a1 : Int32) (a2 : Int32) (a3 : Int32) (a4 : Int32) (a5 : Int32) (st : List Value) (M : xM) (Q : Option Value → xM → Prop), xW xSC 115 79 [.ref a0, .int a1, .int a2, .int a3, .int a4, .int a5] (.ref 0 :: st) M Q = xW xSC 115 82 [.ref a0, .int a1, .int a2, .int a3, .int a4, .int a5] (.ref 33 :: st) M Q) ∧
  (∀ (a0 : Nat) (a1 : Int32) (a2 : Int32) (a3 : Int32) (a4 : Int32) (a5 : Int32) (st : List Value) (M : xM) (Q : Option Value → xM → Prop), xW xSC 115 82 [.ref a0, .int a1, .int a2, .int a3, .int a4, .int a5] (st) M Q = xW xSC 115 83 [.ref a0, .int a1, .int a2, .int a3, .int a4, .int a5] (.ref a0 :: st) M Q) ∧
  (∀ (a0 : Nat) (a1 : Int32) (a2 : Int32) (a3 : Int32) (a4 : Int32) (a5 : Int32) (st : List Value) (M : xM) (Q : Option Value → xM → Prop), xW xSC 115 83 [.ref a0, .int a1, .int a2, .int a3, .int a4, .int a5] (.ref 0 :: st) M Q = xW xSC 115 86 [.ref a0, .int a1, .int a2, .int a3, .int a4, .int a5] (.ref 9 :: st) M Q) ∧
  (∀ (a0 : Nat) (a1 : Int32) (a2 : Int32) (a3 : Int32) (a4 : Int32) (a5 : Int32) (st : List Value) (M : xM) (Q : Option Value → xM → Prop), xW xSC 115 86 [.ref a0, .int a1, .int a2, .int a3, .int a4, .int a5] (st) M Q = xW xSC 115 87 [.ref a0, .int a1, .int a2, .int a3, .int a4, .int a5] (.ref a0 :: st) M Q) ∧
  (∀ (a0 : Nat) (a1 : Int32) (a2 : Int32) (a3 : Int32) (a4 : Int32) (a5 : Int32) (st : List Value) (M : xM) (Q : Option Value → xM → Prop), xW xSC 115 87 [.ref a0, .int a1, .int a2, .int a3, .int a4, .int a5] (.ref 0 :: st) M Q = xW xSC 115 90 [.ref a0, .int a1, .int a2, .int a3, .int a4, .int a5] (.ref 31 :: st) M Q) ∧
  (∀ (a0 : Nat) (a1 : Int32) (a2 : Int32) (a3 : Int32) (a4 : Int32) (a5 : Int32) (st : List Value) (M : xM) (Q : Option Value → xM → Prop), xW xSC 115 90 [.ref a0, .int a1, .int a2, .int a3, .int a4, .int a5] (st) M Q = xW xSC 115 91 [.ref a0, .int a1, .int a2, .int a3, .int a4, .int a5] (.int a2 :: st) M Q) ∧
  (∀ (a0 : Nat) (a1 : Int32) (a2 : Int32) (a3 : Int32) (a4 : Int32) (a5 : Int32) (st : List Value) (M : xM) (Q : Option Value → xM → Prop), xW xSC 115 91 [.ref a0, .int a1, .int a2, .int a3, .int a4, .int a5] (st) M Q = xW xSC 115 92 [.ref a0, .int a1, .int a2, .int a3, .int a4, .int a5] (.int a3 :: st) M Q) ∧
  (∀ (a0 : Nat) (a1 : Int32) (a2 : Int32) (a3 : Int32) (a4 : Int32) (a5 : Int32) (y0 : Int32) (y1 : Int32) (y2 : Nat) (y3 : Nat) (M : xM) (Q : Option Value → xM → Prop), xW xSC 115 92 [.ref a0, .int a1, .int a2, .int a3, .int a4, .int a5] (.int y0 :: .int y1 :: .ref y2 :: .ref y3 :: .ref 33 :: []) M Q = xW xSC 50 0 [.ref 33, .ref y3, .ref y2, .int y1, .int y0, .null, .null] [] M (fun v M' => xW xSC 115 95 [.ref a0, .int a1, .int a2, .int a3, .int a4, .int a5] (xpush v []) M' Q)) ∧
  (∀ (a0 : Nat) (a1 : Int32) (a2 : Int32) (a3 : Int32) (a4 : Int32) (a5 : Int32) (st : List Value) (M : xM) (Q : Option Value → xM → Prop), xW xSC 115 95 [.ref a0, .int a1, .int a2, .int a3, .int a4, .int a5] (st) M Q = xW xSC 115 96 [.ref a0, .int a1, .int a2, .int a3, .int a4, .int a5] (.ref a0 :: st) M Q) ∧
  (∀ (a0 : Nat) (a1 : Int32) (a2 : Int32) (a3 : Int32) (a4 : Int32) (a5 : Int32) (st : List Value) (M : xM) (Q : Option Value → xM → Prop), xW xSC 115 96 [.ref a0, .int a1, .int a2, .int a3, .int a4, .int a5] (.ref 0 :: st) M Q = xW xSC 115 99 [.ref a0, .int a1, .int a2, .int a3, .int a4, .int a5] (.ref 33 :: st) M Q) ∧
  (∀ (a0 : Nat) (a1 : Int32) (a2 : Int32) (a3 : Int32) (a4 : Int32) (a5 : Int32) (st : List Value) (M : xM) (Q : Option Value → xM → Prop), xW xSC 115 99 [.ref a0, .int a1, .int a2, .int a3, .int a4, .int a5] (st) M Q = xW xSC 115 101 [.ref a0, .int a1, .int a2, .int a3, .int a4, .int a5] (.int (nI 100) :: st) M Q) ∧
  (∀ (a0 : Nat) (a1 : Int32) (a2 : Int32) (a3 : Int32) (a4 : Int32) (a5 : Int32) (y0 : Int32) (M : xM) (Q : Option Value → xM → Prop), xW xSC 115 101 [.ref a0, .int a1, .int a2, .int a3, .int a4, .int a5] (.int y0 :: .ref 33 :: []) M Q = xW xSC 55 0 [.ref 33, .int y0] [] M (fun v M' => xW xSC 115 104 [.ref a0, .int a1, .int a2, .int a3, .int a4, .int a5] (xpush v []) M' Q)) ∧
  (∀ (a0 : Nat) (a1 : Int32) (a2 : Int32) (a3 : Int32) (a4 : Int32) (a5 : Int32) (st : List Value) (M : xM) (Q : Option Value → xM → Prop), xW xSC 115 104 [.ref a0, .int a1, .int a2, .int a3, .int a4, .int a5] (st) M Q = xW xSC 115 106 [.ref a0, .int a1, .int a2, .int a3, .int a4, .int a5] (.int a4 :: st) M Q) ∧
  (∀ (a0 : Nat) (a1 : Int32) (a2 : Int32) (a3 : Int32) (a4 : Int32) (a5 : Int32) (y0 : Int32) (y1 : Int32) (st : List Value) (M : xM) (Q : Option Value → xM → Prop), xW xSC 115 106 [.ref a0, .int a1, .int a2, .int a3, .int a4, .int a5] (.int y0 :: .int y1 :: st) M Q = if y0 < y1 then xW xSC 115 112 [.ref a0, .int a1, .int a2, .int a3, .int a4, .int a5] (st) M Q else xW xSC 115 109 [.ref a0, .int a1, .int a2, .int a3, .int a4, .int a5] (st) M Q) ∧
  (∀ (a0 : Nat) (a1 : Int32) (a2 : Int32) (a3 : Int32) (a4 : Int32) (a5 : Int32) (st : List Value) (M : xM) (Q : Option Value → xM → Prop), xW xSC 115 109 [.ref a0, .int a1, .int a2, .int a3, .int a4, .int a5] (st) M Q = xW xSC 115 111 [.ref a0, .int a1, .int a2, .int a3, .int a4, .int a5] (.int a5 :: st) M Q) ∧
  (∀ (a0 : Nat) (a1 : Int32) (a2 : Int32) (a3 : Int32) (a4 : Int32) (a5 : Int32) (y0 : Int32) (M : xM) (Q : Option Value → xM → Prop), xW xSC 115 111 [.ref a0, .int a1, .int a2, .int a3, .int a4, .int a5] ([.int y0]) M Q = Q (some (.int y0)) M) ∧
  (∀ (a0 : Nat) (a1 : Int32) (a2 : Int32) (a3 : Int32) (a4 : Int32) (a5 : Int32) (st : List Value) (M : xM) (Q : Option Value → xM → Prop), xW xSC 115 112 [.ref a0, .int a1, .int a2, .int a3, .int a4, .int a5] (st) M Q = xW xSC 115 115 [.ref a0, .int a1, .int a2, .int a3, .int a4, .int (a5 + nI 1)] (st) M Q) ∧
  (∀ (a0 : Nat) (a1 : Int32) (a2 : Int32) (a3 : Int32) (a4 : Int32) (a5 : Int32) (st : List Value) (M : xM) (Q : Option Value → xM → Prop), xW xSC 115 115 [.ref a0, .int a1, .int a2, .int a3, .int a4, .int a5] (st) M Q = xW xSC 115 54 [.ref a0, .int a1, .int a2, .int a3, .int a4, .int a5] (st) M Q) ∧
  (∀ (a0 : Nat) (a1 : Int32) (a2 : Int32) (a3 : Int32) (a4 : Int32) (a5 : Int32) (st : List Value) (M : xM) (Q : Option Value → xM → Prop), xW xSC 115 118 [.ref a0, .int a1, .int a2, .int a3, .int a4, .int a5] (st) M Q = xW xSC 115 120 [.ref a0, .int a1, .int a2, .int a3, .int a4, .int a5] (.int (-4) :: st) M Q) ∧
  (∀ (a0 : Nat) (a1 : Int32) (a2 : Int32) (a3 : Int32) (a4 : Int32) (a5 : Int32) (y0 : Int32) (M : xM) (Q : Option Value → xM → Prop), xW xSC 115 120 [.ref a0, .int a1, .int a2, .int a3, .int a4, .int a5] ([.int y0]) M Q = Q (some (.int y0)) M) :=
  ⟨fun a0 a1 a2 a3 a4 a5 st M Q => xw_s rfl rfl,
  fun a0 a1 a2 a3 a4 a5 st M Q => xw_s rfl rfl,
  fun a0 a1 a2 a3 a4 a5 st M Q => xw_s rfl rfl,
  fun a0 a1 a2 a3 a4 a5 st M Q => xw_s rfl rfl,
  fun a0 a1 a2 a3 a4 a5 y0 y1 y2 M Q => xw_call rfl rfl rfl,
  fun a0 a1 a2 a3 a4 a5 y0 st M Q => xw_br (c0 := y0 = nI 0) rfl rfl,
  fun a0 a1 a2 a3 a4 a5 st M Q => xw_s rfl rfl,
  fun a0 a1 a2 a3 a4 a5 st M Q => xw_s rfl rfl,
  fun a0 a1 a2 a3 a4 a5 st M Q => xw_s rfl rfl,
  fun a0 a1 a2 a3 a4 a5 y0 y1 y2 M Q => xw_call rfl rfl rfl,
  fun a0 a1 a2 a3 a4 a5 y0 st M Q => xw_brn (c0 := y0 ≠ nI 0) (c1 := y0 = nI 0) rfl rfl (Iff.rfl),
  fun a0 a1 a2 a3 a4 a5 y0 M Q => xw_ret rfl rfl,
  fun a0 a1 a2 a3 a4 a5 st M Q => xw_s rfl rfl,
  fun a0 a1 a2 a3 a4 a5 st M Q => xw_s rfl rfl,
  fun a0 a1 a2 a3 a4 a5 st M Q => xw_s rfl rfl,
  fun a0 a1 a2 a3 a4 a5 st M Q => xw_s rfl rfl,
  fun a0 a1 a2 a3 a4 a5 st M Q => xw_s rfl rfl,
  fun a0 a1 a2 a3 a4 a5 y0 y1 M Q => xw_call rfl rfl rfl,
  fun a0 a1 a2 a3 a4 a5 st M Q => xw_s rfl rfl,
  fun a0 a1 a2 a3 a4 a5 st M Q => xw_s rfl rfl,
  fun a0 a1 a2 a3 a4 a5 st M Q => xw_s rfl rfl,
  fun a0 a1 a2 a3 a4 a5 y0 st M Q h0 => xw_putz rfl rfl rfl rfl rfl h0,
  fun a0 a1 a2 a3 a4 a5 st M Q => xw_s rfl rfl,
  fun a0 a1 a2 a3 a4 a5 st M Q => xw_s rfl rfl,
  fun a0 a1 a2 a3 a4 a5 st M Q => xw_s rfl rfl,
  fun a0 a1 a2 a3 a4 a5 y0 st M Q => xw_s rfl rfl,
  fun a0 a1 a2 a3 a4 a5 st M Q => xw_s rfl rfl,
  fun a0 a1 a2 a3 a4 a5 y0 st M Q => xw_s rfl rfl,
  fun a0 a1 a2 a3 a4 a5 st M Q => xw_s rfl rfl,
  fun a0 a1 a2 a3 a4 a5 y0 y1 st M Q => xw_br (c0 := y0 < y1) rfl rfl,
  fun a0 a1 a2 a3 a4 a5 st M Q => xw_s rfl rfl,
  fun a0 a1 a2 a3 a4 a5 st M Q => xw_s rfl rfl,
  fun a0 a1 a2 a3 a4 a5 st M Q => xw_s rfl rfl,
  fun a0 a1 a2 a3 a4 a5 st M Q => xw_s rfl rfl,
  fun a0 a1 a2 a3 a4 a5 st M Q => xw_s rfl rfl,
  fun a0 a1 a2 a3 a4 a5 y0 y1 st M Q => xw_s rfl rfl,
  fun a0 a1 a2 a3 a4 a5 st M Q => xw_s rfl rfl,
  fun a0 a1 a2 a3 a4 a5 y0 y1 st M Q => xw_s rfl rfl,
  fun a0 a1 a2 a3 a4 a5 st M Q => xw_s rfl rfl,
  fun a0 a1 a2 a3 a4 a5 y0 y1 y2 M Q => xw_call rfl rfl rfl,
  fun a0 a1 a2 a3 a4 a5 st M Q => xw_s rfl rfl,
  fun a0 a1 a2 a3 a4 a5 st M Q => xw_s rfl rfl,
  fun a0 a1 a2 a3 a4 a5 st M Q => xw_s rfl rfl,
  fun a0 a1 a2 a3 a4 a5 st M Q => xw_s rfl rfl,
  fun a0 a1 a2 a3 a4 a5 st M Q => xw_s rfl rfl,
  fun a0 a1 a2 a3 a4 a5 st M Q => xw_s rfl rfl,
  fun a0 a1 a2 a3 a4 a5 st M Q => xw_s rfl rfl,
  fun a0 a1 a2 a3 a4 a5 st M Q => xw_s rfl rfl,
  fun a0 a1 a2 a3 a4 a5 y0 y1 y2 y3 M Q => xw_call rfl rfl rfl,
  fun a0 a1 a2 a3 a4 a5 st M Q => xw_s rfl rfl,
  fun a0 a1 a2 a3 a4 a5 st M Q => xw_s rfl rfl,
  fun a0 a1 a2 a3 a4 a5 st M Q => xw_s rfl rfl,
  fun a0 a1 a2 a3 a4 a5 y0 M Q => xw_call rfl rfl rfl,
  fun a0 a1 a2 a3 a4 a5 st M Q => xw_s rfl rfl,
  fun a0 a1 a2 a3 a4 a5 y0 y1 st M Q => xw_br (c0 := y0 < y1) rfl rfl,
  fun a0 a1 a2 a3 a4 a5 st M Q => xw_s rfl rfl,
  fun a0 a1 a2 a3 a4 a5 y0 M Q => xw_ret rfl rfl,
  fun a0 a1 a2 a3 a4 a5 st M Q => xw_s rfl rfl,
  fun a0 a1 a2 a3 a4 a5 st M Q => xw_s rfl rfl,
  fun a0 a1 a2 a3 a4 a5 st M Q => xw_s rfl rfl,
  fun a0 a1 a2 a3 a4 a5 y0 M Q => xw_ret rfl rfl⟩
set_option maxRecDepth 20000 in
theorem h115_21 :
  (∀ (a0 : Nat) (a1 : Int32) (a2 : Int32) (a3 : Int32) (a4 : Int32) (a5 : Value) (st : List Value) (M : xM) (Q : Option Value → xM → Prop), xW xSC 115 21 [.ref a0, .int a1, .int a2, .int a3, .int a4, a5] (st) M Q = xW xSC 115 22 [.ref a0, .int a1, .int a2, .int a3, .int a4, a5] (.int (-1) :: st) M Q) :=
  fun a0 a1 a2 a3 a4 a5 st M Q => xw_s rfl rfl
set_option maxRecDepth 20000 in
theorem h115_54 :
  (∀ (a0 : Nat) (a1 : Int32) (a2 : Int32) (a3 : Int32) (a4 : Int32) (a5 : Int32) (st : List Value) (M : xM) (Q : Option Value → xM → Prop), xW xSC 115 54 [.ref a0, .int a1, .int a2, .int a3, .int a4, .int a5] (st) M Q = xW xSC 115 56 [.ref a0, .int a1, .int a2, .int a3, .int a4, .int a5] (.int a5 :: st) M Q) :=
  fun a0 a1 a2 a3 a4 a5 st M Q => xw_s rfl rfl
set_option maxRecDepth 20000 in
theorem j115 :
  (∀ (a0 : Nat) (a1 : Int32) (a2 : Int32) (a3 : Int32) (a4 : Int32) (a5 : Value) (st : List Value) (M : xM) (Q : Option Value → xM → Prop), xW xSC 115 21 [.ref a0, .int a1, .int a2, .int a3, .int a4, a5] (st) M Q = xW xSC 115 22 [.ref a0, .int a1, .int a2, .int a3, .int a4, a5] (.int (-1) :: st) M Q) :=
  fun a0 a1 a2 a3 a4 a5 st M Q => xw_s rfl rfl

set_option maxRecDepth 20000 in
theorem s116 :
  (∀ (a0 : Nat) (a1 : Int32) (a2 : Int32) (a3 : Int32) (a4 : Int32) (a5 : Int32) (a6 : Value) (a7 : Value) (st : List Value) (M : xM) (Q : Option Value → xM → Prop), xW xSC 116 0 [.ref a0, .int a1, .int a2, .int a3, .int a4, .int a5, a6, a7] (st) M Q = xW xSC 116 1 [.ref a0, .int a1, .int a2, .int a3, .int a4, .int a5, a6, a7] (.ref a0 :: st) M Q) ∧
  (∀ (a0 : Nat) (a1 : Int32) (a2 : Int32) (a3 : Int32) (a4 : Int32) (a5 : Int32) (a6 : Value) (a7 : Value) (st : List Value) (M : xM) (Q : Option Value → xM → Prop), xW xSC 116 1 [.ref a0, .int a1, .int a2, .int a3, .int a4, .int a5, a6, a7] (st) M Q = xW xSC 116 2 [.ref a0, .int a1, .int a2, .int a3, .int a4, .int a5, a6, a7] (.int a1 :: st) M Q) ∧
  (∀ (a0 : Nat) (a1 : Int32) (a2 : Int32) (a3 : Int32) (a4 : Int32) (a5 : Int32) (a6 : Value) (a7 : Value) (st : List Value) (M : xM) (Q : Option Value → xM → Prop), xW xSC 116 2 [.ref a0, .int a1, .int a2, .int a3, .int a4, .int a5, a6, a7] (st) M Q = xW xSC 116 3 [.ref a0, .int a1, .int a2, .int a3, .int a4, .int a5, a6, a7] (.int a2 :: st) M Q) ∧
  (∀ (a0 : Nat) (a1 : Int32) (a2 : Int32) (a3 : Int32) (a4 : Int32) (a5 : Int32) (a6 : Value) (a7 : Value) (st : List Value) (M : xM) (Q : Option Value → xM → Prop), xW xSC 116 3 [.ref a0, .int a1, .int a2, .int a3, .int a4, .int a5, a6, a7] (st) M Q = xW xSC 116 4 [.ref a0, .int a1, .int a2, .int a3, .int a4, .int a5, a6, a7] (.int a3 :: st) M Q) ∧
  (∀ (a0 : Nat) (a1 : Int32) (a2 : Int32) (a3 : Int32) (a4 : Int32) (a5 : Int32) (a6 : Value) (a7 : Value) (y0 : Int32) (y1 : Int32) (y2 : Int32) (M : xM) (Q : Option Value → xM → Prop), xW xSC 116 4 [.ref a0, .int a1, .int a2, .int a3, .int a4, .int a5, a6, a7] (.int y0 :: .int y1 :: .int y2 :: .ref 0 :: []) M Q = xW xSC 134 0 [.ref 0, .int y2, .int y1, .int y0] [] M (fun v M' => xW xSC 116 7 [.ref a0, .int a1, .int a2, .int a3, .int a4, .int a5, a6, a7] (xpush v []) M' Q)) ∧
  (∀ (a0 : Nat) (a1 : Int32) (a2 : Int32) (a3 : Int32) (a4 : Int32) (a5 : Int32) (a6 : Value) (a7 : Value) (y0 : Int32) (st : List Value) (M : xM) (Q : Option Value → xM → Prop), xW xSC 116 7 [.ref a0, .int a1, .int a2, .int a3, .int a4, .int a5, a6, a7] (.int y0 :: st) M Q = if y0 = nI 0 then xW xSC 116 27 [.ref a0, .int a1, .int a2, .int a3, .int a4, .int a5, a6, a7] (st) M Q else xW xSC 116 10 [.ref a0, .int a1, .int a2, .int a3, .int a4, .int a5, a6, a7] (st) M Q) ∧
  (∀ (a0 : Nat) (a1 : Int32) (a2 : Int32) (a3 : Int32) (a4 : Int32) (a5 : Int32) (a6 : Value) (a7 : Value) (st : List Value) (M : xM) (Q : Option Value → xM → Prop), xW xSC 116 10 [.ref a0, .int a1, .int a2, .int a3, .int a4, .int a5, a6, a7] (st) M Q = xW xSC 116 11 [.ref a0, .int a1, .int a2, .int a3, .int a4, .int a5, a6, a7] (.ref a0 :: st) M Q) ∧
  (∀ (a0 : Nat) (a1 : Int32) (a2 : Int32) (a3 : Int32) (a4 : Int32) (a5 : Int32) (a6 : Value) (a7 : Value) (st : List Value) (M : xM) (Q : Option Value → xM → Prop), xW xSC 116 11 [.ref a0, .int a1, .int a2, .int a3, .int a4, .int a5, a6, a7] (st) M Q = xW xSC 116 13 [.ref a0, .int a1, .int a2, .int a3, .int a4, .int a5, a6, a7] (.int a4 :: st) M Q) ∧
  (∀ (a0 : Nat) (a1 : Int32) (a2 : Int32) (a3 : Int32) (a4 : Int32) (a5 : Int32) (a6 : Value) (a7 : Value) (st : List Value) (M : xM) (Q : Option Value → xM → Prop), xW xSC 116 13 [.ref a0, .int a1, .int a2, .int a3, .int a4, .int a5, a6, a7] (st) M Q = xW xSC 116 15 [.ref a0, .int a1, .int a2, .int a3, .int a4, .int a5, a6, a7] (.int a5 :: st) M Q) ∧
  (∀ (a0 : Nat) (a1 : Int32) (a2 : Int32) (a3 : Int32) (a4 : Int32) (a5 : Int32) (a6 : Value) (a7 : Value) (y0 : Int32) (y1 : Int32) (M : xM) (Q : Option Value → xM → Prop), xW xSC 116 15 [.ref a0, .int a1, .int a2, .int a3, .int a4, .int a5, a6, a7] (.int y0 :: .int y1 :: .ref 0 :: []) M Q = xW xSC 133 0 [.ref 0, .int y1, .int y0] [] M (fun v M' => xW xSC 116 18 [.ref a0, .int a1, .int a2, .int a3, .int a4, .int a5, a6, a7] (xpush v []) M' Q)) ∧
  (∀ (a0 : Nat) (a1 : Int32) (a2 : Int32) (a3 : Int32) (a4 : Int32) (a5 : Int32) (a6 : Value) (a7 : Value) (y0 : Int32) (st : List Value) (M : xM) (Q : Option Value → xM → Prop), xW xSC 116 18 [.ref a0, .int a1, .int a2, .int a3, .int a4, .int a5, a6, a7] (.int y0 :: st) M Q = if y0 = nI 0 then xW xSC 116 27 [.ref a0, .int a1, .int a2, .int a3, .int a4, .int a5, a6, a7] (st) M Q else xW xSC 116 21 [.ref a0, .int a1, .int a2, .int a3, .int a4, .int a5, a6, a7] (st) M Q) ∧
  (∀ (a0 : Nat) (a1 : Int32) (a2 : Int32) (a3 : Int32) (a4 : Int32) (a5 : Int32) (a6 : Value) (a7 : Value) (st : List Value) (M : xM) (Q : Option Value → xM → Prop), xW xSC 116 21 [.ref a0, .int a1, .int a2, .int a3, .int a4, .int a5, a6, a7] (st) M Q = xW xSC 116 22 [.ref a0, .int a1, .int a2, .int a3, .int a4, .int a5, a6, a7] (.int a2 :: st) M Q) ∧
  (∀ (a0 : Nat) (a1 : Int32) (a2 : Int32) (a3 : Int32) (a4 : Int32) (a5 : Int32) (a6 : Value) (a7 : Value) (st : List Value) (M : xM) (Q : Option Value → xM → Prop), xW xSC 116 22 [.ref a0, .int a1, .int a2, .int a3, .int a4, .int a5, a6, a7] (st) M Q = xW xSC 116 24 [.ref a0, .int a1, .int a2, .int a3, .int a4, .int a5, a6, a7] (.int a4 :: st) M Q) ∧
  (∀ (a0 : Nat) (a1 : Int32) (a2 : Int32) (a3 : Int32) (a4 : Int32) (a5 : Int32) (a6 : Value) (a7 : Value) (y0 : Int32) (y1 : Int32) (st : List Value) (M : xM) (Q : Option Value → xM → Prop), xW xSC 116 24 [.ref a0, .int a1, .int a2, .int a3, .int a4, .int a5, a6, a7] (.int y0 :: .int y1 :: st) M Q = if y1 = y0 then xW xSC 116 27 [.ref a0, .int a1, .int a2, .int a3, .int a4, .int a5, a6, a7] (st) M Q else xW xSC 116 29 [.ref a0, .int a1, .int a2, .int a3, .int a4, .int a5, a6, a7] (st) M Q) ∧
  (∀ (a0 : Nat) (a1 : Int32) (a2 : Int32) (a3 : Int32) (a4 : Int32) (a5 : Int32) (a6 : Value) (a7 : Value) (y0 : Int32) (M : xM) (Q : Option Value → xM → Prop), xW xSC 116 28 [.ref a0, .int a1, .int a2, .int a3, .int a4, .int a5, a6, a7] ([.int y0]) M Q = Q (some (.int y0)) M) ∧
  (∀ (a0 : Nat) (a1 : Int32) (a2 : Int32) (a3 : Int32) (a4 : Int32) (a5 : Int32) (a6 : Value) (a7 : Value) (st : List Value) (M : xM) (Q : Option Value → xM → Prop), xW xSC 116 29 [.ref a0, .int a1, .int a2, .int a3, .int a4, .int a5, a6, a7] (st) M Q = xW xSC 116 30 [.ref a0, .int a1, .int a2, .int a3, .int a4, .int a5, a6, a7] (.ref a0 :: st) M Q) ∧
  (∀ (a0 : Nat) (a1 : Int32) (a2 : Int32) (a3 : Int32) (a4 : Int32) (a5 : Int32) (a6 : Value) (a7 : Value) (st : List Value) (M : xM) (Q : Option Value → xM → Prop), xW xSC 116 30 [.ref a0, .int a1, .int a2, .int a3, .int a4, .int a5, a6, a7] (.ref 0 :: st) M Q = xW xSC 116 33 [.ref a0, .int a1, .int a2, .int a3, .int a4, .int a5, a6, a7] (.ref 31 :: st) M Q) ∧
  (∀ (a0 : Nat) (a1 : Int32) (a2 : Int32) (a3 : Int32) (a4 : Int32) (a5 : Int32) (a6 : Value) (a7 : Value) (st : List Value) (M : xM) (Q : Option Value → xM → Prop), xW xSC 116 33 [.ref a0, .int a1, .int a2, .int a3, .int a4, .int a5, a6, a7] (st) M Q = xW xSC 116 34 [.ref a0, .int a1, .int a2, .int a3, .int a4, .int a5, a6, a7] (.ref a0 :: st) M Q) ∧
  (∀ (a0 : Nat) (a1 : Int32) (a2 : Int32) (a3 : Int32) (a4 : Int32) (a5 : Int32) (a6 : Value) (a7 : Value) (st : List Value) (M : xM) (Q : Option Value → xM → Prop), xW xSC 116 34 [.ref a0, .int a1, .int a2, .int a3, .int a4, .int a5, a6, a7] (.ref 0 :: st) M Q = xW xSC 116 37 [.ref a0, .int a1, .int a2, .int a3, .int a4, .int a5, a6, a7] (.ref 9 :: st) M Q) ∧
  (∀ (a0 : Nat) (a1 : Int32) (a2 : Int32) (a3 : Int32) (a4 : Int32) (a5 : Int32) (a6 : Value) (a7 : Value) (st : List Value) (M : xM) (Q : Option Value → xM → Prop), xW xSC 116 37 [.ref a0, .int a1, .int a2, .int a3, .int a4, .int a5, a6, a7] (st) M Q = xW xSC 116 38 [.ref a0, .int a1, .int a2, .int a3, .int a4, .int a5, a6, a7] (.int a1 :: st) M Q) ∧
  (∀ (a0 : Nat) (a1 : Int32) (a2 : Int32) (a3 : Int32) (a4 : Int32) (a5 : Int32) (a6 : Value) (a7 : Value) (y0 : Int32) (y1 : Nat) (M : xM) (Q : Option Value → xM → Prop), xW xSC 116 38 [.ref a0, .int a1, .int a2, .int a3, .int a4, .int a5, a6, a7] (.int y0 :: .ref y1 :: .ref 31 :: []) M Q = xW xSC 85 0 [.ref 31, .ref y1, .int y0, .null] [] M (fun v M' => xW xSC 116 41 [.ref a0, .int a1, .int a2, .int a3, .int a4, .int a5, a6, a7] (xpush v []) M' Q)) ∧
  (∀ (a0 : Nat) (a1 : Int32) (a2 : Int32) (a3 : Int32) (a4 : Int32) (a5 : Int32) (a6 : Value) (a7 : Value) (st : List Value) (M : xM) (Q : Option Value → xM → Prop), xW xSC 116 41 [.ref a0, .int a1, .int a2, .int a3, .int a4, .int a5, a6, a7] (st) M Q = xW xSC 116 42 [.ref a0, .int a1, .int a2, .int a3, .int a4, .int a5, a6, a7] (.ref a0 :: st) M Q) ∧
  (∀ (a0 : Nat) (a1 : Int32) (a2 : Int32) (a3 : Int32) (a4 : Int32) (a5 : Int32) (a6 : Value) (a7 : Value) (st : List Value) (M : xM) (Q : Option Value → xM → Prop), xW xSC 116 42 [.ref a0, .int a1, .int a2, .int a3, .int a4, .int a5, a6, a7] (.ref 0 :: st) M Q = xW xSC 116 45 [.ref a0, .int a1, .int a2, .int a3, .int a4, .int a5, a6, a7] (.ref 31 :: st) M Q) ∧
  (∀ (a0 : Nat) (a1 : Int32) (a2 : Int32) (a3 : Int32) (a4 : Int32) (a5 : Int32) (a6 : Value) (a7 : Value) (st : List Value) (M : xM) (Q : Option Value → xM → Prop), xW xSC 116 45 [.ref a0, .int a1, .int a2, .int a3, .int a4, .int a5, a6, a7] (st) M Q = xW xSC 116 46 [.ref a0, .int a1, .int a2, .int a3, .int a4, .int a5, a6, a7] (.int (nI 0) :: st) M Q) ∧
  (∀ (a0 : Nat) (a1 : Int32) (a2 : Int32) (a3 : Int32) (a4 : Int32) (a5 : Int32) (a6 : Value) (a7 : Value) (y0 : Int32) (st : List Value) (M : xM) (Q : Option Value → xM → Prop), y0 = 0 ∨ y0 = 1 → xW xSC 116 46 [.ref a0, .int a1, .int a2, .int a3, .int a4, .int a5, a6, a7] (.int y0 :: .ref 31 :: st) M Q = xW xSC 116 49 [.ref a0, .int a1, .int a2, .int a3, .int a4, .int a5, a6, a7] (st) (xup M 31 1 y0) Q) ∧
  (∀ (a0 : Nat) (a1 : Int32) (a2 : Int32) (a3 : Int32) (a4 : Int32) (a5 : Int32) (a6 : Value) (a7 : Value) (st : List Value) (M : xM) (Q : Option Value → xM → Prop), xW xSC 116 49 [.ref a0, .int a1, .int a2, .int a3, .int a4, .int a5, a6, a7] (st) M Q = xW xSC 116 50 [.ref a0, .int a1, .int a2, .int a3, .int a4, .int a5, a6, a7] (.ref a0 :: st) M Q) ∧
  (∀ (a0 : Nat) (a1 : Int32) (a2 : Int32) (a3 : Int32) (a4 : Int32) (a5 : Int32) (a6 : Value) (a7 : Value) (st : List Value) (M : xM) (Q : Option Value → xM → Prop), xW xSC 116 50 [.ref a0, .int a1, .int a2, .int a3, .int a4, .int a5, a6, a7] (.ref 0 :: st) M Q = xW xSC 116 53 [.ref a0, .int a1, .int a2, .int a3, .int a4, .int a5, a6, a7] (.ref 33 :: st) M Q) ∧
  (∀ (a0 : Nat) (a1 : Int32) (a2 : Int32) (a3 : Int32) (a4 : Int32) (a5 : Int32) (a6 : Value) (a7 : Value) (st : List Value) (M : xM) (Q : Option Value → xM → Prop), xW xSC 116 53 [.ref a0, .int a1, .int a2, .int a3, .int a4, .int a5, a6, a7] (st) M Q = xW xSC 116 54 [.ref a0, .int a1, .int a2, .int a3, .int a4, .int a5, a6, a7] (.ref a0 :: st) M Q) ∧
  (∀ (a0 : Nat) (a1 : Int32) (a2 : Int32) (a3 : Int32) (a4 : Int32) (a5 : Int32) (a6 : Value) (a7 : Value) (st : List Value) (M : xM) (Q : Option Value → xM → Prop), xW xSC 116 54 [.ref a0, .int a1, .int a2, .int a3, .int a4, .int a5, a6, a7] (.ref 0 :: st) M Q = xW xSC 116 57 [.ref a0, .int a1, .int a2, .int a3, .int a4, .int a5, a6, a7] (.ref 9 :: st) M Q) ∧
  (∀ (a0 : Nat) (a1 : Int32) (a2 : Int32) (a3 : Int32) (a4 : Int32) (a5 : Int32) (a6 : Value) (a7 : Value) (st : List Value) (M : xM) (Q : Option Value → xM → Prop), xW xSC 116 57 [.ref a0, .int a1, .int a2, .int a3, .int a4, .int a5, a6, a7] (st) M Q = xW xSC 116 58 [.ref a0, .int a1, .int a2, .int a3, .int a4, .int a5, a6, a7] (.ref a0 :: st) M Q) ∧
  (∀ (a0 : Nat) (a1 : Int32) (a2 : Int32) (a3 : Int32) (a4 : Int32) (a5 : Int32) (a6 : Value) (a7 : Value) (st : List Value) (M : xM) (Q : Option Value → xM → Prop), xW xSC 116 58 [.ref a0, .int a1, .int a2, .int a3, .int a4, .int a5, a6, a7] (.ref 0 :: st) M Q = xW xSC 116 61 [.ref a0, .int a1, .int a2, .int a3, .int a4, .int a5, a6, a7] (.ref 31 :: st) M Q) ∧
  (∀ (a0 : Nat) (a1 : Int32) (a2 : Int32) (a3 : Int32) (a4 : Int32) (a5 : Int32) (a6 : Value) (a7 : Value) (st : List Value) (M : xM) (Q : Option Value → xM → Prop), xW xSC 116 61 [.ref a0, .int a1, .int a2, .int a3, .int a4, .int a5, a6, a7] (st) M Q = xW xSC 116 62 [.ref a0, .int a1, .int a2, .int a3, .int a4, .int a5, a6, a7] (.int a2 :: st) M Q) ∧
  (∀ (a0 : Nat) (a1 : Int32) (a2 : Int32) (a3 : Int32) (a4 : Int32) (a5 : Int32) (a6 : Value) (a7 : Value) (st : List Value) (M : xM) (Q : Option Value → xM → Prop), xW xSC 116 62 [.ref a0, .int a1, .int a2, .int a3, .int a4, .int a5, a6, a7] (st) M Q = xW xSC 116 63 [.ref a0, .int a1, .int a2, .int a3, .int a4, .int a5, a6, a7] (.int a3 :: st) M Q) ∧
  (∀ (a0 : Nat) (a1 : Int32) (a2 : Int32) (a3 : Int32) (a4 : Int32) (a5 : Int32) (a6 : Value) (a7 : Value) (y0 : Int32) (y1 : Int32) (y2 : Nat) (y3 : Nat) (M : xM) (Q : Option Value → xM → Prop), xW xSC 116 63 [.ref a0, .int a1, .int a2, .int a3, .int a4, .int a5, a6, a7] (.int y0 :: .int y1 :: .ref y2 :: .ref y3 :: .ref 33 :: []) M Q = xW xSC 50 0 [.ref 33, .ref y3, .ref y2, .int y1, .int y0, .null, .null] [] M (fun v M' => xW xSC 116 66 [.ref a0, .int a1, .int a2, .int a3, .int a4, .int a5, a6, a7] (xpush v []) M' Q)) ∧
  (∀ (a0 : Nat) (a1 : Int32) (a2 : Int32) (a3 : Int32) (a4 : Int32) (a5 : Int32) (a6 : Value) (a7 : Value) (st : List Value) (M : xM) (Q : Option Value → xM → Prop), xW xSC 116 66 [.ref a0, .int a1, .int a2, .int a3, .int a4, .int a5, a6, a7] (st) M Q = xW xSC 116 67 [.ref a0, .int a1, .int a2, .int a3, .int a4, .int a5, a6, a7] (.ref a0 :: st) M Q) ∧
  (∀ (a0 : Nat) (a1 : Int32) (a2 : Int32) (a3 : Int32) (a4 : Int32) (a5 : Int32) (a6 : Value) (a7 : Value) (st : List Value) (M : xM) (Q : Option Value → xM → Prop), xW xSC 116 67 [.ref a0, .int a1, .int a2, .int a3, .int a4, .int a5, a6, a7] (.ref 0 :: st) M Q = xW xSC 116 70 [.ref a0, .int a1, .int a2, .int a3, .int a4, .int a5, a6, a7] (.ref 33 :: st) M Q) ∧
  (∀ (a0 : Nat) (a1 : Int32) (a2 : Int32) (a3 : Int32) (a4 : Int32) (a5 : Int32) (a6 : Value) (a7 : Value) (st : List Value) (M : xM) (Q : Option Value → xM → Prop), xW xSC 116 70 [.ref a0, .int a1, .int a2, .int a3, .int a4, .int a5, a6, a7] (st) M Q = xW xSC 116 73 [.ref a0, .int a1, .int a2, .int a3, .int a4, .int a5, a6, a7] (.int (nI 1000) :: st) M Q) ∧
  (∀ (a0 : Nat) (a1 : Int32) (a2 : Int32) (a3 : Int32) (a4 : Int32) (a5 : Int32) (a6 : Value) (a7 : Value) (y0 : Int32) (M : xM) (Q : Option Value → xM → Prop), xW xSC 116 73 [.ref a0, .int a1, .int a2, .int a3, .int a4, .int a5, a6, a7] (.int y0 :: .ref 33 :: []) M Q = xW xSC 55 0 [.ref 33, .int y0] [] M (fun v M' => xW xSC 116 76 [.ref a0, .int a1, .int a2, .int a3, .int a4, .int a5, a6, a7] (xpush v []) M' Q)) ∧
  (∀ (a0 : Nat) (a1 : Int32) (a2 : Int32) (a3 : Int32) (a4 : Int32) (a5 : Int32) (a6 : Value) (a7 : Value) (y0 : Int32) (st : List Value) (M : xM) (Q : Option Value → xM → Prop), xW xSC 116 76 [.ref a0, .int a1, .int a2, .int a3, .int a4, .int a5, a6, a7] (.int y0 :: st) M Q = xW xSC 116 78 [.ref a0, .int a1, .int a2, .int a3, .int a4, .int a5, .int y0, a7] (st) M Q) ∧
  (∀ (a0 : Nat) (a1 : Int32) (a2 : Int32) (a3 : Int32) (a4 : Int32) (a5 : Int32) (a6 : Int32) (a7 : Value) (st : List Value) (M : xM) (Q : Option Value → xM → Prop), xW xSC 116 78 [.ref a0, .int a1, .int a2, .int a3, .int a4, .int a5, .int a6, a7] (st) M Q = xW xSC 116 79 [.ref a0, .int a1, .int a2, .int a3, .int a4, .int a5, .int a6, a7] (.ref a0 :: st) M Q) ∧
  (∀ (a0 : Nat) (a1 : Int32) (a2 : Int32) (a3 : Int32) (a4 : Int32) (a5 : Int32) (a6 : Int32) (a7 : Value) (st : List Value) (M : xM) (Q : Option Value → xM → Prop), xW xSC 116 79 [.ref a0, .int a1, .int a2, .int a3, .int a4, .int a5, .int a6, a7] (.ref 0 :: st) M Q = xW xSC 116 82 [.ref a0, .int a1, .int a2, .int a3, .int a4, .int a5, .int a6, a7] (.ref 31 :: st) M Q) ∧
  (∀ (a0 : Nat) (a1 : Int32) (a2 : Int32) (a3 : Int32) (a4 : Int32) (a5 : Int32) (a6 : Int32) (a7 : Value) (st : List Value) (M : xM) (Q : Option Value → xM → Prop), xW xSC 116 82 [.ref a0, .int a1, .int a2, .int a3, .int a4, .int a5, .int a6, a7] (.ref 31 :: st) M Q = xW xSC 116 85 [.ref a0, .int a1, .int a2, .int a3, .int a4, .int a5, .int a6, a7] (.ref 32 :: st) M Q) ∧
  (∀ (a0 : Nat) (a1 : Int32) (a2 : Int32) (a3 : Int32) (a4 : Int32) (a5 : Int32) (a6 : Int32) (a7 : Value) (st : List Value) (M : xM) (Q : Option Value → xM → Prop), xW xSC 116 85 [.ref a0, .int a1, .int a2, .int a3, .int a4, .int a5, .int a6, a7] (st) M Q = xW xSC 116 86 [.ref a0, .int a1, .int a2, .int a3, .int a4, .int a5, .int a6, a7] (.int (nI 2) :: st) M Q) ∧
  (∀ (a0 : Nat) (a1 : Int32) (a2 : Int32) (a3 : Int32) (a4 : Int32) (a5 : Int32) (a6 : Int32) (a7 : Value) (st : List Value) (M : xM) (Q : Option Value → xM → Prop), xW xSC 116 86 [.ref a0, .int a1, .int a2, .int a3, .int a4, .int a5, .int a6, a7] (st) M Q = xW xSC 116 88 [.ref a0, .int a1, .int a2, .int a3, .int a4, .int a5, .int a6, a7] (.int a4 :: st) M Q) ∧
  (∀ (a0 : Nat) (a1 : Int32) (a2 : Int32) (a3 : Int32) (a4 : Int32) (a5 : Int32) (a6 : Int32) (a7 : Value) (y0 : Int32) (y1 : Int32) (st : List Value) (M : xM) (Q : Option Value → xM → Prop), xW xSC 116 88 [.ref a0, .int a1, .int a2, .int a3, .int a4, .int a5, .int a6, a7] (.int y0 :: .int y1 :: st) M Q = xW xSC 116 89 [.ref a0, .int a1, .int a2, .int a3, .int a4, .int a5, .int a6, a7] (.int (y1 * y0) :: st) M Q) ∧
  (∀ (a0 : Nat) (a1 : Int32) (a2 : Int32) (a3 : Int32) (a4 : Int32) (a5 : Int32) (a6 : Int32) (a7 : Value) (st : List Value) (M : xM) (Q : Option Value → xM → Prop), xW xSC 116 89 [.ref a0, .int a1, .int a2, .int a3, .int a4, .int a5, .int a6, a7] (st) M Q = xW xSC 116 91 [.ref a0, .int a1, .int a2, .int a3, .int a4, .int a5, .int a6, a7] (.int a5 :: st) M Q) ∧
  (∀ (a0 : Nat) (a1 : Int32) (a2 : Int32) (a3 : Int32) (a4 : Int32) (a5 : Int32) (a6 : Int32) (a7 : Value) (y0 : Int32) (y1 : Int32) (st : List Value) (M : xM) (Q : Option Value → xM → Prop), xW xSC 116 91 [.ref a0, .int a1, .int a2, .int a3, .int a4, .int a5, .int a6, a7] (.int y0 :: .int y1 :: st) M Q = xW xSC 116 92 [.ref a0, .int a1, .int a2, .int a3, .int a4, .int a5, .int a6, a7] (.int (y1 + y0) :: st) M Q) ∧
  (∀ (a0 : Nat) (a1 : Int32) (a2 : Int32) (a3 : Int32) (a4 : Int32) (a5 : Int32) (a6 : Int32) (a7 : Value) (y0 : Int32) (y1 : Nat) (M : xM) (Q : Option Value → xM → Prop), xW xSC 116 92 [.ref a0, .int a1, .int a2, .int a3, .int a4, .int a5, .int a6, a7] (.int y0 :: .ref y1 :: []) M Q = xW xSC 0 0 [.ref y1, .int y0] [] M (fun v M' => xW xSC 116 95 [.ref a0, .int a1, .int a2, .int a3, .int a4, .int a5, .int a6, a7] (xpush v []) M' Q)) ∧
  (∀ (a0 : Nat) (a1 : Int32) (a2 : Int32) (a3 : Int32) (a4 : Int32) (a5 : Int32) (a6 : Int32) (a7 : Value) (st : List Value) (M : xM) (Q : Option Value → xM → Prop), xW xSC 116 95 [.ref a0, .int a1, .int a2, .int a3, .int a4, .int a5, .int a6, a7] (st) M Q = xW xSC 116 97 [.ref a0, .int a1, .int a2, .int a3, .int a4, .int a5, .int a6, a7] (.int (nI 10) :: st) M Q) ∧
  (∀ (a0 : Nat) (a1 : Int32) (a2 : Int32) (a3 : Int32) (a4 : Int32) (a5 : Int32) (a6 : Int32) (a7 : Value) (y0 : Int32) (y1 : Int32) (st : List Value) (M : xM) (Q : Option Value → xM → Prop), xW xSC 116 97 [.ref a0, .int a1, .int a2, .int a3, .int a4, .int a5, .int a6, a7] (.int y0 :: .int y1 :: st) M Q = xW xSC 116 98 [.ref a0, .int a1, .int a2, .int a3, .int a4, .int a5, .int a6, a7] (.int (y1 + y0) :: st) M Q) ∧
  (∀ (a0 : Nat) (a1 : Int32) (a2 : Int32) (a3 : Int32) (a4 : Int32) (a5 : Int32) (a6 : Int32) (a7 : Value) (y0 : Int32) (st : List Value) (M : xM) (Q : Option Value → xM → Prop), xW xSC 116 98 [.ref a0, .int a1, .int a2, .int a3, .int a4, .int a5, .int a6, a7] (.int y0 :: st) M Q = xW xSC 116 100 [.ref a0, .int a1, .int a2, .int a3, .int a4, .int a5, .int a6, .int y0] (st) M Q) ∧
  (∀ (a0 : Nat) (a1 : Int32) (a2 : Int32) (a3 : Int32) (a4 : Int32) (a5 : Int32) (a6 : Int32) (a7 : Int32) (st : List Value) (M : xM) (Q : Option Value → xM → Prop), xW xSC 116 100 [.ref a0, .int a1, .int a2, .int a3, .int a4, .int a5, .int a6, .int a7] (st) M Q = xW xSC 116 101 [.ref a0, .int a1, .int a2, .int a3, .int a4, .int a5, .int a6, .int a7] (.ref a0 :: st) M Q) ∧
  (∀ (a0 : Nat) (a1 : Int32) (a2 : Int32) (a3 : Int32) (a4 : Int32) (a5 : Int32) (a6 : Int32) (a7 : Int32) (st : List Value) (M : xM) (Q : Option Value → xM → Prop), xW xSC 116 101 [.ref a0, .int a1, .int a2, .int a3, .int a4, .int a5, .int a6, .int a7] (.ref 0 :: st) M Q = xW xSC 116 104 [.ref a0, .int a1, .int a2, .int a3, .int a4, .int a5, .int a6, .int a7] (.ref 31 :: st) M Q) ∧
  (∀ (a0 : Nat) (a1 : Int32) (a2 : Int32) (a3 : Int32) (a4 : Int32) (a5 : Int32) (a6 : Int32) (a7 : Int32) (st : List Value) (M : xM) (Q : Option Value → xM → Prop), xW xSC 116 104 [.ref a0, .int a1, .int a2, .int a3, .int a4, .int a5, .int a6, .int a7] (.ref 31 :: st) M Q = xW xSC 116 107 [.ref a0, .int a1, .int a2, .int a3, .int a4, .int a5, .int a6, .int a7] (.ref 32 :: st) M Q) ∧
  (∀ (a0 : Nat) (a1 : Int32) (a2 : Int32) (a3 : Int32) (a4 : Int32) (a5 : Int32) (a6 : Int32) (a7 : Int32) (st : List Value) (M : xM) (Q : Option Value → xM → Prop), xW xSC 116 107 [.ref a0, .int a1, .int a2, .int a3, .int a4, .int a5, .int a6, .int a7] (st) M Q = xW xSC 116 108 [.ref a0, .int a1, .int a2, .int a3, .int a4, .int a5, .int a6, .int a7] (.int (nI 2) :: st) M Q) ∧
  (∀ (a0 : Nat) (a1 : Int32) (a2 : Int32) (a3 : Int32) (a4 : Int32) (a5 : Int32) (a6 : Int32) (a7 : Int32) (st : List Value) (M : xM) (Q : Option Value → xM → Prop), xW xSC 116 108 [.ref a0, .int a1, .int a2, .int a3, .int a4, .int a5, .int a6, .int a7] (st) M Q = xW xSC 116 110 [.ref a0, .int a1, .int a2, .int a3, .int a4, .int a5, .int a6, .int a7] (.int a4 :: st) M Q) ∧
  (∀ (a0 : Nat) (a1 : Int32) (a2 : Int32) (a3 : Int32) (a4 : Int32) (a5 : Int32) (a6 : Int32) (a7 : Int32) (y0 : Int32) (y1 : Int32) (st : List Value) (M : xM) (Q : Option Value → xM → Prop), xW xSC 116 110 [.ref a0, .int a1, .int a2, .int a3, .int a4, .int a5, .int a6, .int a7] (.int y0 :: .int y1 :: st) M Q = xW xSC 116 111 [.ref a0, .int a1, .int a2, .int a3, .int a4, .int a5, .int a6, .int a7] (.int (y1 * y0) :: st) M Q) ∧
  (∀ (a0 : Nat) (a1 : Int32) (a2 : Int32) (a3 : Int32) (a4 : Int32) (a5 : Int32) (a6 : Int32) (a7 : Int32) (st : List Value) (M : xM) (Q : Option Value → xM → Prop), xW xSC 116 111 [.ref a0, .int a1, .int a2, .int a3, .int a4, .int a5, .int a6, .int a7] (st) M Q = xW xSC 116 113 [.ref a0, .int a1, .int a2, .int a3, .int a4, .int a5, .int a6, .int a7] (.int a5 :: st) M Q) ∧
  (∀ (a0 : Nat) (a1 : Int32) (a2 : Int32) (a3 : Int32) (a4 : Int32) (a5 : Int32) (a6 : Int32) (a7 : Int32) (y0 : Int32) (y1 : Int32) (st : List Value) (M : xM) (Q : Option Value → xM → Prop), xW xSC 116 113 [.ref a0, .int a1, .int a2, .int a3, .int a4, .int a5, .int a6, .int a7] (.int y0 :: .int y1 :: st) M Q = xW xSC 116 114 [.ref a0, .int a1, .int a2, .int a3, .int a4, .int a5, .int a6, .int a7] (.int (y1 + y0) :: st) M Q) ∧
  (∀ (a0 : Nat) (a1 : Int32) (a2 : Int32) (a3 : Int32) (a4 : Int32) (a5 : Int32) (a6 : Int32) (a7 : Int32) (st : List Value) (M : xM) (Q : Option Value → xM → Prop), xW xSC 116 114 [.ref a0, .int a1, .int a2, .int a3, .int a4, .int a5, .int a6, .int a7] (st) M Q = xW xSC 116 116 [.ref a0, .int a1, .int a2, .int a3, .int a4, .int a5, .int a6, .int a7] (.int a7 :: st) M Q) ∧
  (∀ (a0 : Nat) (a1 : Int32) (a2 : Int32) (a3 : Int32) (a4 : Int32) (a5 : Int32) (a6 : Int32) (a7 : Int32) (st : List Value) (M : xM) (Q : Option Value → xM → Prop), xW xSC 116 116 [.ref a0, .int a1, .int a2, .int a3, .int a4, .int a5, .int a6, .int a7] (st) M Q = xW xSC 116 118 [.ref a0, .int a1, .int a2, .int a3, .int a4, .int a5, .int a6, .int a7] (.int (nI 99) :: st) M Q) ∧
  (∀ (a0 : Nat) (a1 : Int32) (a2 : Int32) (a3 : Int32) (a4 : Int32) (a5 : Int32) (a6 : Int32) (a7 : Int32) (y0 : Int32) (y1 : Int32) (y2 : Int32) (y3 : Nat) (M : xM) (Q : Option Value → xM → Prop), xW xSC 116 118 [.ref a0, .int a1, .int a2, .int a3, .int a4, .int a5, .int a6, .int a7] (.int y0 :: .int y1 :: .int y2 :: .ref y3 :: []) M Q = xW xSC 116 121 [.ref a0, .int a1, .int a2, .int a3, .int a4, .int a5, .int a6, .int a7] (.int (xmin y1 y0) :: .int y2 :: .ref y3 :: []) M Q) ∧
  (∀ (a0 : Nat) (a1 : Int32) (a2 : Int32) (a3 : Int32) (a4 : Int32) (a5 : Int32) (a6 : Int32) (a7 : Int32) (y0 : Int32) (y1 : Int32) (y2 : Nat) (M : xM) (Q : Option Value → xM → Prop), xW xSC 116 121 [.ref a0, .int a1, .int a2, .int a3, .int a4, .int a5, .int a6, .int a7] (.int y0 :: .int y1 :: .ref y2 :: []) M Q = xW xSC 1 0 [.ref y2, .int y1, .int y0] [] M (fun v M' => xW xSC 116 124 [.ref a0, .int a1, .int a2, .int a3, .int a4, .int a5, .int a6, .int a7] (xpush v []) M' Q)) ∧
  (∀ (a0 : Nat) (a1 : Int32) (a2 : Int32) (a3 : Int32) (a4 : Int32) (a5 : Int32) (a6 : Int32) (a7 : Int32) (st : List Value) (M : xM) (Q : Option Value → xM → Prop), xW xSC 116 124 [.ref a0, .int a1, .int a2, .int a3, .int a4, .int a5, .int a6, .int a7] (st) M Q = xW xSC 116 125 [.ref a0, .int a1, .int a2, .int a3, .int a4, .int a5, .int a6, .int a7] (.ref a0 :: st) M Q) ∧
  (∀ (a0 : Nat) (a1 : Int32) (a2 : Int32) (a3 : Int32) (a4 : Int32) (a5 : Int32) (a6 : Int32) (a7 : Int32) (st : List Value) (M : xM) (Q : Option Value → xM → Prop), xW xSC 116 125 [.ref a0, .int a1, .int a2, .int a3, .int a4, .int a5, .int a6, .int a7] (.ref 0 :: st) M Q = xW xSC 116 128 [.ref a0, .int a1, .int a2, .int a3, .int a4, .int a5, .int a6, .int a7] (.ref 33 :: st) M Q) ∧
  (∀ (a0 : Nat) (a1 : Int32) (a2 : Int32) (a3 : Int32) (a4 : Int32) (a5 : Int32) (a6 : Int32) (a7 : Int32) (st : List Value) (M : xM) (Q : Option Value → xM → Prop), xW xSC 116 128 [.ref a0, .int a1, .int a2, .int a3, .int a4, .int a5, .int a6, .int a7] (st) M Q = xW xSC 116 129 [.ref a0, .int a1, .int a2, .int a3, .int a4, .int a5, .int a6, .int a7] (.ref a0 :: st) M Q) ∧
  (∀ (a0 : Nat) (a1 : Int32) (a2 : Int32) (a3 : Int32) (a4 : Int32) (a5 : Int32) (a6 : Int32) (a7 : Int32) (st : List Value) (M : xM) (Q : Option Value → xM → Prop), xW xSC 116 129 [.ref a0, .int a1, .int a2, .int a3, .int a4, .int a5, .int a6, .int a7] (.ref 0 :: st) M Q = xW xSC 116 132 [.ref a0, .int a1, .int a2, .int a3, .int a4, .int a5, .int a6, .int a7] (.ref 9 :: st) M Q) ∧
  (∀ (a0 : Nat) (a1 : Int32) (a2 : Int32) (a3 : Int32) (a4 : Int32) (a5 : Int32) (a6 : Int32) (a7 : Int32) (st : List Value) (M : xM) (Q : Option Value → xM → Prop), xW xSC 116 132 [.ref a0, .int a1, .int a2, .int a3, .int a4, .int a5, .int a6, .int a7] (st) M Q = xW xSC 116 133 [.ref a0, .int a1, .int a2, .int a3, .int a4, .int a5, .int a6, .int a7] (.ref a0 :: st) M Q) ∧
  (∀ (a0 : Nat) (a1 : Int32) (a2 : Int32) (a3 : Int32) (a4 : Int32) (a5 : Int32) (a6 : Int32) (a7 : Int32) (st : List Value) (M : xM) (Q : Option Value → xM → Prop), xW xSC 116 133 [.ref a0, .int a1, .int a2, .int a3, .int a4, .int a5, .int a6, .int a7] (.ref 0 :: st) M Q = xW xSC 116 136 [.ref a0, .int a1, .int a2, .int a3, .int a4, .int a5, .int a6, .int a7] (.ref 31 :: st) M Q) ∧
  (∀ (a0 : Nat) (a1 : Int32) (a2 : Int32) (a3 : Int32) (a4 : Int32) (a5 : Int32) (a6 : Int32) (a7 : Int32) (st : List Value) (M : xM) (Q : Option Value → xM → Prop), xW xSC 116 136 [.ref a0, .int a1, .int a2, .int a3, .int a4, .int a5, .int a6, .int a7] (st) M Q = xW xSC 116 137 [.ref a0, .int a1, .int a2, .int a3, .int a4, .int a5, .int a6, .int a7] (.int a2 :: st) M Q) ∧
  (∀ (a0 : Nat) (a1 : Int32) (a2 : Int32) (a3 : Int32) (a4 : Int32) (a5 : Int32) (a6 : Int32) (a7 : Int32) (st : List Value) (M : xM) (Q : Option Value → xM → Prop), xW xSC 116 137 [.ref a0, .int a1, .int a2, .int a3, .int a4, .int a5, .int a6, .int a7] (st) M Q = xW xSC 116 138 [.ref a0, .int a1, .int a2, .int a3, .int a4, .int a5, .int a6, .int a7] (.int a3 :: st) M Q) ∧
  (∀ (a0 : Nat) (a1 : Int32) (a2 : Int32) (a3 : Int32) (a4 : Int32) (a5 : Int32) (a6 : Int32) (a7 : Int32) (y0 : Int32) (y1 : Int32) (y2 : Nat) (y3 : Nat) (M : xM) (Q : Option Value → xM → Prop), xW xSC 116 138 [.ref a0, .int a1, .int a2, .int a3, .int a4, .int a5, .int a6, .int a7] (.int y0 :: .int y1 :: .ref y2 :: .ref y3 :: .ref 33 :: []) M Q = xW xSC 50 0 [.ref 33, .ref y3, .ref y2, .int y1, .int y0, .null, .null] [] M (fun v M' => xW xSC 116 141 [.ref a0, .int a1, .int a2, .int a3, .int a4, .int a5, .int a6, .int a7] (xpush v []) M' Q)) ∧
  (∀ (a0 : Nat) (a1 : Int32) (a2 : Int32) (a3 : Int32) (a4 : Int32) (a5 : Int32) (a6 : Int32) (a7 : Int32) (st : List Value) (M : xM) (Q : Option Value → xM → Prop), xW xSC 116 141 [.ref a0, .int a1, .int a2, .int a3, .int a4, .int a5, .int a6, .int a7] (st) M Q = xW xSC 116 142 [.ref a0, .int a1, .int a2, .int a3, .int a4, .int a5, .int a6, .int a7] (.ref a0 :: st) M Q) ∧
  (∀ (a0 : Nat) (a1 : Int32) (a2 : Int32) (a3 : Int32) (a4 : Int32) (a5 : Int32) (a6 : Int32) (a7 : Int32) (st : List Value) (M : xM) (Q : Option Value → xM → Prop), xW xSC 116 142 [.ref a0, .int a1, .int a2, .int a3, .int a4, .int a5, .int a6, .int a7] (.ref 0 :: st) M Q = xW xSC 116 145 [.ref a0, .int a1, .int a2, .int a3, .int a4, .int a5, .int a6, .int a7] (.ref 33 :: st) M Q) ∧
  (∀ (a0 : Nat) (a1 : Int32) (a2 : Int32) (a3 : Int32) (a4 : Int32) (a5 : Int32) (a6 : Int32) (a7 : Int32) (st : List Value) (M : xM) (Q : Option Value → xM → Prop), xW xSC 116 145 [.ref a0, .int a1, .int a2, .int a3, .int a4, .int a5, .int a6, .int a7] (st) M Q = xW xSC 116 148 [.ref a0, .int a1, .int a2, .int a3, .int a4, .int a5, .int a6, .int a7] (.int (nI 1000) :: st) M Q) ∧
  (∀ (a0 : Nat) (a1 : Int32) (a2 : Int32) (a3 : Int32) (a4 : Int32) (a5 : Int32) (a6 : Int32) (a7 : Int32) (y0 : Int32) (M : xM) (Q : Option Value → xM → Prop), xW xSC 116 148 [.ref a0, .int a1, .int a2, .int a3, .int a4, .int a5, .int a6, .int a7] (.int y0 :: .ref 33 :: []) M Q = xW xSC 55 0 [.ref 33, .int y0] [] M (fun v M' => xW xSC 116 151 [.ref a0, .int a1, .int a2, .int a3, .int a4, .int a5, .int a6, .int a7] (xpush v []) M' Q)) ∧
  (∀ (a0 : Nat) (a1 : Int32) (a2 : Int32) (a3 : Int32) (a4 : Int32) (a5 : Int32) (a6 : Int32) (a7 : Int32) (st : List Value) (M : xM) (Q : Option Value → xM → Prop), xW xSC 116 151 [.ref a0, .int a1, .int a2, .int a3, .int a4, .int a5, .int a6, .int a7] (st) M Q = xW xSC 116 153 [.ref a0, .int a1, .int a2, .int a3, .int a4, .int a5, .int a6, .int a7] (.int a6 :: st) M Q) ∧
  (∀ (a0 : Nat) (a1 : Int32) (a2 : Int32) (a3 : Int32) (a4 : Int32) (a5 : Int32) (a6 : Int32) (a7 : Int32) (y0 : Int32) (y1 : Int32) (st : List Value) (M : xM) (Q : Option Value → xM → Prop), xW xSC 116 153 [.ref a0, .int a1, .int a2, .int a3, .int a4, .int a5, .int a6, .int a7] (.int y0 :: .int y1 :: st) M Q = xW xSC 116 154 [.ref a0, .int a1, .int a2, .int a3, .int a4, .int a5, .int a6, .int a7] (.int (y1 - y0) :: st) M Q) ∧
  (∀ (a0 : Nat) (a1 : Int32) (a2 : Int32) (a3 : Int32) (a4 : Int32) (a5 : Int32) (a6 : Int32) (a7 : Int32) (st : List Value) (M : xM) (Q : Option Value → xM → Prop), xW xSC 116 154 [.ref a0, .int a1, .int a2, .int a3, .int a4, .int a5, .int a6, .int a7] (st) M Q = xW xSC 116 155 [.ref a0, .int a1, .int a2, .int a3, .int a4, .int a5, .int a6, .int a7] (.int (nI 0) :: st) M Q) ∧
  (∀ (a0 : Nat) (a1 : Int32) (a2 : Int32) (a3 : Int32) (a4 : Int32) (a5 : Int32) (a6 : Int32) (a7 : Int32) (y0 : Int32) (y1 : Int32) (M : xM) (Q : Option Value → xM → Prop), xW xSC 116 155 [.ref a0, .int a1, .int a2, .int a3, .int a4, .int a5, .int a6, .int a7] (.int y0 :: .int y1 :: []) M Q = xW xSC 116 158 [.ref a0, .int a1, .int a2, .int a3, .int a4, .int a5, .int a6, .int a7] (.int (xmax y1 y0) :: []) M Q) ∧
  (∀ (a0 : Nat) (a1 : Int32) (a2 : Int32) (a3 : Int32) (a4 : Int32) (a5 : Int32) (a6 : Int32) (a7 : Int32) (y0 : Int32) (M : xM) (Q : Option Value → xM → Prop), xW xSC 116 158 [.ref a0, .int a1, .int a2, .int a3, .int a4, .int a5, .int a6, .int a7] ([.int y0]) M Q = Q (some (.int y0)) M) :=
  ⟨fun a0 a1 a2 a3 a4 a5 a6 a7 st M Q => xw_s rfl rfl,
  fun a0 a1 a2 a3 a4 a5 a6 a7 st M Q => xw_s rfl rfl,
  fun a0 a1 a2 a3 a4 a5 a6 a7 st M Q => xw_s rfl rfl,
  fun a0 a1 a2 a3 a4 a5 a6 a7 st M Q => xw_s rfl rfl,
  fun a0 a1 a2 a3 a4 a5 a6 a7 y0 y1 y2 M Q => xw_call rfl rfl rfl,
  fun a0 a1 a2 a3 a4 a5 a6 a7 y0 st M Q => xw_br (c0 := y0 = nI 0) rfl rfl,
  fun a0 a1 a2 a3 a4 a5 a6 a7 st M Q => xw_s rfl rfl,
  fun a0 a1 a2 a3 a4 a5 a6 a7 st M Q => xw_s rfl rfl,
  fun a0 a1 a2 a3 a4 a5 a6 a7 st M Q => xw_s rfl rfl,
  fun a0 a1 a2 a3 a4 a5 a6 a7 y0 y1 M Q => xw_call rfl rfl rfl,
  fun a0 a1 a2 a3 a4 a5 a6 a7 y0 st M Q => xw_br (c0 := y0 = nI 0) rfl rfl,
  fun a0 a1 a2 a3 a4 a5 a6 a7 st M Q => xw_s rfl rfl,
  fun a0 a1 a2 a3 a4 a5 a6 a7 st M Q => xw_s rfl rfl,
  fun a0 a1 a2 a3 a4 a5 a6 a7 y0 y1 st M Q => xw_brn (c0 := y1 ≠ y0) (c1 := y1 = y0) rfl rfl (Iff.rfl),
  fun a0 a1 a2 a3 a4 a5 a6 a7 y0 M Q => xw_ret rfl rfl,
  fun a0 a1 a2 a3 a4 a5 a6 a7 st M Q => xw_s rfl rfl,
  fun a0 a1 a2 a3 a4 a5 a6 a7 st M Q => xw_s rfl rfl,
  fun a0 a1 a2 a3 a4 a5 a6 a7 st M Q => xw_s rfl rfl,
  fun a0 a1 a2 a3 a4 a5 a6 a7 st M Q => xw_s rfl rfl,
  fun a0 a1 a2 a3 a4 a5 a6 a7 st M Q => xw_s rfl rfl,
  fun a0 a1 a2 a3 a4 a5 a6 a7 y0 y1 M Q => xw_call rfl rfl rfl,
  fun a0 a1 a2 a3 a4 a5 a6 a7 st M Q => xw_s rfl rfl,
  fun a0 a1 a2 a3 a4 a5 a6 a7 st M Q => xw_s rfl rfl,
  fun a0 a1 a2 a3 a4 a5 a6 a7 st M Q => xw_s rfl rfl,
  fun a0 a1 a2 a3 a4 a5 a6 a7 y0 st M Q h0 => xw_putz rfl rfl rfl rfl rfl h0,
  fun a0 a1 a2 a3 a4 a5 a6 a7 st M Q => xw_s rfl rfl,
  fun a0 a1 a2 a3 a4 a5 a6 a7 st M Q => xw_s rfl rfl,
  fun a0 a1 a2 a3 a4 a5 a6 a7 st M Q => xw_s rfl rfl,
  fun a0 a1 a2 a3 a4 a5 a6 a7 st M Q => xw_s rfl rfl,
  fun a0 a1 a2 a3 a4 a5 a6 a7 st M Q => xw_s rfl rfl,
  fun a0 a1 a2 a3 a4 a5 a6 a7 st M Q => xw_s rfl rfl,
  fun a0 a1 a2 a3 a4 a5 a6 a7 st M Q => xw_s rfl rfl,
  fun a0 a1 a2 a3 a4 a5 a6 a7 st M Q => xw_s rfl rfl,
  fun a0 a1 a2 a3 a4 a5 a6 a7 y0 y1 y2 y3 M Q => xw_call rfl rfl rfl,
  fun a0 a1 a2 a3 a4 a5 a6 a7 st M Q => xw_s rfl rfl,
  fun a0 a1 a2 a3 a4 a5 a6 a7 st M Q => xw_s rfl rfl,
  fun a0 a1 a2 a3 a4 a5 a6 a7 st M Q => xw_s rfl rfl,
  fun a0 a1 a2 a3 a4 a5 a6 a7 y0 M Q => xw_call rfl rfl rfl,
  fun a0 a1 a2 a3 a4 a5 a6 a7 y0 st M Q => xw_s rfl rfl,
  fun a0 a1 a2 a3 a4 a5 a6 a7 st M Q => xw_s rfl rfl,
  fun a0 a1 a2 a3 a4 a5 a6 a7 st M Q => xw_s rfl rfl,
  fun a0 a1 a2 a3 a4 a5 a6 a7 st M Q => xw_s rfl rfl,
  fun a0 a1 a2 a3 a4 a5 a6 a7 st M Q => xw_s rfl rfl,
  fun a0 a1 a2 a3 a4 a5 a6 a7 st M Q => xw_s rfl rfl,
  fun a0 a1 a2 a3 a4 a5 a6 a7 y0 y1 st M Q => xw_s rfl rfl,
  fun a0 a1 a2 a3 a4 a5 a6 a7 st M Q => xw_s rfl rfl,
  fun a0 a1 a2 a3 a4 a5 a6 a7 y0 y1 st M Q => xw_s rfl rfl,
  fun a0 a1 a2 a3 a4 a5 a6 a7 y0 y1 M Q => xw_call rfl rfl rfl,
  fun a0 a1 a2 a3 a4 a5 a6 a7 st M Q => xw_s rfl rfl,
  fun a0 a1 a2 a3 a4 a5 a6 a7 y0 y1 st M Q => xw_s rfl rfl,
  fun a0 a1 a2 a3 a4 a5 a6 a7 y0 st M Q => xw_s rfl rfl,
  fun a0 a1 a2 a3 a4 a5 a6 a7 st M Q => xw_s rfl rfl,
  fun a0 a1 a2 a3 a4 a5 a6 a7 st M Q => xw_s rfl rfl,
  fun a0 a1 a2 a3 a4 a5 a6 a7 st M Q => xw_s rfl rfl,
  fun a0 a1 a2 a3 a4 a5 a6 a7 st M Q => xw_s rfl rfl,
  fun a0 a1 a2 a3 a4 a5 a6 a7 st M Q => xw_s rfl rfl,
  fun a0 a1 a2 a3 a4 a5 a6 a7 y0 y1 st M Q => xw_s rfl rfl,
  fun a0 a1 a2 a3 a4 a5 a6 a7 st M Q => xw_s rfl rfl,
  fun a0 a1 a2 a3 a4 a5 a6 a7 y0 y1 st M Q => xw_s rfl rfl,
  fun a0 a1 a2 a3 a4 a5 a6 a7 st M Q => xw_s rfl rfl,
  fun a0 a1 a2 a3 a4 a5 a6 a7 st M Q => xw_s rfl rfl,
  fun a0 a1 a2 a3 a4 a5 a6 a7 y0 y1 y2 y3 M Q => xw_s rfl rfl,
  fun a0 a1 a2 a3 a4 a5 a6 a7 y0 y1 y2 M Q => xw_call rfl rfl rfl,
  fun a0 a1 a2 a3 a4 a5 a6 a7 st M Q => xw_s rfl rfl,
  fun a0 a1 a2 a3 a4 a5 a6 a7 st M Q => xw_s rfl rfl,
  fun a0 a1 a2 a3 a4 a5 a6 a7 st M Q => xw_s rfl rfl,
  fun a0 a1 a2 a3 a4 a5 a6 a7 st M Q => xw_s rfl rfl,
  fun a0 a1 a2 a3 a4 a5 a6 a7 st M Q => xw_s rfl rfl,
  fun a0 a1 a2 a3 a4 a5 a6 a7 st M Q => xw_s rfl rfl,
  fun a0 a1 a2 a3 a4 a5 a6 a7 st M Q => xw_s rfl rfl,
  fun a0 a1 a2 a3 a4 a5 a6 a7 st M Q => xw_s rfl rfl,
  fun a0 a1 a2 a3 a4 a5 a6 a7 y0 y1 y2 y3 M Q => xw_call rfl rfl rfl,
  fun a0 a1 a2 a3 a4 a5 a6 a7 st M Q => xw_s rfl rfl,
  fun a0 a1 a2 a3 a4 a5 a6 a7 st M Q => xw_s rfl rfl,
  fun a0 a1 a2 a3 a4 a5 a6 a7 st M Q => xw_s rfl rfl,
  fun a0 a1 a2 a3 a4 a5 a6 a7 y0 M Q => xw_call rfl rfl rfl,
  fun a0 a1 a2 a3 a4 a5 a6 a7 st M Q => xw_s rfl rfl,
  fun a0 a1 a2 a3 a4 a5 a6 a7 y0 y1 st M Q => xw_s rfl rfl,
  fun a0 a1 a2 a3 a4 a5 a6 a7 st M Q => xw_s rfl rfl,
  fun a0 a1 a2 a3 a4 a5 a6 a7 y0 y1 M Q => xw_s rfl rfl,
  fun a0 a1 a2 a3 a4 a5 a6 a7 y0 M Q => xw_ret rfl rfl⟩
set_option maxRecDepth 20000 in
theorem h116_27 :
  (∀ (a0 : Nat) (a1 : Int32) (a2 : Int32) (a3 : Int32) (a4 : Int32) (a5 : Int32) (a6 : Value) (a7 : Value) (st : List Value) (M : xM) (Q : Option Value → xM → Prop), xW xSC 116 27 [.ref a0, .int a1, .int a2, .int a3, .int a4, .int a5, a6, a7] (st) M Q = xW xSC 116 28 [.ref a0, .int a1, .int a2, .int a3, .int a4, .int a5, a6, a7] (.int (-1) :: st) M Q) :=
  fun a0 a1 a2 a3 a4 a5 a6 a7 st M Q => xw_s rfl rfl
set_option maxRecDepth 20000 in
theorem j116 :
  (∀ (a0 : Nat) (a1 : Int32) (a2 : Int32) (a3 : Int32) (a4 : Int32) (a5 : Int32) (a6 : Value) (a7 : Value) (st : List Value) (M : xM) (Q : Option Value → xM → Prop), xW xSC 116 27 [.ref a0, .int a1, .int a2, .int a3, .int a4, .int a5, a6, a7] (st) M Q = xW xSC 116 28 [.ref a0, .int a1, .int a2, .int a3, .int a4, .int a5, a6, a7] (.int (-1) :: st) M Q) :=
  fun a0 a1 a2 a3 a4 a5 a6 a7 st M Q => xw_s rfl rfl

set_option maxRecDepth 20000 in
theorem s117 :
  (∀ (a0 : Nat) (a1 : Int32) (a2 : Int32) (a3 : Value) (a4 : Value) (st : List Value) (M : xM) (Q : Option Value → xM → Prop), xW xSC 117 0 [.ref a0, .int a1, .int a2, a3, a4] (st) M Q = xW xSC 117 1 [.ref a0, .int a1, .int a2, a3, a4] (.ref a0 :: st) M Q) ∧
  (∀ (a0 : Nat) (a1 : Int32) (a2 : Int32) (a3 : Value) (a4 : Value) (st : List Value) (M : xM) (Q : Option Value → xM → Prop), xW xSC 117 1 [.ref a0, .int a1, .int a2, a3, a4] (.ref 0 :: st) M Q = xW xSC 117 4 [.ref a0, .int a1, .int a2, a3, a4] (.ref 9 :: st) M Q) ∧
  (∀ (a0 : Nat) (a1 : Int32) (a2 : Int32) (a3 : Value) (a4 : Value) (st : List Value) (M : xM) (Q : Option Value → xM → Prop), xW xSC 117 4 [.ref a0, .int a1, .int a2, a3, a4] (st) M Q = xW xSC 117 5 [.ref a0, .int a1, .int a2, a3, a4] (.int a1 :: st) M Q) ∧
  (∀ (a0 : Nat) (a1 : Int32) (a2 : Int32) (a3 : Value) (a4 : Value) (y0 : Int32) (M : xM) (Q : Option Value → xM → Prop), xW xSC 117 5 [.ref a0, .int a1, .int a2, a3, a4] (.int y0 :: .ref 9 :: []) M Q = xW xSC 23 0 [.ref 9, .int y0] [] M (fun v M' => xW xSC 117 8 [.ref a0, .int a1, .int a2, a3, a4] (xpush v []) M' Q)) ∧
  (∀ (a0 : Nat) (a1 : Int32) (a2 : Int32) (a3 : Value) (a4 : Value) (y0 : Int32) (st : List Value) (M : xM) (Q : Option Value → xM → Prop), xW xSC 117 8 [.ref a0, .int a1, .int a2, a3, a4] (.int y0 :: st) M Q = if y0 = nI 0 then xW xSC 117 22 [.ref a0, .int a1, .int a2, a3, a4] (st) M Q else xW xSC 117 11 [.ref a0, .int a1, .int a2, a3, a4] (st) M Q) ∧
  (∀ (a0 : Nat) (a1 : Int32) (a2 : Int32) (a3 : Value) (a4 : Value) (st : List Value) (M : xM) (Q : Option Value → xM → Prop), xW xSC 117 11 [.ref a0, .int a1, .int a2, a3, a4] (st) M Q = xW xSC 117 12 [.ref a0, .int a1, .int a2, a3, a4] (.ref a0 :: st) M Q) ∧
  (∀ (a0 : Nat) (a1 : Int32) (a2 : Int32) (a3 : Value) (a4 : Value) (st : List Value) (M : xM) (Q : Option Value → xM → Prop), xW xSC 117 12 [.ref a0, .int a1, .int a2, a3, a4] (.ref 0 :: st) M Q = xW xSC 117 15 [.ref a0, .int a1, .int a2, a3, a4] (.ref 9 :: st) M Q) ∧
  (∀ (a0 : Nat) (a1 : Int32) (a2 : Int32) (a3 : Value) (a4 : Value) (st : List Value) (M : xM) (Q : Option Value → xM → Prop), xW xSC 117 15 [.ref a0, .int a1, .int a2, a3, a4] (st) M Q = xW xSC 117 16 [.ref a0, .int a1, .int a2, a3, a4] (.int a2 :: st) M Q) ∧
  (∀ (a0 : Nat) (a1 : Int32) (a2 : Int32) (a3 : Value) (a4 : Value) (y0 : Int32) (M : xM) (Q : Option Value → xM → Prop), xW xSC 117 16 [.ref a0, .int a1, .int a2, a3, a4] (.int y0 :: .ref 9 :: []) M Q = xW xSC 23 0 [.ref 9, .int y0] [] M (fun v M' => xW xSC 117 19 [.ref a0, .int a1, .int a2, a3, a4] (xpush v []) M' Q)) ∧
  (∀ (a0 : Nat) (a1 : Int32) (a2 : Int32) (a3 : Value) (a4 : Value) (y0 : Int32) (st : List Value) (M : xM) (Q : Option Value → xM → Prop), xW xSC 117 19 [.ref a0, .int a1, .int a2, a3, a4] (.int y0 :: st) M Q = if y0 = nI 0 then xW xSC 117 22 [.ref a0, .int a1, .int a2, a3, a4] (st) M Q else xW xSC 117 24 [.ref a0, .int a1, .int a2, a3, a4] (st) M Q) ∧
  (∀ (a0 : Nat) (a1 : Int32) (a2 : Int32) (a3 : Value) (a4 : Value) (y0 : Int32) (M : xM) (Q : Option Value → xM → Prop), xW xSC 117 23 [.ref a0, .int a1, .int a2, a3, a4] ([.int y0]) M Q = Q (some (.int y0)) M) ∧
  (∀ (a0 : Nat) (a1 : Int32) (a2 : Int32) (a3 : Value) (a4 : Value) (st : List Value) (M : xM) (Q : Option Value → xM → Prop), xW xSC 117 24 [.ref a0, .int a1, .int a2, a3, a4] (st) M Q = xW xSC 117 25 [.ref a0, .int a1, .int a2, a3, a4] (.int (nI 1) :: st) M Q) ∧
  (∀ (a0 : Nat) (a1 : Int32) (a2 : Int32) (a3 : Value) (a4 : Value) (st : List Value) (M : xM) (Q : Option Value → xM → Prop), xW xSC 117 25 [.ref a0, .int a1, .int a2, a3, a4] (st) M Q = xW xSC 117 26 [.ref a0, .int a1, .int a2, a3, a4] (.int a1 :: st) M Q) ∧
  (∀ (a0 : Nat) (a1 : Int32) (a2 : Int32) (a3 : Value) (a4 : Value) (y0 : Int32) (y1 : Int32) (st : List Value) (M : xM) (Q : Option Value → xM → Prop), xW xSC 117 26 [.ref a0, .int a1, .int a2, a3, a4] (.int y0 :: .int y1 :: st) M Q = xW xSC 117 27 [.ref a0, .int a1, .int a2, a3, a4] (.int (y1 <<< (y0 &&& nI 31)) :: st) M Q) ∧
  (∀ (a0 : Nat) (a1 : Int32) (a2 : Int32) (a3 : Value) (a4 : Value) (y0 : Int32) (st : List Value) (M : xM) (Q : Option Value → xM → Prop), xW xSC 117 27 [.ref a0, .int a1, .int a2, a3, a4] (.int y0 :: st) M Q = xW xSC 117 28 [.ref a0, .int a1, .int a2, .int y0, a4] (st) M Q) ∧
  (∀ (a0 : Nat) (a1 : Int32) (a2 : Int32) (a3 : Int32) (a4 : Value) (st : List Value) (M : xM) (Q : Option Value → xM → Prop), xW xSC 117 28 [.ref a0, .int a1, .int a2, .int a3, a4] (st) M Q = xW xSC 117 29 [.ref a0, .int a1, .int a2, .int a3, a4] (.int (nI 0) :: st) M Q) ∧
  (∀ (a0 : Nat) (a1 : Int32) (a2 : Int32) (a3 : Int32) (a4 : Value) (y0 : Int32) (st : List Value) (M : xM) (Q : Option Value → xM → Prop), xW xSC 117 29 [.ref a0, .int a1, .int a2, .int a3, a4] (.int y0 :: st) M Q = xW xSC 117 31 [.ref a0, .int a1, .int a2, .int a3, .int y0] (st) M Q) ∧
  (∀ (a0 : Nat) (a1 : Int32) (a2 : Int32) (a3 : Int32) (a4 : Int32) (st : List Value) (M : xM) (Q : Option Value → xM → Prop), xW xSC 117 33 [.ref a0, .int a1, .int a2, .int a3, .int a4] (st) M Q = xW xSC 117 35 [.ref a0, .int a1, .int a2, .int a3, .int a4] (.int (nI 8) :: st) M Q) ∧
  (∀ (a0 : Nat) (a1 : Int32) (a2 : Int32) (a3 : Int32) (a4 : Int32) (y0 : Int32) (y1 : Int32) (st : List Value) (M : xM) (Q : Option Value → xM → Prop), xW xSC 117 35 [.ref a0, .int a1, .int a2, .int a3, .int a4] (.int y0 :: .int y1 :: st) M Q = if y1 < y0 then xW xSC 117 38 [.ref a0, .int a1, .int a2, .int a3, .int a4] (st) M Q else xW xSC 117 62 [.ref a0, .int a1, .int a2, .int a3, .int a4] (st) M Q) ∧
  (∀ (a0 : Nat) (a1 : Int32) (a2 : Int32) (a3 : Int32) (a4 : Int32) (st : List Value) (M : xM) (Q : Option Value → xM → Prop), xW xSC 117 38 [.ref a0, .int a1, .int a2, .int a3, .int a4] (st) M Q = xW xSC 117 39 [.ref a0, .int a1, .int a2, .int a3, .int a4] (.int a3 :: st) M Q) ∧
  (∀ (a0 : Nat) (a1 : Int32) (a2 : Int32) (a3 : Int32) (a4 : Int32) (st : List Value) (M : xM) (Q : Option Value → xM → Prop), xW xSC 117 39 [.ref a0, .int a1, .int a2, .int a3, .int a4] (st) M Q = xW xSC 117 40 [.ref a0, .int a1, .int a2, .int a3, .int a4] (.int a2 :: st) M Q) ∧
  (∀ (a0 : Nat) (a1 : Int32) (a2 : Int32) (a3 : Int32) (a4 : Int32) (y0 : Int32) (y1 : Int32) (st : List Value) (M : xM) (Q : Option Value → xM → Prop), xW xSC 117 40 [.ref a0, .int a1, .int a2, .int a3, .int a4] (.int y0 :: .int y1 :: st) M Q = xW xSC 117 41 [.ref a0, .int a1, .int a2, .int a3, .int a4] (.int (y1 >>> (y0 &&& nI 31)) :: st) M Q) ∧
  (∀ (a0 : Nat) (a1 : Int32) (a2 : Int32) (a3 : Int32) (a4 : Int32) (st : List Value) (M : xM) (Q : Option Value → xM → Prop), xW xSC 117 41 [.ref a0, .int a1, .int a2, .int a3, .int a4] (st) M Q = xW xSC 117 42 [.ref a0, .int a1, .int a2, .int a3, .int a4] (.int (nI 1) :: st) M Q) ∧
  (∀ (a0 : Nat) (a1 : Int32) (a2 : Int32) (a3 : Int32) (a4 : Int32) (y0 : Int32) (y1 : Int32) (st : List Value) (M : xM) (Q : Option Value → xM → Prop), xW xSC 117 42 [.ref a0, .int a1, .int a2, .int a3, .int a4] (.int y0 :: .int y1 :: st) M Q = xW xSC 117 43 [.ref a0, .int a1, .int a2, .int a3, .int a4] (.int (y1 &&& y0) :: st) M Q) ∧
  (∀ (a0 : Nat) (a1 : Int32) (a2 : Int32) (a3 : Int32) (a4 : Int32) (st : List Value) (M : xM) (Q : Option Value → xM → Prop), xW xSC 117 43 [.ref a0, .int a1, .int a2, .int a3, .int a4] (st) M Q = xW xSC 117 44 [.ref a0, .int a1, .int a2, .int a3, .int a4] (.int (nI 1) :: st) M Q) ∧
  (∀ (a0 : Nat) (a1 : Int32) (a2 : Int32) (a3 : Int32) (a4 : Int32) (y0 : Int32) (y1 : Int32) (st : List Value) (M : xM) (Q : Option Value → xM → Prop), xW xSC 117 44 [.ref a0, .int a1, .int a2, .int a3, .int a4] (.int y0 :: .int y1 :: st) M Q = if y1 = y0 then xW xSC 117 47 [.ref a0, .int a1, .int a2, .int a3, .int a4] (st) M Q else xW xSC 117 50 [.ref a0, .int a1, .int a2, .int a3, .int a4] (st) M Q) ∧
  (∀ (a0 : Nat) (a1 : Int32) (a2 : Int32) (a3 : Int32) (a4 : Int32) (st : List Value) (M : xM) (Q : Option Value → xM → Prop), xW xSC 117 47 [.ref a0, .int a1, .int a2, .int a3, .int a4] (st) M Q = xW xSC 117 49 [.ref a0, .int a1, .int a2, .int a3, .int a4] (.int a4 :: st) M Q) ∧
  (∀ (a0 : Nat) (a1 : Int32) (a2 : Int32) (a3 : Int32) (a4 : Int32) (y0 : Int32) (M : xM) (Q : Option Value → xM → Prop), xW xSC 117 49 [.ref a0, .int a1, .int a2, .int a3, .int a4] ([.int y0]) M Q = Q (some (.int y0)) M) ∧
  (∀ (a0 : Nat) (a1 : Int32) (a2 : Int32) (a3 : Int32) (a4 : Int32) (st : List Value) (M : xM) (Q : Option Value → xM → Prop), xW xSC 117 50 [.ref a0, .int a1, .int a2, .int a3, .int a4] (st) M Q = xW xSC 117 51 [.ref a0, .int a1, .int a2, .int a3, .int a4] (.ref a0 :: st) M Q) ∧
  (∀ (a0 : Nat) (a1 : Int32) (a2 : Int32) (a3 : Int32) (a4 : Int32) (st : List Value) (M : xM) (Q : Option Value → xM → Prop), xW xSC 117 51 [.ref a0, .int a1, .int a2, .int a3, .int a4] (st) M Q = xW xSC 117 52 [.ref a0, .int a1, .int a2, .int a3, .int a4] (.int a3 :: st) M Q) ∧
  (∀ (a0 : Nat) (a1 : Int32) (a2 : Int32) (a3 : Int32) (a4 : Int32) (y0 : Int32) (M : xM) (Q : Option Value → xM → Prop), xW xSC 117 52 [.ref a0, .int a1, .int a2, .int a3, .int a4] (.int y0 :: .ref 0 :: []) M Q = xW xSC 118 0 [.ref 0, .int y0, .null, .null, .null, .null] [] M (fun v M' => xW xSC 117 55 [.ref a0, .int a1, .int a2, .int a3, .int a4] (xpush v []) M' Q)) ∧
  (∀ (a0 : Nat) (a1 : Int32) (a2 : Int32) (a3 : Int32) (a4 : Int32) (y0 : Int32) (st : List Value) (M : xM) (Q : Option Value → xM → Prop), xW xSC 117 55 [.ref a0, .int a1, .int a2, .int a3, .int a4] (.int y0 :: st) M Q = xW xSC 117 56 [.ref a0, .int a1, .int a2, .int y0, .int a4] (st) M Q) ∧
  (∀ (a0 : Nat) (a1 : Int32) (a2 : Int32) (a3 : Int32) (a4 : Int32) (st : List Value) (M : xM) (Q : Option Value → xM → Prop), xW xSC 117 56 [.ref a0, .int a1, .int a2, .int a3, .int a4] (st) M Q = xW xSC 117 59 [.ref a0, .int a1, .int a2, .int a3, .int (a4 + nI 1)] (st) M Q) ∧
  (∀ (a0 : Nat) (a1 : Int32) (a2 : Int32) (a3 : Int32) (a4 : Int32) (st : List Value) (M : xM) (Q : Option Value → xM → Prop), xW xSC 117 59 [.ref a0, .int a1, .int a2, .int a3, .int a4] (st) M Q = xW xSC 117 31 [.ref a0, .int a1, .int a2, .int a3, .int a4] (st) M Q) ∧
  (∀ (a0 : Nat) (a1 : Int32) (a2 : Int32) (a3 : Int32) (a4 : Int32) (st : List Value) (M : xM) (Q : Option Value → xM → Prop), xW xSC 117 62 [.ref a0, .int a1, .int a2, .int a3, .int a4] (st) M Q = xW xSC 117 64 [.ref a0, .int a1, .int a2, .int a3, .int a4] (.int (-4) :: st) M Q) ∧
  (∀ (a0 : Nat) (a1 : Int32) (a2 : Int32) (a3 : Int32) (a4 : Int32) (y0 : Int32) (M : xM) (Q : Option Value → xM → Prop), xW xSC 117 64 [.ref a0, .int a1, .int a2, .int a3, .int a4] ([.int y0]) M Q = Q (some (.int y0)) M) :=
  ⟨fun a0 a1 a2 a3 a4 st M Q => xw_s rfl rfl,
  fun a0 a1 a2 a3 a4 st M Q => xw_s rfl rfl,
  fun a0 a1 a2 a3 a4 st M Q => xw_s rfl rfl,
  fun a0 a1 a2 a3 a4 y0 M Q => xw_call rfl rfl rfl,
  fun a0 a1 a2 a3 a4 y0 st M Q => xw_br (c0 := y0 = nI 0) rfl rfl,
  fun a0 a1 a2 a3 a4 st M Q => xw_s rfl rfl,
  fun a0 a1 a2 a3 a4 st M Q => xw_s rfl rfl,
  fun a0 a1 a2 a3 a4 st M Q => xw_s rfl rfl,
  fun a0 a1 a2 a3 a4 y0 M Q => xw_call rfl rfl rfl,
  fun a0 a1 a2 a3 a4 y0 st M Q => xw_brn (c0 := y0 ≠ nI 0) (c1 := y0 = nI 0) rfl rfl (Iff.rfl),
  fun a0 a1 a2 a3 a4 y0 M Q => xw_ret rfl rfl,
  fun a0 a1 a2 a3 a4 st M Q => xw_s rfl rfl,
  fun a0 a1 a2 a3 a4 st M Q => xw_s rfl rfl,
  fun a0 a1 a2 a3 a4 y0 y1 st M Q => xw_s rfl rfl,
  fun a0 a1 a2 a3 a4 y0 st M Q => xw_s rfl rfl,
  fun a0 a1 a2 a3 a4 st M Q => xw_s rfl rfl,
  fun a0 a1 a2 a3 a4 y0 st M Q => xw_s rfl rfl,
  fun a0 a1 a2 a3 a4 st M Q => xw_s rfl rfl,
  fun a0 a1 a2 a3 a4 y0 y1 st M Q => xw_brn (c0 := y0 ≤ y1) (c1 := y1 < y0) rfl rfl (xge _ _),
  fun a0 a1 a2 a3 a4 st M Q => xw_s rfl rfl,
  fun a0 a1 a2 a3 a4 st M Q => xw_s rfl rfl,
  fun a0 a1 a2 a3 a4 y0 y1 st M Q => xw_s rfl rfl,
  fun a0 a1 a2 a3 a4 st M Q => xw_s rfl rfl,
  fun a0 a1 a2 a3 a4 y0 y1 st M Q => xw_s rfl rfl,
  fun a0 a1 a2 a3 a4 st M Q => xw_s rfl rfl,
  fun a0 a1 a2 a3 a4 y0 y1 st M Q => xw_brn (c0 := y1 ≠ y0) (c1 := y1 = y0) rfl rfl (Iff.rfl),
  fun a0 a1 a2 a3 a4 st M Q => xw_s rfl rfl,
  fun a0 a1 a2 a3 a4 y0 M Q => xw_ret rfl rfl,
  fun a0 a1 a2 a3 a4 st M Q => xw_s rfl rfl,
  fun a0 a1 a2 a3 a4 st M Q => xw_s rfl rfl,
  fun a0 a1 a2 a3 a4 y0 M Q => xw_call rfl rfl rfl,
  fun a0 a1 a2 a3 a4 y0 st M Q => xw_s rfl rfl,
  fun a0 a1 a2 a3 a4 st M Q => xw_s rfl rfl,
  fun a0 a1 a2 a3 a4 st M Q => xw_s rfl rfl,
  fun a0 a1 a2 a3 a4 st M Q => xw_s rfl rfl,
  fun a0 a1 a2 a3 a4 y0 M Q => xw_ret rfl rfl⟩
set_option maxRecDepth 20000 in
theorem h117_22 :
  (∀ (a0 : Nat) (a1 : Int32) (a2 : Int32) (a3 : Value) (a4 : Value) (st : List Value) (M : xM) (Q : Option Value → xM → Prop), xW xSC 117 22 [.ref a0, .int a1, .int a2, a3, a4] (st) M Q = xW xSC 117 23 [.ref a0, .int a1, .int a2, a3, a4] (.int (-1) :: st) M Q) :=
  fun a0 a1 a2 a3 a4 st M Q => xw_s rfl rfl
set_option maxRecDepth 20000 in
theorem h117_31 :
  (∀ (a0 : Nat) (a1 : Int32) (a2 : Int32) (a3 : Int32) (a4 : Int32) (st : List Value) (M : xM) (Q : Option Value → xM → Prop), xW xSC 117 31 [.ref a0, .int a1, .int a2, .int a3, .int a4] (st) M Q = xW xSC 117 33 [.ref a0, .int a1, .int a2, .int a3, .int a4] (.int a4 :: st) M Q) :=
  fun a0 a1 a2 a3 a4 st M Q => xw_s rfl rfl
set_option maxRecDepth 20000 in
theorem j117 :
  (∀ (a0 : Nat) (a1 : Int32) (a2 : Int32) (a3 : Value) (a4 : Value) (st : List Value) (M : xM) (Q : Option Value → xM → Prop), xW xSC 117 22 [.ref a0, .int a1, .int a2, a3, a4] (st) M Q = xW xSC 117 23 [.ref a0, .int a1, .int a2, a3, a4] (.int (-1) :: st) M Q) :=
  fun a0 a1 a2 a3 a4 st M Q => xw_s rfl rfl

set_option maxRecDepth 20000 in
theorem s118 :
  (∀ (a0 : Nat) (a1 : Int32) (a2 : Value) (a3 : Value) (a4 : Value) (a5 : Value) (st : List Value) (M : xM) (Q : Option Value → xM → Prop), xW xSC 118 0 [.ref a0, .int a1, a2, a3, a4, a5] (st) M Q = xW xSC 118 1 [.ref a0, .int a1, a2, a3, a4, a5] (.int a1 :: st) M Q) ∧
  (∀ (a0 : Nat) (a1 : Int32) (a2 : Value) (a3 : Value) (a4 : Value) (a5 : Value) (y0 : Int32) (st : List Value) (M : xM) (Q : Option Value → xM → Prop), xW xSC 118 1 [.ref a0, .int a1, a2, a3, a4, a5] (.int y0 :: st) M Q = xW xSC 118 2 [.ref a0, .int a1, .int y0, a3, a4, a5] (st) M Q) ∧
  (∀ (a0 : Nat) (a1 : Int32) (a2 : Int32) (a3 : Value) (a4 : Value) (a5 : Value) (st : List Value) (M : xM) (Q : Option Value → xM → Prop), xW xSC 118 2 [.ref a0, .int a1, .int a2, a3, a4, a5] (st) M Q = xW xSC 118 3 [.ref a0, .int a1, .int a2, a3, a4, a5] (.int (nI 0) :: st) M Q) ∧
  (∀ (a0 : Nat) (a1 : Int32) (a2 : Int32) (a3 : Value) (a4 : Value) (a5 : Value) (y0 : Int32) (st : List Value) (M : xM) (Q : Option Value → xM → Prop), xW xSC 118 3 [.ref a0, .int a1, .int a2, a3, a4, a5] (.int y0 :: st) M Q = xW xSC 118 4 [.ref a0, .int a1, .int a2, .int y0, a4, a5] (st) M Q) ∧
  (∀ (a0 : Nat) (a1 : Int32) (a2 : Int32) (a3 : Int32) (a4 : Value) (a5 : Value) (st : List Value) (M : xM) (Q : Option Value → xM → Prop), xW xSC 118 5 [.ref a0, .int a1, .int a2, .int a3, a4, a5] (st) M Q = xW xSC 118 6 [.ref a0, .int a1, .int a2, .int a3, a4, a5] (.ref a0 :: st) M Q) ∧
  (∀ (a0 : Nat) (a1 : Int32) (a2 : Int32) (a3 : Int32) (a4 : Value) (a5 : Value) (st : List Value) (M : xM) (Q : Option Value → xM → Prop), xW xSC 118 6 [.ref a0, .int a1, .int a2, .int a3, a4, a5] (.ref 0 :: st) M Q = xW xSC 118 9 [.ref a0, .int a1, .int a2, .int a3, a4, a5] (.ref 9 :: st) M Q) ∧
  (∀ (a0 : Nat) (a1 : Int32) (a2 : Int32) (a3 : Int32) (a4 : Value) (a5 : Value) (st : List Value) (M : xM) (Q : Option Value → xM → Prop), xW xSC 118 9 [.ref a0, .int a1, .int a2, .int a3, a4, a5] (.ref 9 :: st) M Q = xW xSC 118 12 [.ref a0, .int a1, .int a2, .int a3, a4, a5] (.int (M 9 1) :: st) M Q) ∧
  (∀ (a0 : Nat) (a1 : Int32) (a2 : Int32) (a3 : Int32) (a4 : Value) (a5 : Value) (y0 : Int32) (y1 : Int32) (st : List Value) (M : xM) (Q : Option Value → xM → Prop), xW xSC 118 12 [.ref a0, .int a1, .int a2, .int a3, a4, a5] (.int y0 :: .int y1 :: st) M Q = if y1 < y0 then xW xSC 118 15 [.ref a0, .int a1, .int a2, .int a3, a4, a5] (st) M Q else xW xSC 118 97 [.ref a0, .int a1, .int a2, .int a3, a4, a5] (st) M Q) ∧
  (∀ (a0 : Nat) (a1 : Int32) (a2 : Int32) (a3 : Int32) (a4 : Value) (a5 : Value) (st : List Value) (M : xM) (Q : Option Value → xM → Prop), xW xSC 118 15 [.ref a0, .int a1, .int a2, .int a3, a4, a5] (st) M Q = xW xSC 118 16 [.ref a0, .int a1, .int a2, .int a3, a4, a5] (.int (nI 0) :: st) M Q) ∧
  (∀ (a0 : Nat) (a1 : Int32) (a2 : Int32) (a3 : Int32) (a4 : Value) (a5 : Value) (y0 : Int32) (st : List Value) (M : xM) (Q : Option Value → xM → Prop), xW xSC 118 16 [.ref a0, .int a1, .int a2, .int a3, a4, a5] (.int y0 :: st) M Q = xW xSC 118 18 [.ref a0, .int a1, .int a2, .int a3, .int y0, a5] (st) M Q) ∧
  (∀ (a0 : Nat) (a1 : Int32) (a2 : Int32) (a3 : Int32) (a4 : Int32) (a5 : Value) (st : List Value) (M : xM) (Q : Option Value → xM → Prop), xW xSC 118 20 [.ref a0, .int a1, .int a2, .int a3, .int a4, a5] (st) M Q = xW xSC 118 21 [.ref a0, .int a1, .int a2, .int a3, .int a4, a5] (.int (nI 2) :: st) M Q) ∧
  (∀ (a0 : Nat) (a1 : Int32) (a2 : Int32) (a3 : Int32) (a4 : Int32) (a5 : Value) (y0 : Int32) (y1 : Int32) (st : List Value) (M : xM) (Q : Option Value → xM → Prop), xW xSC 118 21 [.ref a0, .int a1, .int a2, .int a3, .int a4, a5] (.int y0 :: .int y1 :: st) M Q = if y1 < y0 then xW xSC 118 24 [.ref a0, .int a1, .int a2, .int a3, .int a4, a5] (st) M Q else xW xSC 118 91 [.ref a0, .int a1, .int a2, .int a3, .int a4, a5] (st) M Q) ∧
  (∀ (a0 : Nat) (a1 : Int32) (a2 : Int32) (a3 : Int32) (a4 : Int32) (a5 : Value) (st : List Value) (M : xM) (Q : Option Value → xM → Prop), xW xSC 118 24 [.ref a0, .int a1, .int a2, .int a3, .int a4, a5] (st) M Q = xW xSC 118 25 [.ref a0, .int a1, .int a2, .int a3, .int a4, a5] (.int a1 :: st) M Q) ∧
  (∀ (a0 : Nat) (a1 : Int32) (a2 : Int32) (a3 : Int32) (a4 : Int32) (a5 : Value) (st : List Value) (M : xM) (Q : Option Value → xM → Prop), xW xSC 118 25 [.ref a0, .int a1, .int a2, .int a3, .int a4, a5] (st) M Q = xW xSC 118 26 [.ref a0, .int a1, .int a2, .int a3, .int a4, a5] (.ref a0 :: st) M Q) ∧
  (∀ (a0 : Nat) (a1 : Int32) (a2 : Int32) (a3 : Int32) (a4 : Int32) (a5 : Value) (st : List Value) (M : xM) (Q : Option Value → xM → Prop), xW xSC 118 26 [.ref a0, .int a1, .int a2, .int a3, .int a4, a5] (.ref 0 :: st) M Q = xW xSC 118 29 [.ref a0, .int a1, .int a2, .int a3, .int a4, a5] (.ref 9 :: st) M Q) ∧
  (∀ (a0 : Nat) (a1 : Int32) (a2 : Int32) (a3 : Int32) (a4 : Int32) (a5 : Value) (st : List Value) (M : xM) (Q : Option Value → xM → Prop), xW xSC 118 29 [.ref a0, .int a1, .int a2, .int a3, .int a4, a5] (st) M Q = xW xSC 118 30 [.ref a0, .int a1, .int a2, .int a3, .int a4, a5] (.int a3 :: st) M Q) ∧
  (∀ (a0 : Nat) (a1 : Int32) (a2 : Int32) (a3 : Int32) (a4 : Int32) (a5 : Value) (st : List Value) (M : xM) (Q : Option Value → xM → Prop), xW xSC 118 30 [.ref a0, .int a1, .int a2, .int a3, .int a4, a5] (st) M Q = xW xSC 118 32 [.ref a0, .int a1, .int a2, .int a3, .int a4, a5] (.int a4 :: st) M Q) ∧
  (∀ (a0 : Nat) (a1 : Int32) (a2 : Int32) (a3 : Int32) (a4 : Int32) (a5 : Value) (y0 : Int32) (y1 : Int32) (y3 : Int32) (M : xM) (Q : Option Value → xM → Prop), xW xSC 118 32 [.ref a0, .int a1, .int a2, .int a3, .int a4, a5] (.int y0 :: .int y1 :: .ref 9 :: .int y3 :: []) M Q = xW xSC 39 0 [.ref 9, .int y1, .int y0] [] M (fun v M' => xW xSC 118 35 [.ref a0, .int a1, .int a2, .int a3, .int a4, a5] (xpush v [.int y3]) M' Q)) ∧
  (∀ (a0 : Nat) (a1 : Int32) (a2 : Int32) (a3 : Int32) (a4 : Int32) (a5 : Value) (y0 : Int32) (y1 : Int32) (st : List Value) (M : xM) (Q : Option Value → xM → Prop), xW xSC 118 35 [.ref a0, .int a1, .int a2, .int a3, .int a4, a5] (.int y0 :: .int y1 :: st) M Q = xW xSC 118 36 [.ref a0, .int a1, .int a2, .int a3, .int a4, a5] (.int (y1 >>> (y0 &&& nI 31)) :: st) M Q) ∧
  (∀ (a0 : Nat) (a1 : Int32) (a2 : Int32) (a3 : Int32) (a4 : Int32) (a5 : Value) (st : List Value) (M : xM) (Q : Option Value → xM → Prop), xW xSC 118 36 [.ref a0, .int a1, .int a2, .int a3, .int a4, a5] (st) M Q = xW xSC 118 37 [.ref a0, .int a1, .int a2, .int a3, .int a4, a5] (.int (nI 1) :: st) M Q) ∧
  (∀ (a0 : Nat) (a1 : Int32) (a2 : Int32) (a3 : Int32) (a4 : Int32) (a5 : Value) (y0 : Int32) (y1 : Int32) (st : List Value) (M : xM) (Q : Option Value → xM → Prop), xW xSC 118 37 [.ref a0, .int a1, .int a2, .int a3, .int a4, a5] (.int y0 :: .int y1 :: st) M Q = xW xSC 118 38 [.ref a0, .int a1, .int a2, .int a3, .int a4, a5] (.int (y1 &&& y0) :: st) M Q) ∧
  (∀ (a0 : Nat) (a1 : Int32) (a2 : Int32) (a3 : Int32) (a4 : Int32) (a5 : Value) (st : List Value) (M : xM) (Q : Option Value → xM → Prop), xW xSC 118 38 [.ref a0, .int a1, .int a2, .int a3, .int a4, a5] (st) M Q = xW xSC 118 39 [.ref a0, .int a1, .int a2, .int a3, .int a4, a5] (.int (nI 1) :: st) M Q) ∧
  (∀ (a0 : Nat) (a1 : Int32) (a2 : Int32) (a3 : Int32) (a4 : Int32) (a5 : Value) (y0 : Int32) (y1 : Int32) (st : List Value) (M : xM) (Q : Option Value → xM → Prop), xW xSC 118 39 [.ref a0, .int a1, .int a2, .int a3, .int a4, a5] (.int y0 :: .int y1 :: st) M Q = if y1 = y0 then xW xSC 118 42 [.ref a0, .int a1, .int a2, .int a3, .int a4, a5] (st) M Q else xW xSC 118 46 [.ref a0, .int a1, .int a2, .int a3, .int a4, a5] (st) M Q) ∧
  (∀ (a0 : Nat) (a1 : Int32) (a2 : Int32) (a3 : Int32) (a4 : Int32) (a5 : Value) (st : List Value) (M : xM) (Q : Option Value → xM → Prop), xW xSC 118 42 [.ref a0, .int a1, .int a2, .int a3, .int a4, a5] (st) M Q = xW xSC 118 43 [.ref a0, .int a1, .int a2, .int a3, .int a4, a5] (.int (nI 1) :: st) M Q) ∧
  (∀ (a0 : Nat) (a1 : Int32) (a2 : Int32) (a3 : Int32) (a4 : Int32) (a5 : Value) (st : List Value) (M : xM) (Q : Option Value → xM → Prop), xW xSC 118 43 [.ref a0, .int a1, .int a2, .int a3, .int a4, a5] (st) M Q = xW xSC 118 47 [.ref a0, .int a1, .int a2, .int a3, .int a4, a5] (st) M Q) ∧
  (∀ (a0 : Nat) (a1 : Int32) (a2 : Int32) (a3 : Int32) (a4 : Int32) (a5 : Value) (st : List Value) (M : xM) (Q : Option Value → xM → Prop), xW xSC 118 46 [.ref a0, .int a1, .int a2, .int a3, .int a4, a5] (st) M Q = xW xSC 118 47 [.ref a0, .int a1, .int a2, .int a3, .int a4, a5] (.int (nI 0) :: st) M Q) ∧
  (∀ (a0 : Nat) (a1 : Int32) (a2 : Int32) (a3 : Int32) (a4 : Int32) (a5 : Int32) (st : List Value) (M : xM) (Q : Option Value → xM → Prop), xW xSC 118 49 [.ref a0, .int a1, .int a2, .int a3, .int a4, .int a5] (st) M Q = xW xSC 118 51 [.ref a0, .int a1, .int a2, .int a3, .int a4, .int a5] (.int a5 :: st) M Q) ∧
  (∀ (a0 : Nat) (a1 : Int32) (a2 : Int32) (a3 : Int32) (a4 : Int32) (a5 : Int32) (y0 : Int32) (st : List Value) (M : xM) (Q : Option Value → xM → Prop), xW xSC 118 51 [.ref a0, .int a1, .int a2, .int a3, .int a4, .int a5] (.int y0 :: st) M Q = if y0 = nI 0 then xW xSC 118 85 [.ref a0, .int a1, .int a2, .int a3, .int a4, .int a5] (st) M Q else xW xSC 118 54 [.ref a0, .int a1, .int a2, .int a3, .int a4, .int a5] (st) M Q) ∧
  (∀ (a0 : Nat) (a1 : Int32) (a2 : Int32) (a3 : Int32) (a4 : Int32) (a5 : Int32) (st : List Value) (M : xM) (Q : Option Value → xM → Prop), xW xSC 118 54 [.ref a0, .int a1, .int a2, .int a3, .int a4, .int a5] (st) M Q = xW xSC 118 55 [.ref a0, .int a1, .int a2, .int a3, .int a4, .int a5] (.ref a0 :: st) M Q) ∧
  (∀ (a0 : Nat) (a1 : Int32) (a2 : Int32) (a3 : Int32) (a4 : Int32) (a5 : Int32) (st : List Value) (M : xM) (Q : Option Value → xM → Prop), xW xSC 118 55 [.ref a0, .int a1, .int a2, .int a3, .int a4, .int a5] (.ref 0 :: st) M Q = xW xSC 118 58 [.ref a0, .int a1, .int a2, .int a3, .int a4, .int a5] (.ref 9 :: st) M Q) ∧
  (∀ (a0 : Nat) (a1 : Int32) (a2 : Int32) (a3 : Int32) (a4 : Int32) (a5 : Int32) (st : List Value) (M : xM) (Q : Option Value → xM → Prop), xW xSC 118 58 [.ref a0, .int a1, .int a2, .int a3, .int a4, .int a5] (st) M Q = xW xSC 118 59 [.ref a0, .int a1, .int a2, .int a3, .int a4, .int a5] (.int a3 :: st) M Q) ∧
  (∀ (a0 : Nat) (a1 : Int32) (a2 : Int32) (a3 : Int32) (a4 : Int32) (a5 : Int32) (st : List Value) (M : xM) (Q : Option Value → xM → Prop), xW xSC 118 59 [.ref a0, .int a1, .int a2, .int a3, .int a4, .int a5] (st) M Q = xW xSC 118 61 [.ref a0, .int a1, .int a2, .int a3, .int a4, .int a5] (.int a4 :: st) M Q) ∧
  (∀ (a0 : Nat) (a1 : Int32) (a2 : Int32) (a3 : Int32) (a4 : Int32) (a5 : Int32) (y0 : Int32) (y1 : Int32) (M : xM) (Q : Option Value → xM → Prop), xW xSC 118 61 [.ref a0, .int a1, .int a2, .int a3, .int a4, .int a5] (.int y0 :: .int y1 :: .ref 9 :: []) M Q = xW xSC 37 0 [.ref 9, .int y1, .int y0] [] M (fun v M' => xW xSC 118 64 [.ref a0, .int a1, .int a2, .int a3, .int a4, .int a5] (xpush v []) M' Q)) ∧
  (∀ (a0 : Nat) (a1 : Int32) (a2 : Int32) (a3 : Int32) (a4 : Int32) (a5 : Int32) (st : List Value) (M : xM) (Q : Option Value → xM → Prop), xW xSC 118 64 [.ref a0, .int a1, .int a2, .int a3, .int a4, .int a5] (st) M Q = xW xSC 118 65 [.ref a0, .int a1, .int a2, .int a3, .int a4, .int a5] (.int (nI 1) :: st) M Q) ∧
  (∀ (a0 : Nat) (a1 : Int32) (a2 : Int32) (a3 : Int32) (a4 : Int32) (a5 : Int32) (y0 : Int32) (y1 : Int32) (st : List Value) (M : xM) (Q : Option Value → xM → Prop), xW xSC 118 65 [.ref a0, .int a1, .int a2, .int a3, .int a4, .int a5] (.int y0 :: .int y1 :: st) M Q = if y1 = y0 then xW xSC 118 85 [.ref a0, .int a1, .int a2, .int a3, .int a4, .int a5] (st) M Q else xW xSC 118 68 [.ref a0, .int a1, .int a2, .int a3, .int a4, .int a5] (st) M Q) ∧
  (∀ (a0 : Nat) (a1 : Int32) (a2 : Int32) (a3 : Int32) (a4 : Int32) (a5 : Int32) (st : List Value) (M : xM) (Q : Option Value → xM → Prop), xW xSC 118 68 [.ref a0, .int a1, .int a2, .int a3, .int a4, .int a5] (st) M Q = xW xSC 118 69 [.ref a0, .int a1, .int a2, .int a3, .int a4, .int a5] (.int a2 :: st) M Q) ∧
  (∀ (a0 : Nat) (a1 : Int32) (a2 : Int32) (a3 : Int32) (a4 : Int32) (a5 : Int32) (st : List Value) (M : xM) (Q : Option Value → xM → Prop), xW xSC 118 69 [.ref a0, .int a1, .int a2, .int a3, .int a4, .int a5] (st) M Q = xW xSC 118 70 [.ref a0, .int a1, .int a2, .int a3, .int a4, .int a5] (.int (nI 1) :: st) M Q) ∧
  (∀ (a0 : Nat) (a1 : Int32) (a2 : Int32) (a3 : Int32) (a4 : Int32) (a5 : Int32) (st : List Value) (M : xM) (Q : Option Value → xM → Prop), xW xSC 118 70 [.ref a0, .int a1, .int a2, .int a3, .int a4, .int a5] (st) M Q = xW xSC 118 71 [.ref a0, .int a1, .int a2, .int a3, .int a4, .int a5] (.ref a0 :: st) M Q) ∧
  (∀ (a0 : Nat) (a1 : Int32) (a2 : Int32) (a3 : Int32) (a4 : Int32) (a5 : Int32) (st : List Value) (M : xM) (Q : Option Value → xM → Prop), xW xSC 118 71 [.ref a0, .int a1, .int a2, .int a3, .int a4, .int a5] (.ref 0 :: st) M Q = xW xSC 118 74 [.ref a0, .int a1, .int a2, .int a3, .int a4, .int a5] (.ref 9 :: st) M Q) ∧
  (∀ (a0 : Nat) (a1 : Int32) (a2 : Int32) (a3 : Int32) (a4 : Int32) (a5 : Int32) (st : List Value) (M : xM) (Q : Option Value → xM → Prop), xW xSC 118 74 [.ref a0, .int a1, .int a2, .int a3, .int a4, .int a5] (st) M Q = xW xSC 118 75 [.ref a0, .int a1, .int a2, .int a3, .int a4, .int a5] (.int a3 :: st) M Q) ∧
  (∀ (a0 : Nat) (a1 : Int32) (a2 : Int32) (a3 : Int32) (a4 : Int32) (a5 : Int32) (st : List Value) (M : xM) (Q : Option Value → xM → Prop), xW xSC 118 75 [.ref a0, .int a1, .int a2, .int a3, .int a4, .int a5] (st) M Q = xW xSC 118 76 [.ref a0, .int a1, .int a2, .int a3, .int a4, .int a5] (.int (nI 1) :: st) M Q) ∧
  (∀ (a0 : Nat) (a1 : Int32) (a2 : Int32) (a3 : Int32) (a4 : Int32) (a5 : Int32) (st : List Value) (M : xM) (Q : Option Value → xM → Prop), xW xSC 118 76 [.ref a0, .int a1, .int a2, .int a3, .int a4, .int a5] (st) M Q = xW xSC 118 78 [.ref a0, .int a1, .int a2, .int a3, .int a4, .int a5] (.int a4 :: st) M Q) ∧
  (∀ (a0 : Nat) (a1 : Int32) (a2 : Int32) (a3 : Int32) (a4 : Int32) (a5 : Int32) (y0 : Int32) (y1 : Int32) (st : List Value) (M : xM) (Q : Option Value → xM → Prop), xW xSC 118 78 [.ref a0, .int a1, .int a2, .int a3, .int a4, .int a5] (.int y0 :: .int y1 :: st) M Q = xW xSC 118 79 [.ref a0, .int a1, .int a2, .int a3, .int a4, .int a5] (.int (y1 - y0) :: st) M Q) ∧
  (∀ (a0 : Nat) (a1 : Int32) (a2 : Int32) (a3 : Int32) (a4 : Int32) (a5 : Int32) (y0 : Int32) (y1 : Int32) (y3 : Int32) (y4 : Int32) (M : xM) (Q : Option Value → xM → Prop), xW xSC 118 79 [.ref a0, .int a1, .int a2, .int a3, .int a4, .int a5] (.int y0 :: .int y1 :: .ref 9 :: .int y3 :: .int y4 :: []) M Q = xW xSC 39 0 [.ref 9, .int y1, .int y0] [] M (fun v M' => xW xSC 118 82 [.ref a0, .int a1, .int a2, .int a3, .int a4, .int a5] (xpush v [.int y3, .int y4]) M' Q)) ∧
  (∀ (a0 : Nat) (a1 : Int32) (a2 : Int32) (a3 : Int32) (a4 : Int32) (a5 : Int32) (y0 : Int32) (y1 : Int32) (st : List Value) (M : xM) (Q : Option Value → xM → Prop), xW xSC 118 82 [.ref a0, .int a1, .int a2, .int a3, .int a4, .int a5] (.int y0 :: .int y1 :: st) M Q = xW xSC 118 83 [.ref a0, .int a1, .int a2, .int a3, .int a4, .int a5] (.int (y1 <<< (y0 &&& nI 31)) :: st) M Q) ∧
  (∀ (a0 : Nat) (a1 : Int32) (a2 : Int32) (a3 : Int32) (a4 : Int32) (a5 : Int32) (y0 : Int32) (y1 : Int32) (st : List Value) (M : xM) (Q : Option Value → xM → Prop), xW xSC 118 83 [.ref a0, .int a1, .int a2, .int a3, .int a4, .int a5] (.int y0 :: .int y1 :: st) M Q = xW xSC 118 84 [.ref a0, .int a1, .int a2, .int a3, .int a4, .int a5] (.int (y1 ||| y0) :: st) M Q) ∧
  (∀ (a0 : Nat) (a1 : Int32) (a2 : Int32) (a3 : Int32) (a4 : Int32) (a5 : Int32) (y0 : Int32) (st : List Value) (M : xM) (Q : Option Value → xM → Prop), xW xSC 118 84 [.ref a0, .int a1, .int a2, .int a3, .int a4, .int a5] (.int y0 :: st) M Q = xW xSC 118 85 [.ref a0, .int a1, .int y0, .int a3, .int a4, .int a5] (st) M Q) ∧
  (∀ (a0 : Nat) (a1 : Int32) (a2 : Int32) (a3 : Int32) (a4 : Int32) (a5 : Int32) (st : List Value) (M : xM) (Q : Option Value → xM → Prop), xW xSC 118 88 [.ref a0, .int a1, .int a2, .int a3, .int a4, .int a5] (st) M Q = xW xSC 118 18 [.ref a0, .int a1, .int a2, .int a3, .int a4, .int a5] (st) M Q) ∧
  (∀ (a0 : Nat) (a1 : Int32) (a2 : Int32) (a3 : Int32) (a4 : Int32) (a5 : Value) (st : List Value) (M : xM) (Q : Option Value → xM → Prop), xW xSC 118 91 [.ref a0, .int a1, .int a2, .int a3, .int a4, a5] (st) M Q = xW xSC 118 94 [.ref a0, .int a1, .int a2, .int (a3 + nI 1), .int a4, a5] (st) M Q) ∧
  (∀ (a0 : Nat) (a1 : Int32) (a2 : Int32) (a3 : Int32) (a4 : Int32) (a5 : Value) (st : List Value) (M : xM) (Q : Option Value → xM → Prop), xW xSC 118 94 [.ref a0, .int a1, .int a2, .int a3, .int a4, a5] (st) M Q = xW xSC 118 4 [.ref a0, .int a1, .int a2, .int a3, .int a4, a5] (st) M Q) ∧
  (∀ (a0 : Nat) (a1 : Int32) (a2 : Int32) (a3 : Int32) (a4 : Value) (a5 : Value) (st : List Value) (M : xM) (Q : Option Value → xM → Prop), xW xSC 118 97 [.ref a0, .int a1, .int a2, .int a3, a4, a5] (st) M Q = xW xSC 118 98 [.ref a0, .int a1, .int a2, .int a3, a4, a5] (.int a2 :: st) M Q) ∧
  (∀ (a0 : Nat) (a1 : Int32) (a2 : Int32) (a3 : Int32) (a4 : Value) (a5 : Value) (y0 : Int32) (M : xM) (Q : Option Value → xM → Prop), xW xSC 118 98 [.ref a0, .int a1, .int a2, .int a3, a4, a5] ([.int y0]) M Q = Q (some (.int y0)) M) :=
  ⟨fun a0 a1 a2 a3 a4 a5 st M Q => xw_s rfl rfl,
  fun a0 a1 a2 a3 a4 a5 y0 st M Q => xw_s rfl rfl,
  fun a0 a1 a2 a3 a4 a5 st M Q => xw_s rfl rfl,
  fun a0 a1 a2 a3 a4 a5 y0 st M Q => xw_s rfl rfl,
  fun a0 a1 a2 a3 a4 a5 st M Q => xw_s rfl rfl,
  fun a0 a1 a2 a3 a4 a5 st M Q => xw_s rfl rfl,
  fun a0 a1 a2 a3 a4 a5 st M Q => xw_s rfl rfl,
  fun a0 a1 a2 a3 a4 a5 y0 y1 st M Q => xw_brn (c0 := y0 ≤ y1) (c1 := y1 < y0) rfl rfl (xge _ _),
  fun a0 a1 a2 a3 a4 a5 st M Q => xw_s rfl rfl,
  fun a0 a1 a2 a3 a4 a5 y0 st M Q => xw_s rfl rfl,
  fun a0 a1 a2 a3 a4 a5 st M Q => xw_s rfl rfl,
  fun a0 a1 a2 a3 a4 a5 y0 y1 st M Q => xw_brn (c0 := y0 ≤ y1) (c1 := y1 < y0) rfl rfl (xge _ _),
  fun a0 a1 a2 a3 a4 a5 st M Q => xw_s rfl rfl,
  fun a0 a1 a2 a3 a4 a5 st M Q => xw_s rfl rfl,
  fun a0 a1 a2 a3 a4 a5 st M Q => xw_s rfl rfl,
  fun a0 a1 a2 a3 a4 a5 st M Q => xw_s rfl rfl,
  fun a0 a1 a2 a3 a4 a5 st M Q => xw_s rfl rfl,
  fun a0 a1 a2 a3 a4 a5 y0 y1 y3 M Q => xw_call rfl rfl rfl,
  fun a0 a1 a2 a3 a4 a5 y0 y1 st M Q => xw_s rfl rfl,
  fun a0 a1 a2 a3 a4 a5 st M Q => xw_s rfl rfl,
  fun a0 a1 a2 a3 a4 a5 y0 y1 st M Q => xw_s rfl rfl,
  fun a0 a1 a2 a3 a4 a5 st M Q => xw_s rfl rfl,
  fun a0 a1 a2 a3 a4 a5 y0 y1 st M Q => xw_brn (c0 := y1 ≠ y0) (c1 := y1 = y0) rfl rfl (Iff.rfl),
  fun a0 a1 a2 a3 a4 a5 st M Q => xw_s rfl rfl,
  fun a0 a1 a2 a3 a4 a5 st M Q => xw_s rfl rfl,
  fun a0 a1 a2 a3 a4 a5 st M Q => xw_s rfl rfl,
  fun a0 a1 a2 a3 a4 a5 st M Q => xw_s rfl rfl,
  fun a0 a1 a2 a3 a4 a5 y0 st M Q => xw_br (c0 := y0 = nI 0) rfl rfl,
  fun a0 a1 a2 a3 a4 a5 st M Q => xw_s rfl rfl,
  fun a0 a1 a2 a3 a4 a5 st M Q => xw_s rfl rfl,
  fun a0 a1 a2 a3 a4 a5 st M Q => xw_s rfl rfl,
  fun a0 a1 a2 a3 a4 a5 st M Q => xw_s rfl rfl,
  fun a0 a1 a2 a3 a4 a5 y0 y1 M Q => xw_call rfl rfl rfl,
  fun a0 a1 a2 a3 a4 a5 st M Q => xw_s rfl rfl,
  fun a0 a1 a2 a3 a4 a5 y0 y1 st M Q => xw_br (c0 := y1 = y0) rfl rfl,
  fun a0 a1 a2 a3 a4 a5 st M Q => xw_s rfl rfl,
  fun a0 a1 a2 a3 a4 a5 st M Q => xw_s rfl rfl,
  fun a0 a1 a2 a3 a4 a5 st M Q => xw_s rfl rfl,
  fun a0 a1 a2 a3 a4 a5 st M Q => xw_s rfl rfl,
  fun a0 a1 a2 a3 a4 a5 st M Q => xw_s rfl rfl,
  fun a0 a1 a2 a3 a4 a5 st M Q => xw_s rfl rfl,
  fun a0 a1 a2 a3 a4 a5 st M Q => xw_s rfl rfl,
  fun a0 a1 a2 a3 a4 a5 y0 y1 st M Q => xw_s rfl rfl,
  fun a0 a1 a2 a3 a4 a5 y0 y1 y3 y4 M Q => xw_call rfl rfl rfl,
  fun a0 a1 a2 a3 a4 a5 y0 y1 st M Q => xw_s rfl rfl,
  fun a0 a1 a2 a3 a4 a5 y0 y1 st M Q => xw_s rfl rfl,
  fun a0 a1 a2 a3 a4 a5 y0 st M Q => xw_s rfl rfl,
  fun a0 a1 a2 a3 a4 a5 st M Q => xw_s rfl rfl,
  fun a0 a1 a2 a3 a4 a5 st M Q => xw_s rfl rfl,
  fun a0 a1 a2 a3 a4 a5 st M Q => xw_s rfl rfl,
  fun a0 a1 a2 a3 a4 a5 st M Q => xw_s rfl rfl,
  fun a0 a1 a2 a3 a4 a5 y0 M Q => xw_ret rfl rfl⟩
set_option maxRecDepth 20000 in
theorem h118_4 :
  (∀ (a0 : Nat) (a1 : Int32) (a2 : Int32) (a3 : Int32) (a4 : Value) (a5 : Value) (st : List Value) (M : xM) (Q : Option Value → xM → Prop), xW xSC 118 4 [.ref a0, .int a1, .int a2, .int a3, a4, a5] (st) M Q = xW xSC 118 5 [.ref a0, .int a1, .int a2, .int a3, a4, a5] (.int a3 :: st) M Q) :=
  fun a0 a1 a2 a3 a4 a5 st M Q => xw_s rfl rfl
set_option maxRecDepth 20000 in
theorem h118_18 :
  (∀ (a0 : Nat) (a1 : Int32) (a2 : Int32) (a3 : Int32) (a4 : Int32) (a5 : Value) (st : List Value) (M : xM) (Q : Option Value → xM → Prop), xW xSC 118 18 [.ref a0, .int a1, .int a2, .int a3, .int a4, a5] (st) M Q = xW xSC 118 20 [.ref a0, .int a1, .int a2, .int a3, .int a4, a5] (.int a4 :: st) M Q) :=
  fun a0 a1 a2 a3 a4 a5 st M Q => xw_s rfl rfl
set_option maxRecDepth 20000 in
theorem h118_47 :
  (∀ (a0 : Nat) (a1 : Int32) (a2 : Int32) (a3 : Int32) (a4 : Int32) (a5 : Value) (y0 : Int32) (st : List Value) (M : xM) (Q : Option Value → xM → Prop), xW xSC 118 47 [.ref a0, .int a1, .int a2, .int a3, .int a4, a5] (.int y0 :: st) M Q = xW xSC 118 49 [.ref a0, .int a1, .int a2, .int a3, .int a4, .int y0] (st) M Q) :=
  fun a0 a1 a2 a3 a4 a5 y0 st M Q => xw_s rfl rfl
set_option maxRecDepth 20000 in
theorem h118_85 :
  (∀ (a0 : Nat) (a1 : Int32) (a2 : Int32) (a3 : Int32) (a4 : Int32) (a5 : Int32) (st : List Value) (M : xM) (Q : Option Value → xM → Prop), xW xSC 118 85 [.ref a0, .int a1, .int a2, .int a3, .int a4, .int a5] (st) M Q = xW xSC 118 88 [.ref a0, .int a1, .int a2, .int a3, .int (a4 + nI 1), .int a5] (st) M Q) :=
  fun a0 a1 a2 a3 a4 a5 st M Q => xw_s rfl rfl
set_option maxRecDepth 20000 in
theorem j118 :
  (∀ (a0 : Nat) (a1 : Int32) (a2 : Int32) (a3 : Int32) (a4 : Int32) (a5 : Value) (y0 : Int32) (st : List Value) (M : xM) (Q : Option Value → xM → Prop), xW xSC 118 47 [.ref a0, .int a1, .int a2, .int a3, .int a4, a5] (.int y0 :: st) M Q = xW xSC 118 49 [.ref a0, .int a1, .int a2, .int a3, .int a4, .int y0] (st) M Q) ∧
  (∀ (a0 : Nat) (a1 : Int32) (a2 : Int32) (a3 : Int32) (a4 : Int32) (a5 : Int32) (st : List Value) (M : xM) (Q : Option Value → xM → Prop), xW xSC 118 85 [.ref a0, .int a1, .int a2, .int a3, .int a4, .int a5] (st) M Q = xW xSC 118 88 [.ref a0, .int a1, .int a2, .int a3, .int (a4 + nI 1), .int a5] (st) M Q) :=
  ⟨fun a0 a1 a2 a3 a4 a5 y0 st M Q => xw_s rfl rfl,
  fun a0 a1 a2 a3 a4 a5 st M Q => xw_s rfl rfl⟩

set_option maxRecDepth 20000 in
theorem s119 :
  (∀ (a0 : Nat) (a1 : Int32) (a2 : Int32) (a3 : Int32) (a4 : Int32) (a5 : Value) (st : List Value) (M : xM) (Q : Option Value → xM → Prop), xW xSC 119 0 [.ref a0, .int a1, .int a2, .int a3, .int a4, a5] (st) M Q = xW xSC 119 1 [.ref a0, .int a1, .int a2, .int a3, .int a4, a5] (.ref a0 :: st) M Q) ∧
  (∀ (a0 : Nat) (a1 : Int32) (a2 : Int32) (a3 : Int32) (a4 : Int32) (a5 : Value) (st : List Value) (M : xM) (Q : Option Value → xM → Prop), xW xSC 119 1 [.ref a0, .int a1, .int a2, .int a3, .int a4, a5] (st) M Q = xW xSC 119 2 [.ref a0, .int a1, .int a2, .int a3, .int a4, a5] (.int a1 :: st) M Q) ∧
  (∀ (a0 : Nat) (a1 : Int32) (a2 : Int32) (a3 : Int32) (a4 : Int32) (a5 : Value) (st : List Value) (M : xM) (Q : Option Value → xM → Prop), xW xSC 119 2 [.ref a0, .int a1, .int a2, .int a3, .int a4, a5] (st) M Q = xW xSC 119 3 [.ref a0, .int a1, .int a2, .int a3, .int a4, a5] (.int a2 :: st) M Q) ∧
  (∀ (a0 : Nat) (a1 : Int32) (a2 : Int32) (a3 : Int32) (a4 : Int32) (a5 : Value) (y0 : Int32) (y1 : Int32) (M : xM) (Q : Option Value → xM → Prop), xW xSC 119 3 [.ref a0, .int a1, .int a2, .int a3, .int a4, a5] (.int y0 :: .int y1 :: .ref 0 :: []) M Q = xW xSC 133 0 [.ref 0, .int y1, .int y0] [] M (fun v M' => xW xSC 119 6 [.ref a0, .int a1, .int a2, .int a3, .int a4, a5] (xpush v []) M' Q)) ∧
  (∀ (a0 : Nat) (a1 : Int32) (a2 : Int32) (a3 : Int32) (a4 : Int32) (a5 : Value) (y0 : Int32) (st : List Value) (M : xM) (Q : Option Value → xM → Prop), xW xSC 119 6 [.ref a0, .int a1, .int a2, .int a3, .int a4, a5] (.int y0 :: st) M Q = if y0 = nI 0 then xW xSC 119 29 [.ref a0, .int a1, .int a2, .int a3, .int a4, a5] (st) M Q else xW xSC 119 9 [.ref a0, .int a1, .int a2, .int a3, .int a4, a5] (st) M Q) ∧
  (∀ (a0 : Nat) (a1 : Int32) (a2 : Int32) (a3 : Int32) (a4 : Int32) (a5 : Value) (st : List Value) (M : xM) (Q : Option Value → xM → Prop), xW xSC 119 9 [.ref a0, .int a1, .int a2, .int a3, .int a4, a5] (st) M Q = xW xSC 119 10 [.ref a0, .int a1, .int a2, .int a3, .int a4, a5] (.int a3 :: st) M Q) ∧
  (∀ (a0 : Nat) (a1 : Int32) (a2 : Int32) (a3 : Int32) (a4 : Int32) (a5 : Value) (st : List Value) (M : xM) (Q : Option Value → xM → Prop), xW xSC 119 10 [.ref a0, .int a1, .int a2, .int a3, .int a4, a5] (st) M Q = xW xSC 119 11 [.ref a0, .int a1, .int a2, .int a3, .int a4, a5] (.int (nI 0) :: st) M Q) ∧
  (∀ (a0 : Nat) (a1 : Int32) (a2 : Int32) (a3 : Int32) (a4 : Int32) (a5 : Value) (st : List Value) (M : xM) (Q : Option Value → xM → Prop), xW xSC 119 11 [.ref a0, .int a1, .int a2, .int a3, .int a4, a5] (st) M Q = xW xSC 119 13 [.ref a0, .int a1, .int a2, .int a3, .int a4, a5] (.int (nI 99) :: st) M Q) ∧
  (∀ (a0 : Nat) (a1 : Int32) (a2 : Int32) (a3 : Int32) (a4 : Int32) (a5 : Value) (y0 : Int32) (y1 : Int32) (y2 : Int32) (M : xM) (Q : Option Value → xM → Prop), xW xSC 119 13 [.ref a0, .int a1, .int a2, .int a3, .int a4, a5] (.int y0 :: .int y1 :: .int y2 :: []) M Q = xW xSC 132 0 [.int y2, .int y1, .int y0] [] M (fun v M' => xW xSC 119 16 [.ref a0, .int a1, .int a2, .int a3, .int a4, a5] (xpush v []) M' Q)) ∧
  (∀ (a0 : Nat) (a1 : Int32) (a2 : Int32) (a3 : Int32) (a4 : Int32) (a5 : Value) (y0 : Int32) (st : List Value) (M : xM) (Q : Option Value → xM → Prop), xW xSC 119 16 [.ref a0, .int a1, .int a2, .int a3, .int a4, a5] (.int y0 :: st) M Q = if y0 = nI 0 then xW xSC 119 29 [.ref a0, .int a1, .int a2, .int a3, .int a4, a5] (st) M Q else xW xSC 119 19 [.ref a0, .int a1, .int a2, .int a3, .int a4, a5] (st) M Q) ∧
  (∀ (a0 : Nat) (a1 : Int32) (a2 : Int32) (a3 : Int32) (a4 : Int32) (a5 : Value) (st : List Value) (M : xM) (Q : Option Value → xM → Prop), xW xSC 119 19 [.ref a0, .int a1, .int a2, .int a3, .int a4, a5] (st) M Q = xW xSC 119 21 [.ref a0, .int a1, .int a2, .int a3, .int a4, a5] (.int a4 :: st) M Q) ∧
  (∀ (a0 : Nat) (a1 : Int32) (a2 : Int32) (a3 : Int32) (a4 : Int32) (a5 : Value) (st : List Value) (M : xM) (Q : Option Value → xM → Prop), xW xSC 119 21 [.ref a0, .int a1, .int a2, .int a3, .int a4, a5] (st) M Q = xW xSC 119 22 [.ref a0, .int a1, .int a2, .int a3, .int a4, a5] (.int (nI 0) :: st) M Q) ∧
  (∀ (a0 : Nat) (a1 : Int32) (a2 : Int32) (a3 : Int32) (a4 : Int32) (a5 : Value) (st : List Value) (M : xM) (Q : Option Value → xM → Prop), xW xSC 119 22 [.ref a0, .int a1, .int a2, .int a3, .int a4, a5] (st) M Q = xW xSC 119 23 [.ref a0, .int a1, .int a2, .int a3, .int a4, a5] (.int (nI 1) :: st) M Q) ∧
  (∀ (a0 : Nat) (a1 : Int32) (a2 : Int32) (a3 : Int32) (a4 : Int32) (a5 : Value) (y0 : Int32) (y1 : Int32) (y2 : Int32) (M : xM) (Q : Option Value → xM → Prop), xW xSC 119 23 [.ref a0, .int a1, .int a2, .int a3, .int a4, a5] (.int y0 :: .int y1 :: .int y2 :: []) M Q = xW xSC 132 0 [.int y2, .int y1, .int y0] [] M (fun v M' => xW xSC 119 26 [.ref a0, .int a1, .int a2, .int a3, .int a4, a5] (xpush v []) M' Q)) ∧
  (∀ (a0 : Nat) (a1 : Int32) (a2 : Int32) (a3 : Int32) (a4 : Int32) (a5 : Value) (y0 : Int32) (st : List Value) (M : xM) (Q : Option Value → xM → Prop), xW xSC 119 26 [.ref a0, .int a1, .int a2, .int a3, .int a4, a5] (.int y0 :: st) M Q = if y0 = nI 0 then xW xSC 119 29 [.ref a0, .int a1, .int a2, .int a3, .int a4, a5] (st) M Q else xW xSC 119 31 [.ref a0, .int a1, .int a2, .int a3, .int a4, a5] (st) M Q) ∧
  (∀ (a0 : Nat) (a1 : Int32) (a2 : Int32) (a3 : Int32) (a4 : Int32) (a5 : Value) (y0 : Int32) (M : xM) (Q : Option Value → xM → Prop), xW xSC 119 30 [.ref a0, .int a1, .int a2, .int a3, .int a4, a5] ([.int y0]) M Q = Q (some (.int y0)) M) ∧
  (∀ (a0 : Nat) (a1 : Int32) (a2 : Int32) (a3 : Int32) (a4 : Int32) (a5 : Value) (st : List Value) (M : xM) (Q : Option Value → xM → Prop), xW xSC 119 31 [.ref a0, .int a1, .int a2, .int a3, .int a4, a5] (st) M Q = xW xSC 119 32 [.ref a0, .int a1, .int a2, .int a3, .int a4, a5] (.ref a0 :: st) M Q) ∧
  (∀ (a0 : Nat) (a1 : Int32) (a2 : Int32) (a3 : Int32) (a4 : Int32) (a5 : Value) (st : List Value) (M : xM) (Q : Option Value → xM → Prop), xW xSC 119 32 [.ref a0, .int a1, .int a2, .int a3, .int a4, a5] (.ref 0 :: st) M Q = xW xSC 119 35 [.ref a0, .int a1, .int a2, .int a3, .int a4, a5] (.ref 39 :: st) M Q) ∧
  (∀ (a0 : Nat) (a1 : Int32) (a2 : Int32) (a3 : Int32) (a4 : Int32) (a5 : Value) (st : List Value) (M : xM) (Q : Option Value → xM → Prop), xW xSC 119 35 [.ref a0, .int a1, .int a2, .int a3, .int a4, a5] (st) M Q = xW xSC 119 36 [.ref a0, .int a1, .int a2, .int a3, .int a4, a5] (.ref a0 :: st) M Q) ∧
  (∀ (a0 : Nat) (a1 : Int32) (a2 : Int32) (a3 : Int32) (a4 : Int32) (a5 : Value) (st : List Value) (M : xM) (Q : Option Value → xM → Prop), xW xSC 119 36 [.ref a0, .int a1, .int a2, .int a3, .int a4, a5] (.ref 0 :: st) M Q = xW xSC 119 39 [.ref a0, .int a1, .int a2, .int a3, .int a4, a5] (.ref 9 :: st) M Q) ∧
  (∀ (a0 : Nat) (a1 : Int32) (a2 : Int32) (a3 : Int32) (a4 : Int32) (a5 : Value) (st : List Value) (M : xM) (Q : Option Value → xM → Prop), xW xSC 119 39 [.ref a0, .int a1, .int a2, .int a3, .int a4, a5] (st) M Q = xW xSC 119 40 [.ref a0, .int a1, .int a2, .int a3, .int a4, a5] (.int a1 :: st) M Q) ∧
  (∀ (a0 : Nat) (a1 : Int32) (a2 : Int32) (a3 : Int32) (a4 : Int32) (a5 : Value) (st : List Value) (M : xM) (Q : Option Value → xM → Prop), xW xSC 119 40 [.ref a0, .int a1, .int a2, .int a3, .int a4, a5] (st) M Q = xW xSC 119 41 [.ref a0, .int a1, .int a2, .int a3, .int a4, a5] (.int a2 :: st) M Q) ∧
  (∀ (a0 : Nat) (a1 : Int32) (a2 : Int32) (a3 : Int32) (a4 : Int32) (a5 : Value) (st : List Value) (M : xM) (Q : Option Value → xM → Prop), xW xSC 119 41 [.ref a0, .int a1, .int a2, .int a3, .int a4, a5] (st) M Q = xW xSC 119 42 [.ref a0, .int a1, .int a2, .int a3, .int a4, a5] (.int a3 :: st) M Q) ∧
  (∀ (a0 : Nat) (a1 : Int32) (a2 : Int32) (a3 : Int32) (a4 : Int32) (a5 : Value) (y0 : Int32) (y1 : Int32) (y2 : Int32) (y3 : Nat) (M : xM) (Q : Option Value → xM → Prop), xW xSC 119 42 [.ref a0, .int a1, .int a2, .int a3, .int a4, a5] (.int y0 :: .int y1 :: .int y2 :: .ref y3 :: .ref 39 :: []) M Q = xW xSC 62 0 [.ref 39, .ref y3, .int y2, .int y1, .int y0, .null, .null, .null, .null, .null, .null, .null, .null, .null] [] M (fun v M' => xW xSC 119 45 [.ref a0, .int a1, .int a2, .int a3, .int a4, a5] (xpush v []) M' Q)) ∧
  (∀ (a0 : Nat) (a1 : Int32) (a2 : Int32) (a3 : Int32) (a4 : Int32) (a5 : Value) (y0 : Int32) (st : List Value) (M : xM) (Q : Option Value → xM → Prop), xW xSC 119 45 [.ref a0, .int a1, .int a2, .int a3, .int a4, a5] (.int y0 :: st) M Q = xW xSC 119 47 [.ref a0, .int a1, .int a2, .int a3, .int a4, .int y0] (st) M Q) ∧
  (∀ (a0 : Nat) (a1 : Int32) (a2 : Int32) (a3 : Int32) (a4 : Int32) (a5 : Int32) (st : List Value) (M : xM) (Q : Option Value → xM → Prop), xW xSC 119 47 [.ref a0, .int a1, .int a2, .int a3, .int a4, .int a5] (st) M Q = xW xSC 119 49 [.ref a0, .int a1, .int a2, .int a3, .int a4, .int a5] (.int a4 :: st) M Q) ∧
  (∀ (a0 : Nat) (a1 : Int32) (a2 : Int32) (a3 : Int32) (a4 : Int32) (a5 : Int32) (y0 : Int32) (st : List Value) (M : xM) (Q : Option Value → xM → Prop), xW xSC 119 49 [.ref a0, .int a1, .int a2, .int a3, .int a4, .int a5] (.int y0 :: st) M Q = if y0 = nI 0 then xW xSC 119 52 [.ref a0, .int a1, .int a2, .int a3, .int a4, .int a5] (st) M Q else xW xSC 119 57 [.ref a0, .int a1, .int a2, .int a3, .int a4, .int a5] (st) M Q) ∧
  (∀ (a0 : Nat) (a1 : Int32) (a2 : Int32) (a3 : Int32) (a4 : Int32) (a5 : Int32) (st : List Value) (M : xM) (Q : Option Value → xM → Prop), xW xSC 119 52 [.ref a0, .int a1, .int a2, .int a3, .int a4, .int a5] (st) M Q = xW xSC 119 54 [.ref a0, .int a1, .int a2, .int a3, .int a4, .int a5] (.int a5 :: st) M Q) ∧
  (∀ (a0 : Nat) (a1 : Int32) (a2 : Int32) (a3 : Int32) (a4 : Int32) (a5 : Int32) (st : List Value) (M : xM) (Q : Option Value → xM → Prop), xW xSC 119 54 [.ref a0, .int a1, .int a2, .int a3, .int a4, .int a5] (st) M Q = xW xSC 119 66 [.ref a0, .int a1, .int a2, .int a3, .int a4, .int a5] (st) M Q) ∧
  (∀ (a0 : Nat) (a1 : Int32) (a2 : Int32) (a3 : Int32) (a4 : Int32) (a5 : Int32) (st : List Value) (M : xM) (Q : Option Value → xM → Prop), xW xSC 119 57 [.ref a0, .int a1, .int a2, .int a3, .int a4, .int a5] (st) M Q = xW xSC 119 58 [.ref a0, .int a1, .int a2, .int a3, .int a4, .int a5] (.ref a0 :: st) M Q) ∧
  (∀ (a0 : Nat) (a1 : Int32) (a2 : Int32) (a3 : Int32) (a4 : Int32) (a5 : Int32) (st : List Value) (M : xM) (Q : Option Value → xM → Prop), xW xSC 119 58 [.ref a0, .int a1, .int a2, .int a3, .int a4, .int a5] (.ref 0 :: st) M Q = xW xSC 119 61 [.ref a0, .int a1, .int a2, .int a3, .int a4, .int a5] (.ref 9 :: st) M Q) ∧
  (∀ (a0 : Nat) (a1 : Int32) (a2 : Int32) (a3 : Int32) (a4 : Int32) (a5 : Int32) (st : List Value) (M : xM) (Q : Option Value → xM → Prop), xW xSC 119 61 [.ref a0, .int a1, .int a2, .int a3, .int a4, .int a5] (st) M Q = xW xSC 119 63 [.ref a0, .int a1, .int a2, .int a3, .int a4, .int a5] (.int a5 :: st) M Q) ∧
  (∀ (a0 : Nat) (a1 : Int32) (a2 : Int32) (a3 : Int32) (a4 : Int32) (a5 : Int32) (y0 : Int32) (M : xM) (Q : Option Value → xM → Prop), xW xSC 119 63 [.ref a0, .int a1, .int a2, .int a3, .int a4, .int a5] (.int y0 :: .ref 9 :: []) M Q = xW xSC 41 0 [.ref 9, .int y0, .null, .null] [] M (fun v M' => xW xSC 119 66 [.ref a0, .int a1, .int a2, .int a3, .int a4, .int a5] (xpush v []) M' Q)) :=
  ⟨fun a0 a1 a2 a3 a4 a5 st M Q => xw_s rfl rfl,
  fun a0 a1 a2 a3 a4 a5 st M Q => xw_s rfl rfl,
  fun a0 a1 a2 a3 a4 a5 st M Q => xw_s rfl rfl,
  fun a0 a1 a2 a3 a4 a5 y0 y1 M Q => xw_call rfl rfl rfl,
  fun a0 a1 a2 a3 a4 a5 y0 st M Q => xw_br (c0 := y0 = nI 0) rfl rfl,
  fun a0 a1 a2 a3 a4 a5 st M Q => xw_s rfl rfl,
  fun a0 a1 a2 a3 a4 a5 st M Q => xw_s rfl rfl,
  fun a0 a1 a2 a3 a4 a5 st M Q => xw_s rfl rfl,
  fun a0 a1 a2 a3 a4 a5 y0 y1 y2 M Q => xw_call rfl rfl rfl,
  fun a0 a1 a2 a3 a4 a5 y0 st M Q => xw_br (c0 := y0 = nI 0) rfl rfl,
  fun a0 a1 a2 a3 a4 a5 st M Q => xw_s rfl rfl,
  fun a0 a1 a2 a3 a4 a5 st M Q => xw_s rfl rfl,
  fun a0 a1 a2 a3 a4 a5 st M Q => xw_s rfl rfl,
  fun a0 a1 a2 a3 a4 a5 y0 y1 y2 M Q => xw_call rfl rfl rfl,
  fun a0 a1 a2 a3 a4 a5 y0 st M Q => xw_brn (c0 := y0 ≠ nI 0) (c1 := y0 = nI 0) rfl rfl (Iff.rfl),
  fun a0 a1 a2 a3 a4 a5 y0 M Q => xw_ret rfl rfl,
  fun a0 a1 a2 a3 a4 a5 st M Q => xw_s rfl rfl,
  fun a0 a1 a2 a3 a4 a5 st M Q => xw_s rfl rfl,
  fun a0 a1 a2 a3 a4 a5 st M Q => xw_s rfl rfl,
  fun a0 a1 a2 a3 a4 a5 st M Q => xw_s rfl rfl,
  fun a0 a1 a2 a3 a4 a5 st M Q => xw_s rfl rfl,
  fun a0 a1 a2 a3 a4 a5 st M Q => xw_s rfl rfl,
  fun a0 a1 a2 a3 a4 a5 st M Q => xw_s rfl rfl,
  fun a0 a1 a2 a3 a4 a5 y0 y1 y2 y3 M Q => xw_call rfl rfl rfl,
  fun a0 a1 a2 a3 a4 a5 y0 st M Q => xw_s rfl rfl,
  fun a0 a1 a2 a3 a4 a5 st M Q => xw_s rfl rfl,
  fun a0 a1 a2 a3 a4 a5 y0 st M Q => xw_brn (c0 := y0 ≠ nI 0) (c1 := y0 = nI 0) rfl rfl (Iff.rfl),
  fun a0 a1 a2 a3 a4 a5 st M Q => xw_s rfl rfl,
  fun a0 a1 a2 a3 a4 a5 st M Q => xw_s rfl rfl,
  fun a0 a1 a2 a3 a4 a5 st M Q => xw_s rfl rfl,
  fun a0 a1 a2 a3 a4 a5 st M Q => xw_s rfl rfl,
  fun a0 a1 a2 a3 a4 a5 st M Q => xw_s rfl rfl,
  fun a0 a1 a2 a3 a4 a5 y0 M Q => xw_call rfl rfl rfl⟩
set_option maxRecDepth 20000 in
theorem h119_29 :
  (∀ (a0 : Nat) (a1 : Int32) (a2 : Int32) (a3 : Int32) (a4 : Int32) (a5 : Value) (st : List Value) (M : xM) (Q : Option Value → xM → Prop), xW xSC 119 29 [.ref a0, .int a1, .int a2, .int a3, .int a4, a5] (st) M Q = xW xSC 119 30 [.ref a0, .int a1, .int a2, .int a3, .int a4, a5] (.int (-1) :: st) M Q) :=
  fun a0 a1 a2 a3 a4 a5 st M Q => xw_s rfl rfl
set_option maxRecDepth 20000 in
theorem h119_66 :
  (∀ (a0 : Nat) (a1 : Int32) (a2 : Int32) (a3 : Int32) (a4 : Int32) (a5 : Int32) (y0 : Int32) (M : xM) (Q : Option Value → xM → Prop), xW xSC 119 66 [.ref a0, .int a1, .int a2, .int a3, .int a4, .int a5] ([.int y0]) M Q = Q (some (.int y0)) M) :=
  fun a0 a1 a2 a3 a4 a5 y0 M Q => xw_ret rfl rfl
set_option maxRecDepth 20000 in
theorem j119 :
  (∀ (a0 : Nat) (a1 : Int32) (a2 : Int32) (a3 : Int32) (a4 : Int32) (a5 : Value) (st : List Value) (M : xM) (Q : Option Value → xM → Prop), xW xSC 119 29 [.ref a0, .int a1, .int a2, .int a3, .int a4, a5] (st) M Q = xW xSC 119 30 [.ref a0, .int a1, .int a2, .int a3, .int a4, a5] (.int (-1) :: st) M Q) ∧
  (∀ (a0 : Nat) (a1 : Int32) (a2 : Int32) (a3 : Int32) (a4 : Int32) (a5 : Int32) (y0 : Int32) (M : xM) (Q : Option Value → xM → Prop), xW xSC 119 66 [.ref a0, .int a1, .int a2, .int a3, .int a4, .int a5] ([.int y0]) M Q = Q (some (.int y0)) M) :=
  ⟨fun a0 a1 a2 a3 a4 a5 st M Q => xw_s rfl rfl,
  fun a0 a1 a2 a3 a4 a5 y0 M Q => xw_ret rfl rfl⟩

set_option maxRecDepth 20000 in
theorem s120 :
  (∀ (a0 : Nat) (a1 : Int32) (st : List Value) (M : xM) (Q : Option Value → xM → Prop), xW xSC 120 0 [.ref a0, .int a1] (st) M Q = xW xSC 120 1 [.ref a0, .int a1] (.int a1 :: st) M Q) ∧
  (∀ (a0 : Nat) (a1 : Int32) (st : List Value) (M : xM) (Q : Option Value → xM → Prop), xW xSC 120 1 [.ref a0, .int a1] (st) M Q = xW xSC 120 2 [.ref a0, .int a1] (.int (nI 0) :: st) M Q) ∧
  (∀ (a0 : Nat) (a1 : Int32) (st : List Value) (M : xM) (Q : Option Value → xM → Prop), xW xSC 120 2 [.ref a0, .int a1] (st) M Q = xW xSC 120 3 [.ref a0, .int a1] (.int (nI 1) :: st) M Q) ∧
  (∀ (a0 : Nat) (a1 : Int32) (y0 : Int32) (y1 : Int32) (y2 : Int32) (M : xM) (Q : Option Value → xM → Prop), xW xSC 120 3 [.ref a0, .int a1] (.int y0 :: .int y1 :: .int y2 :: []) M Q = xW xSC 132 0 [.int y2, .int y1, .int y0] [] M (fun v M' => xW xSC 120 6 [.ref a0, .int a1] (xpush v []) M' Q)) ∧
  (∀ (a0 : Nat) (a1 : Int32) (y0 : Int32) (st : List Value) (M : xM) (Q : Option Value → xM → Prop), xW xSC 120 6 [.ref a0, .int a1] (.int y0 :: st) M Q = if y0 = nI 0 then xW xSC 120 9 [.ref a0, .int a1] (st) M Q else xW xSC 120 11 [.ref a0, .int a1] (st) M Q) ∧
  (∀ (a0 : Nat) (a1 : Int32) (st : List Value) (M : xM) (Q : Option Value → xM → Prop), xW xSC 120 9 [.ref a0, .int a1] (st) M Q = xW xSC 120 10 [.ref a0, .int a1] (.int (-1) :: st) M Q) ∧
  (∀ (a0 : Nat) (a1 : Int32) (y0 : Int32) (M : xM) (Q : Option Value → xM → Prop), xW xSC 120 10 [.ref a0, .int a1] ([.int y0]) M Q = Q (some (.int y0)) M) ∧
  (∀ (a0 : Nat) (a1 : Int32) (st : List Value) (M : xM) (Q : Option Value → xM → Prop), xW xSC 120 11 [.ref a0, .int a1] (st) M Q = xW xSC 120 12 [.ref a0, .int a1] (.ref a0 :: st) M Q) ∧
  (∀ (a0 : Nat) (a1 : Int32) (st : List Value) (M : xM) (Q : Option Value → xM → Prop), xW xSC 120 12 [.ref a0, .int a1] (.ref 0 :: st) M Q = xW xSC 120 15 [.ref a0, .int a1] (.ref 39 :: st) M Q) ∧
  (∀ (a0 : Nat) (a1 : Int32) (st : List Value) (M : xM) (Q : Option Value → xM → Prop), xW xSC 120 15 [.ref a0, .int a1] (st) M Q = xW xSC 120 16 [.ref a0, .int a1] (.ref a0 :: st) M Q) ∧
  (∀ (a0 : Nat) (a1 : Int32) (st : List Value) (M : xM) (Q : Option Value → xM → Prop), xW xSC 120 16 [.ref a0, .int a1] (.ref 0 :: st) M Q = xW xSC 120 19 [.ref a0, .int a1] (.ref 9 :: st) M Q) ∧
  (∀ (a0 : Nat) (a1 : Int32) (y0 : Nat) (M : xM) (Q : Option Value → xM → Prop), xW xSC 120 19 [.ref a0, .int a1] (.ref y0 :: .ref 39 :: []) M Q = xW xSC 66 0 [.ref 39, .ref y0, .null, .null, .null, .null] [] M (fun v M' => xW xSC 120 22 [.ref a0, .int a1] (xpush v []) M' Q)) ∧
  (∀ (a0 : Nat) (a1 : Int32) (st : List Value) (M : xM) (Q : Option Value → xM → Prop), xW xSC 120 22 [.ref a0, .int a1] (st) M Q = xW xSC 120 23 [.ref a0, .int a1] (.int a1 :: st) M Q) ∧
  (∀ (a0 : Nat) (a1 : Int32) (y0 : Int32) (st : List Value) (M : xM) (Q : Option Value → xM → Prop), xW xSC 120 23 [.ref a0, .int a1] (.int y0 :: st) M Q = if y0 = nI 0 then xW xSC 120 26 [.ref a0, .int a1] (st) M Q else xW xSC 120 36 [.ref a0, .int a1] (st) M Q) ∧
  (∀ (a0 : Nat) (a1 : Int32) (st : List Value) (M : xM) (Q : Option Value → xM → Prop), xW xSC 120 26 [.ref a0, .int a1] (st) M Q = xW xSC 120 27 [.ref a0, .int a1] (.ref a0 :: st) M Q) ∧
  (∀ (a0 : Nat) (a1 : Int32) (st : List Value) (M : xM) (Q : Option Value → xM → Prop), xW xSC 120 27 [.ref a0, .int a1] (.ref 0 :: st) M Q = xW xSC 120 30 [.ref a0, .int a1] (.ref 39 :: st) M Q) ∧
  (∀ (a0 : Nat) (a1 : Int32) (st : List Value) (M : xM) (Q : Option Value → xM → Prop), xW xSC 120 30 [.ref a0, .int a1] (.ref 39 :: st) M Q = xW xSC 120 33 [.ref a0, .int a1] (.int (M 39 1) :: st) M Q) ∧
  (∀ (a0 : Nat) (a1 : Int32) (st : List Value) (M : xM) (Q : Option Value → xM → Prop), xW xSC 120 33 [.ref a0, .int a1] (st) M Q = xW xSC 120 43 [.ref a0, .int a1] (st) M Q) ∧
  (∀ (a0 : Nat) (a1 : Int32) (st : List Value) (M : xM) (Q : Option Value → xM → Prop), xW xSC 120 36 [.ref a0, .int a1] (st) M Q = xW xSC 120 37 [.ref a0, .int a1] (.ref a0 :: st) M Q) ∧
  (∀ (a0 : Nat) (a1 : Int32) (st : List Value) (M : xM) (Q : Option Value → xM → Prop), xW xSC 120 37 [.ref a0, .int a1] (.ref 0 :: st) M Q = xW xSC 120 40 [.ref a0, .int a1] (.ref 39 :: st) M Q) ∧
  (∀ (a0 : Nat) (a1 : Int32) (st : List Value) (M : xM) (Q : Option Value → xM → Prop), xW xSC 120 40 [.ref a0, .int a1] (.ref 39 :: st) M Q = xW xSC 120 43 [.ref a0, .int a1] (.int (M 39 2) :: st) M Q) :=
  ⟨fun a0 a1 st M Q => xw_s rfl rfl,
  fun a0 a1 st M Q => xw_s rfl rfl,
  fun a0 a1 st M Q => xw_s rfl rfl,
  fun a0 a1 y0 y1 y2 M Q => xw_call rfl rfl rfl,
  fun a0 a1 y0 st M Q => xw_brn (c0 := y0 ≠ nI 0) (c1 := y0 = nI 0) rfl rfl (Iff.rfl),
  fun a0 a1 st M Q => xw_s rfl rfl,
  fun a0 a1 y0 M Q => xw_ret rfl rfl,
  fun a0 a1 st M Q => xw_s rfl rfl,
  fun a0 a1 st M Q => xw_s rfl rfl,
  fun a0 a1 st M Q => xw_s rfl rfl,
  fun a0 a1 st M Q => xw_s rfl rfl,
  fun a0 a1 y0 M Q => xw_call rfl rfl rfl,
  fun a0 a1 st M Q => xw_s rfl rfl,
  fun a0 a1 y0 st M Q => xw_brn (c0 := y0 ≠ nI 0) (c1 := y0 = nI 0) rfl rfl (Iff.rfl),
  fun a0 a1 st M Q => xw_s rfl rfl,
  fun a0 a1 st M Q => xw_s rfl rfl,
  fun a0 a1 st M Q => xw_s rfl rfl,
  fun a0 a1 st M Q => xw_s rfl rfl,
  fun a0 a1 st M Q => xw_s rfl rfl,
  fun a0 a1 st M Q => xw_s rfl rfl,
  fun a0 a1 st M Q => xw_s rfl rfl⟩
set_option maxRecDepth 20000 in
theorem h120_43 :
  (∀ (a0 : Nat) (a1 : Int32) (y0 : Int32) (M : xM) (Q : Option Value → xM → Prop), xW xSC 120 43 [.ref a0, .int a1] ([.int y0]) M Q = Q (some (.int y0)) M) :=
  fun a0 a1 y0 M Q => xw_ret rfl rfl
set_option maxRecDepth 20000 in
theorem j120 :
  (∀ (a0 : Nat) (a1 : Int32) (y0 : Int32) (M : xM) (Q : Option Value → xM → Prop), xW xSC 120 43 [.ref a0, .int a1] ([.int y0]) M Q = Q (some (.int y0)) M) :=
  fun a0 a1 y0 M Q => xw_ret rfl rfl

set_option maxRecDepth 20000 in
theorem s121 :
  (∀ (a0 : Nat) (a1 : Int32) (st : List Value) (M : xM) (Q : Option Value → xM → Prop), xW xSC 121 0 [.ref a0, .int a1] (st) M Q = xW xSC 121 1 [.ref a0, .int a1] (.int a1 :: st) M Q) ∧
  (∀ (a0 : Nat) (a1 : Int32) (st : List Value) (M : xM) (Q : Option Value → xM → Prop), xW xSC 121 1 [.ref a0, .int a1] (st) M Q = xW xSC 121 2 [.ref a0, .int a1] (.int (nI 0) :: st) M Q) ∧
  (∀ (a0 : Nat) (a1 : Int32) (st : List Value) (M : xM) (Q : Option Value → xM → Prop), xW xSC 121 2 [.ref a0, .int a1] (st) M Q = xW xSC 121 3 [.ref a0, .int a1] (.int (nI 1) :: st) M Q) ∧
  (∀ (a0 : Nat) (a1 : Int32) (y0 : Int32) (y1 : Int32) (y2 : Int32) (M : xM) (Q : Option Value → xM → Prop), xW xSC 121 3 [.ref a0, .int a1] (.int y0 :: .int y1 :: .int y2 :: []) M Q = xW xSC 132 0 [.int y2, .int y1, .int y0] [] M (fun v M' => xW xSC 121 6 [.ref a0, .int a1] (xpush v []) M' Q)) ∧
  (∀ (a0 : Nat) (a1 : Int32) (y0 : Int32) (st : List Value) (M : xM) (Q : Option Value → xM → Prop), xW xSC 121 6 [.ref a0, .int a1] (.int y0 :: st) M Q = if y0 = nI 0 then xW xSC 121 9 [.ref a0, .int a1] (st) M Q else xW xSC 121 11 [.ref a0, .int a1] (st) M Q) ∧
  (∀ (a0 : Nat) (a1 : Int32) (st : List Value) (M : xM) (Q : Option Value → xM → Prop), xW xSC 121 9 [.ref a0, .int a1] (st) M Q = xW xSC 121 10 [.ref a0, .int a1] (.int (-1) :: st) M Q) ∧
  (∀ (a0 : Nat) (a1 : Int32) (y0 : Int32) (M : xM) (Q : Option Value → xM → Prop), xW xSC 121 10 [.ref a0, .int a1] ([.int y0]) M Q = Q (some (.int y0)) M) ∧
  (∀ (a0 : Nat) (a1 : Int32) (st : List Value) (M : xM) (Q : Option Value → xM → Prop), xW xSC 121 11 [.ref a0, .int a1] (st) M Q = xW xSC 121 12 [.ref a0, .int a1] (.ref a0 :: st) M Q) ∧
  (∀ (a0 : Nat) (a1 : Int32) (st : List Value) (M : xM) (Q : Option Value → xM → Prop), xW xSC 121 12 [.ref a0, .int a1] (.ref 0 :: st) M Q = xW xSC 121 15 [.ref a0, .int a1] (.ref 39 :: st) M Q) ∧
  (∀ (a0 : Nat) (a1 : Int32) (st : List Value) (M : xM) (Q : Option Value → xM → Prop), xW xSC 121 15 [.ref a0, .int a1] (st) M Q = xW xSC 121 16 [.ref a0, .int a1] (.ref a0 :: st) M Q) ∧
  (∀ (a0 : Nat) (a1 : Int32) (st : List Value) (M : xM) (Q : Option Value → xM → Prop), xW xSC 121 16 [.ref a0, .int a1] (.ref 0 :: st) M Q = xW xSC 121 19 [.ref a0, .int a1] (.ref 9 :: st) M Q) ∧
  (∀ (a0 : Nat) (a1 : Int32) (y0 : Nat) (M : xM) (Q : Option Value → xM → Prop), xW xSC 121 19 [.ref a0, .int a1] (.ref y0 :: .ref 39 :: []) M Q = xW xSC 67 0 [.ref 39, .ref y0, .null, .null, .null, .null, .null] [] M (fun v M' => xW xSC 121 22 [.ref a0, .int a1] (xpush v []) M' Q)) ∧
  (∀ (a0 : Nat) (a1 : Int32) (st : List Value) (M : xM) (Q : Option Value → xM → Prop), xW xSC 121 22 [.ref a0, .int a1] (st) M Q = xW xSC 121 23 [.ref a0, .int a1] (.int a1 :: st) M Q) ∧
  (∀ (a0 : Nat) (a1 : Int32) (y0 : Int32) (st : List Value) (M : xM) (Q : Option Value → xM → Prop), xW xSC 121 23 [.ref a0, .int a1] (.int y0 :: st) M Q = if y0 = nI 0 then xW xSC 121 26 [.ref a0, .int a1] (st) M Q else xW xSC 121 34 [.ref a0, .int a1] (st) M Q) ∧
  (∀ (a0 : Nat) (a1 : Int32) (st : List Value) (M : xM) (Q : Option Value → xM → Prop), xW xSC 121 26 [.ref a0, .int a1] (st) M Q = xW xSC 121 27 [.ref a0, .int a1] (.ref a0 :: st) M Q) ∧
  (∀ (a0 : Nat) (a1 : Int32) (st : List Value) (M : xM) (Q : Option Value → xM → Prop), xW xSC 121 27 [.ref a0, .int a1] (.ref 0 :: st) M Q = xW xSC 121 30 [.ref a0, .int a1] (.ref 39 :: st) M Q) ∧
  (∀ (a0 : Nat) (a1 : Int32) (st : List Value) (M : xM) (Q : Option Value → xM → Prop), xW xSC 121 30 [.ref a0, .int a1] (.ref 39 :: st) M Q = xW xSC 121 33 [.ref a0, .int a1] (.int (M 39 3) :: st) M Q) ∧
  (∀ (a0 : Nat) (a1 : Int32) (y0 : Int32) (M : xM) (Q : Option Value → xM → Prop), xW xSC 121 33 [.ref a0, .int a1] ([.int y0]) M Q = Q (some (.int y0)) M) ∧
  (∀ (a0 : Nat) (a1 : Int32) (st : List Value) (M : xM) (Q : Option Value → xM → Prop), xW xSC 121 34 [.ref a0, .int a1] (st) M Q = xW xSC 121 35 [.ref a0, .int a1] (.ref a0 :: st) M Q) ∧
  (∀ (a0 : Nat) (a1 : Int32) (st : List Value) (M : xM) (Q : Option Value → xM → Prop), xW xSC 121 35 [.ref a0, .int a1] (.ref 0 :: st) M Q = xW xSC 121 38 [.ref a0, .int a1] (.ref 39 :: st) M Q) ∧
  (∀ (a0 : Nat) (a1 : Int32) (st : List Value) (M : xM) (Q : Option Value → xM → Prop), xW xSC 121 38 [.ref a0, .int a1] (.ref 39 :: st) M Q = xW xSC 121 41 [.ref a0, .int a1] (.int (M 39 3) :: st) M Q) ∧
  (∀ (a0 : Nat) (a1 : Int32) (y0 : Int32) (st : List Value) (M : xM) (Q : Option Value → xM → Prop), xW xSC 121 41 [.ref a0, .int a1] (.int y0 :: st) M Q = if y0 = nI 0 then xW xSC 121 44 [.ref a0, .int a1] (st) M Q else xW xSC 121 49 [.ref a0, .int a1] (st) M Q) ∧
  (∀ (a0 : Nat) (a1 : Int32) (st : List Value) (M : xM) (Q : Option Value → xM → Prop), xW xSC 121 44 [.ref a0, .int a1] (st) M Q = xW xSC 121 46 [.ref a0, .int a1] (.int (-4) :: st) M Q) ∧
  (∀ (a0 : Nat) (a1 : Int32) (st : List Value) (M : xM) (Q : Option Value → xM → Prop), xW xSC 121 46 [.ref a0, .int a1] (st) M Q = xW xSC 121 56 [.ref a0, .int a1] (st) M Q) ∧
  (∀ (a0 : Nat) (a1 : Int32) (st : List Value) (M : xM) (Q : Option Value → xM → Prop), xW xSC 121 49 [.ref a0, .int a1] (st) M Q = xW xSC 121 50 [.ref a0, .int a1] (.ref a0 :: st) M Q) ∧
  (∀ (a0 : Nat) (a1 : Int32) (st : List Value) (M : xM) (Q : Option Value → xM → Prop), xW xSC 121 50 [.ref a0, .int a1] (.ref 0 :: st) M Q = xW xSC 121 53 [.ref a0, .int a1] (.ref 39 :: st) M Q) ∧
  (∀ (a0 : Nat) (a1 : Int32) (st : List Value) (M : xM) (Q : Option Value → xM → Prop), xW xSC 121 53 [.ref a0, .int a1] (.ref 39 :: st) M Q = xW xSC 121 56 [.ref a0, .int a1] (.int (M 39 4) :: st) M Q) :=
  ⟨fun a0 a1 st M Q => xw_s rfl rfl,
  fun a0 a1 st M Q => xw_s rfl rfl,
  fun a0 a1 st M Q => xw_s rfl rfl,
  fun a0 a1 y0 y1 y2 M Q => xw_call rfl rfl rfl,
  fun a0 a1 y0 st M Q => xw_brn (c0 := y0 ≠ nI 0) (c1 := y0 = nI 0) rfl rfl (Iff.rfl),
  fun a0 a1 st M Q => xw_s rfl rfl,
  fun a0 a1 y0 M Q => xw_ret rfl rfl,
  fun a0 a1 st M Q => xw_s rfl rfl,
  fun a0 a1 st M Q => xw_s rfl rfl,
  fun a0 a1 st M Q => xw_s rfl rfl,
  fun a0 a1 st M Q => xw_s rfl rfl,
  fun a0 a1 y0 M Q => xw_call rfl rfl rfl,
  fun a0 a1 st M Q => xw_s rfl rfl,
  fun a0 a1 y0 st M Q => xw_brn (c0 := y0 ≠ nI 0) (c1 := y0 = nI 0) rfl rfl (Iff.rfl),
  fun a0 a1 st M Q => xw_s rfl rfl,
  fun a0 a1 st M Q => xw_s rfl rfl,
  fun a0 a1 st M Q => xw_s rfl rfl,
  fun a0 a1 y0 M Q => xw_ret rfl rfl,
  fun a0 a1 st M Q => xw_s rfl rfl,
  fun a0 a1 st M Q => xw_s rfl rfl,
  fun a0 a1 st M Q => xw_s rfl rfl,
  fun a0 a1 y0 st M Q => xw_brn (c0 := y0 ≠ nI 0) (c1 := y0 = nI 0) rfl rfl (Iff.rfl),
  fun a0 a1 st M Q => xw_s rfl rfl,
  fun a0 a1 st M Q => xw_s rfl rfl,
  fun a0 a1 st M Q => xw_s rfl rfl,
  fun a0 a1 st M Q => xw_s rfl rfl,
  fun a0 a1 st M Q => xw_s rfl rfl⟩
set_option maxRecDepth 20000 in
theorem h121_56 :
  (∀ (a0 : Nat) (a1 : Int32) (y0 : Int32) (M : xM) (Q : Option Value → xM → Prop), xW xSC 121 56 [.ref a0, .int a1] ([.int y0]) M Q = Q (some (.int y0)) M) :=
  fun a0 a1 y0 M Q => xw_ret rfl rfl
set_option maxRecDepth 20000 in
theorem j121 :
  (∀ (a0 : Nat) (a1 : Int32) (y0 : Int32) (M : xM) (Q : Option Value → xM → Prop), xW xSC 121 56 [.ref a0, .int a1] ([.int y0]) M Q = Q (some (.int y0)) M) :=
  fun a0 a1 y0 M Q => xw_ret rfl rfl

set_option maxRecDepth 20000 in
theorem s122 :
  (∀ (a0 : Nat) (a1 : Int32) (a2 : Value) (st : List Value) (M : xM) (Q : Option Value → xM → Prop), xW xSC 122 0 [.ref a0, .int a1, a2] (st) M Q = xW xSC 122 1 [.ref a0, .int a1, a2] (.int a1 :: st) M Q) ∧
  (∀ (a0 : Nat) (a1 : Int32) (a2 : Value) (st : List Value) (M : xM) (Q : Option Value → xM → Prop), xW xSC 122 1 [.ref a0, .int a1, a2] (st) M Q = xW xSC 122 2 [.ref a0, .int a1, a2] (.int (nI 0) :: st) M Q) ∧
  (∀ (a0 : Nat) (a1 : Int32) (a2 : Value) (st : List Value) (M : xM) (Q : Option Value → xM → Prop), xW xSC 122 2 [.ref a0, .int a1, a2] (st) M Q = xW xSC 122 3 [.ref a0, .int a1, a2] (.int (nI 5) :: st) M Q) ∧
  (∀ (a0 : Nat) (a1 : Int32) (a2 : Value) (y0 : Int32) (y1 : Int32) (y2 : Int32) (M : xM) (Q : Option Value → xM → Prop), xW xSC 122 3 [.ref a0, .int a1, a2] (.int y0 :: .int y1 :: .int y2 :: []) M Q = xW xSC 132 0 [.int y2, .int y1, .int y0] [] M (fun v M' => xW xSC 122 6 [.ref a0, .int a1, a2] (xpush v []) M' Q)) ∧
  (∀ (a0 : Nat) (a1 : Int32) (a2 : Value) (y0 : Int32) (st : List Value) (M : xM) (Q : Option Value → xM → Prop), xW xSC 122 6 [.ref a0, .int a1, a2] (.int y0 :: st) M Q = if y0 = nI 0 then xW xSC 122 9 [.ref a0, .int a1, a2] (st) M Q else xW xSC 122 11 [.ref a0, .int a1, a2] (st) M Q) ∧
  (∀ (a0 : Nat) (a1 : Int32) (a2 : Value) (st : List Value) (M : xM) (Q : Option Value → xM → Prop), xW xSC 122 9 [.ref a0, .int a1, a2] (st) M Q = xW xSC 122 10 [.ref a0, .int a1, a2] (.int (-1) :: st) M Q) ∧
  (∀ (a0 : Nat) (a1 : Int32) (a2 : Value) (y0 : Int32) (M : xM) (Q : Option Value → xM → Prop), xW xSC 122 10 [.ref a0, .int a1, a2] ([.int y0]) M Q = Q (some (.int y0)) M) ∧
  (∀ (a0 : Nat) (a1 : Int32) (a2 : Value) (st : List Value) (M : xM) (Q : Option Value → xM → Prop), xW xSC 122 11 [.ref a0, .int a1, a2] (st) M Q = xW xSC 122 12 [.ref a0, .int a1, a2] (.ref a0 :: st) M Q) ∧
  (∀ (a0 : Nat) (a1 : Int32) (a2 : Value) (st : List Value) (M : xM) (Q : Option Value → xM → Prop), xW xSC 122 12 [.ref a0, .int a1, a2] (.ref 0 :: st) M Q = xW xSC 122 15 [.ref a0, .int a1, a2] (.ref 39 :: st) M Q) ∧
  (∀ (a0 : Nat) (a1 : Int32) (a2 : Value) (st : List Value) (M : xM) (Q : Option Value → xM → Prop), xW xSC 122 15 [.ref a0, .int a1, a2] (st) M Q = xW xSC 122 16 [.ref a0, .int a1, a2] (.ref a0 :: st) M Q) ∧
  (∀ (a0 : Nat) (a1 : Int32) (a2 : Value) (st : List Value) (M : xM) (Q : Option Value → xM → Prop), xW xSC 122 16 [.ref a0, .int a1, a2] (.ref 0 :: st) M Q = xW xSC 122 19 [.ref a0, .int a1, a2] (.ref 9 :: st) M Q) ∧
  (∀ (a0 : Nat) (a1 : Int32) (a2 : Value) (st : List Value) (M : xM) (Q : Option Value → xM → Prop), xW xSC 122 19 [.ref a0, .int a1, a2] (st) M Q = xW xSC 122 21 [.ref a0, .int a1, a2] (.int (nI 63) :: st) M Q) ∧
  (∀ (a0 : Nat) (a1 : Int32) (a2 : Value) (st : List Value) (M : xM) (Q : Option Value → xM → Prop), xW xSC 122 21 [.ref a0, .int a1, a2] (st) M Q = xW xSC 122 22 [.ref a0, .int a1, a2] (.int (nI 1) :: st) M Q) ∧
  (∀ (a0 : Nat) (a1 : Int32) (a2 : Value) (st : List Value) (M : xM) (Q : Option Value → xM → Prop), xW xSC 122 22 [.ref a0, .int a1, a2] (st) M Q = xW xSC 122 23 [.ref a0, .int a1, a2] (.int a1 :: st) M Q) ∧
  (∀ (a0 : Nat) (a1 : Int32) (a2 : Value) (y0 : Int32) (y1 : Int32) (st : List Value) (M : xM) (Q : Option Value → xM → Prop), xW xSC 122 23 [.ref a0, .int a1, a2] (.int y0 :: .int y1 :: st) M Q = xW xSC 122 24 [.ref a0, .int a1, a2] (.int (y1 <<< (y0 &&& nI 31)) :: st) M Q) ∧
  (∀ (a0 : Nat) (a1 : Int32) (a2 : Value) (st : List Value) (M : xM) (Q : Option Value → xM → Prop), xW xSC 122 24 [.ref a0, .int a1, a2] (st) M Q = xW xSC 122 25 [.ref a0, .int a1, a2] (.int (-1) :: st) M Q) ∧
  (∀ (a0 : Nat) (a1 : Int32) (a2 : Value) (y0 : Int32) (y1 : Int32) (st : List Value) (M : xM) (Q : Option Value → xM → Prop), xW xSC 122 25 [.ref a0, .int a1, a2] (.int y0 :: .int y1 :: st) M Q = xW xSC 122 26 [.ref a0, .int a1, a2] (.int (y1 ^^^ y0) :: st) M Q) ∧
  (∀ (a0 : Nat) (a1 : Int32) (a2 : Value) (y0 : Int32) (y1 : Int32) (st : List Value) (M : xM) (Q : Option Value → xM → Prop), xW xSC 122 26 [.ref a0, .int a1, a2] (.int y0 :: .int y1 :: st) M Q = xW xSC 122 27 [.ref a0, .int a1, a2] (.int (y1 &&& y0) :: st) M Q) ∧
  (∀ (a0 : Nat) (a1 : Int32) (a2 : Value) (y0 : Int32) (y1 : Nat) (M : xM) (Q : Option Value → xM → Prop), xW xSC 122 27 [.ref a0, .int a1, a2] (.int y0 :: .ref y1 :: .ref 39 :: []) M Q = xW xSC 65 0 [.ref 39, .ref y1, .int y0, .null, .null] [] M (fun v M' => xW xSC 122 30 [.ref a0, .int a1, a2] (xpush v []) M' Q)) ∧
  (∀ (a0 : Nat) (a1 : Int32) (a2 : Value) (y0 : Int32) (st : List Value) (M : xM) (Q : Option Value → xM → Prop), xW xSC 122 30 [.ref a0, .int a1, a2] (.int y0 :: st) M Q = xW xSC 122 31 [.ref a0, .int a1, .int y0] (st) M Q) ∧
  (∀ (a0 : Nat) (a1 : Int32) (a2 : Int32) (st : List Value) (M : xM) (Q : Option Value → xM → Prop), xW xSC 122 31 [.ref a0, .int a1, .int a2] (st) M Q = xW xSC 122 34 [.ref a0, .int a1, .int a2] (.int (nI 20000) :: st) M Q) ∧
  (∀ (a0 : Nat) (a1 : Int32) (a2 : Int32) (st : List Value) (M : xM) (Q : Option Value → xM → Prop), xW xSC 122 34 [.ref a0, .int a1, .int a2] (st) M Q = xW xSC 122 35 [.ref a0, .int a1, .int a2] (.int a2 :: st) M Q) ∧
  (∀ (a0 : Nat) (a1 : Int32) (a2 : Int32) (y0 : Int32) (y1 : Int32) (st : List Value) (M : xM) (Q : Option Value → xM → Prop), xW xSC 122 35 [.ref a0, .int a1, .int a2] (.int y0 :: .int y1 :: st) M Q = xW xSC 122 36 [.ref a0, .int a1, .int a2] (.int (y1 + y0) :: st) M Q) ∧
  (∀ (a0 : Nat) (a1 : Int32) (a2 : Int32) (st : List Value) (M : xM) (Q : Option Value → xM → Prop), xW xSC 122 36 [.ref a0, .int a1, .int a2] (st) M Q = xW xSC 122 37 [.ref a0, .int a1, .int a2] (.ref a0 :: st) M Q) ∧
  (∀ (a0 : Nat) (a1 : Int32) (a2 : Int32) (st : List Value) (M : xM) (Q : Option Value → xM → Prop), xW xSC 122 37 [.ref a0, .int a1, .int a2] (.ref 0 :: st) M Q = xW xSC 122 40 [.ref a0, .int a1, .int a2] (.ref 39 :: st) M Q) ∧
  (∀ (a0 : Nat) (a1 : Int32) (a2 : Int32) (st : List Value) (M : xM) (Q : Option Value → xM → Prop), xW xSC 122 40 [.ref a0, .int a1, .int a2] (st) M Q = xW xSC 122 41 [.ref a0, .int a1, .int a2] (.ref a0 :: st) M Q) ∧
  (∀ (a0 : Nat) (a1 : Int32) (a2 : Int32) (st : List Value) (M : xM) (Q : Option Value → xM → Prop), xW xSC 122 41 [.ref a0, .int a1, .int a2] (.ref 0 :: st) M Q = xW xSC 122 44 [.ref a0, .int a1, .int a2] (.ref 9 :: st) M Q) ∧
  (∀ (a0 : Nat) (a1 : Int32) (a2 : Int32) (st : List Value) (M : xM) (Q : Option Value → xM → Prop), xW xSC 122 44 [.ref a0, .int a1, .int a2] (st) M Q = xW xSC 122 46 [.ref a0, .int a1, .int a2] (.int (nI 63) :: st) M Q) ∧
  (∀ (a0 : Nat) (a1 : Int32) (a2 : Int32) (y0 : Int32) (y1 : Nat) (y3 : Int32) (M : xM) (Q : Option Value → xM → Prop), xW xSC 122 46 [.ref a0, .int a1, .int a2] (.int y0 :: .ref y1 :: .ref 39 :: .int y3 :: []) M Q = xW xSC 65 0 [.ref 39, .ref y1, .int y0, .null, .null] [] M (fun v M' => xW xSC 122 49 [.ref a0, .int a1, .int a2] (xpush v [.int y3]) M' Q)) ∧
  (∀ (a0 : Nat) (a1 : Int32) (a2 : Int32) (y0 : Int32) (y1 : Int32) (st : List Value) (M : xM) (Q : Option Value → xM → Prop), xW xSC 122 49 [.ref a0, .int a1, .int a2] (.int y0 :: .int y1 :: st) M Q = xW xSC 122 50 [.ref a0, .int a1, .int a2] (.int (y1 - y0) :: st) M Q) ∧
  (∀ (a0 : Nat) (a1 : Int32) (a2 : Int32) (y0 : Int32) (M : xM) (Q : Option Value → xM → Prop), xW xSC 122 50 [.ref a0, .int a1, .int a2] ([.int y0]) M Q = Q (some (.int y0)) M) :=
  ⟨fun a0 a1 a2 st M Q => xw_s rfl rfl,
  fun a0 a1 a2 st M Q => xw_s rfl rfl,
  fun a0 a1 a2 st M Q => xw_s rfl rfl,
  fun a0 a1 a2 y0 y1 y2 M Q => xw_call rfl rfl rfl,
  fun a0 a1 a2 y0 st M Q => xw_brn (c0 := y0 ≠ nI 0) (c1 := y0 = nI 0) rfl rfl (Iff.rfl),
  fun a0 a1 a2 st M Q => xw_s rfl rfl,
  fun a0 a1 a2 y0 M Q => xw_ret rfl rfl,
  fun a0 a1 a2 st M Q => xw_s rfl rfl,
  fun a0 a1 a2 st M Q => xw_s rfl rfl,
  fun a0 a1 a2 st M Q => xw_s rfl rfl,
  fun a0 a1 a2 st M Q => xw_s rfl rfl,
  fun a0 a1 a2 st M Q => xw_s rfl rfl,
  fun a0 a1 a2 st M Q => xw_s rfl rfl,
  fun a0 a1 a2 st M Q => xw_s rfl rfl,
  fun a0 a1 a2 y0 y1 st M Q => xw_s rfl rfl,
  fun a0 a1 a2 st M Q => xw_s rfl rfl,
  fun a0 a1 a2 y0 y1 st M Q => xw_s rfl rfl,
  fun a0 a1 a2 y0 y1 st M Q => xw_s rfl rfl,
  fun a0 a1 a2 y0 y1 M Q => xw_call rfl rfl rfl,
  fun a0 a1 a2 y0 st M Q => xw_s rfl rfl,
  fun a0 a1 a2 st M Q => xw_s rfl rfl,
  fun a0 a1 a2 st M Q => xw_s rfl rfl,
  fun a0 a1 a2 y0 y1 st M Q => xw_s rfl rfl,
  fun a0 a1 a2 st M Q => xw_s rfl rfl,
  fun a0 a1 a2 st M Q => xw_s rfl rfl,
  fun a0 a1 a2 st M Q => xw_s rfl rfl,
  fun a0 a1 a2 st M Q => xw_s rfl rfl,
  fun a0 a1 a2 st M Q => xw_s rfl rfl,
  fun a0 a1 a2 y0 y1 y3 M Q => xw_call rfl rfl rfl,
  fun a0 a1 a2 y0 y1 st M Q => xw_s rfl rfl,
  fun a0 a1 a2 y0 M Q => xw_ret rfl rfl⟩
theorem j122 : True := trivial

set_option maxRecDepth 20000 in
theorem s123 :
  (∀ (a0 : Nat) (a1 : Int32) (a2 : Int32) (a3 : Int32) (a4 : Value) (a5 : Value) (st : List Value) (M : xM) (Q : Option Value → xM → Prop), xW xSC 123 0 [.ref a0, .int a1, .int a2, .int a3, a4, a5] (st) M Q = xW xSC 123 1 [.ref a0, .int a1, .int a2, .int a3, a4, a5] (.int a3 :: st) M Q) ∧
  (∀ (a0 : Nat) (a1 : Int32) (a2 : Int32) (a3 : Int32) (a4 : Value) (a5 : Value) (st : List Value) (M : xM) (Q : Option Value → xM → Prop), xW xSC 123 1 [.ref a0, .int a1, .int a2, .int a3, a4, a5] (st) M Q = xW xSC 123 2 [.ref a0, .int a1, .int a2, .int a3, a4, a5] (.int (-1) :: st) M Q) ∧
  (∀ (a0 : Nat) (a1 : Int32) (a2 : Int32) (a3 : Int32) (a4 : Value) (a5 : Value) (y0 : Int32) (y1 : Int32) (st : List Value) (M : xM) (Q : Option Value → xM → Prop), xW xSC 123 2 [.ref a0, .int a1, .int a2, .int a3, a4, a5] (.int y0 :: .int y1 :: st) M Q = if y1 = y0 then xW xSC 123 5 [.ref a0, .int a1, .int a2, .int a3, a4, a5] (st) M Q else xW xSC 123 9 [.ref a0, .int a1, .int a2, .int a3, a4, a5] (st) M Q) ∧
  (∀ (a0 : Nat) (a1 : Int32) (a2 : Int32) (a3 : Int32) (a4 : Value) (a5 : Value) (st : List Value) (M : xM) (Q : Option Value → xM → Prop), xW xSC 123 5 [.ref a0, .int a1, .int a2, .int a3, a4, a5] (st) M Q = xW xSC 123 6 [.ref a0, .int a1, .int a2, .int a3, a4, a5] (.int (nI 1) :: st) M Q) ∧
  (∀ (a0 : Nat) (a1 : Int32) (a2 : Int32) (a3 : Int32) (a4 : Value) (a5 : Value) (st : List Value) (M : xM) (Q : Option Value → xM → Prop), xW xSC 123 6 [.ref a0, .int a1, .int a2, .int a3, a4, a5] (st) M Q = xW xSC 123 10 [.ref a0, .int a1, .int a2, .int a3, a4, a5] (st) M Q) ∧
  (∀ (a0 : Nat) (a1 : Int32) (a2 : Int32) (a3 : Int32) (a4 : Value) (a5 : Value) (st : List Value) (M : xM) (Q : Option Value → xM → Prop), xW xSC 123 9 [.ref a0, .int a1, .int a2, .int a3, a4, a5] (st) M Q = xW xSC 123 10 [.ref a0, .int a1, .int a2, .int a3, a4, a5] (.int (nI 0) :: st) M Q) ∧
  (∀ (a0 : Nat) (a1 : Int32) (a2 : Int32) (a3 : Int32) (a4 : Int32) (a5 : Value) (st : List Value) (M : xM) (Q : Option Value → xM → Prop), xW xSC 123 12 [.ref a0, .int a1, .int a2, .int a3, .int a4, a5] (st) M Q = xW xSC 123 13 [.ref a0, .int a1, .int a2, .int a3, .int a4, a5] (.int a1 :: st) M Q) ∧
  (∀ (a0 : Nat) (a1 : Int32) (a2 : Int32) (a3 : Int32) (a4 : Int32) (a5 : Value) (st : List Value) (M : xM) (Q : Option Value → xM → Prop), xW xSC 123 13 [.ref a0, .int a1, .int a2, .int a3, .int a4, a5] (st) M Q = xW xSC 123 14 [.ref a0, .int a1, .int a2, .int a3, .int a4, a5] (.int (nI 1) :: st) M Q) ∧
  (∀ (a0 : Nat) (a1 : Int32) (a2 : Int32) (a3 : Int32) (a4 : Int32) (a5 : Value) (st : List Value) (M : xM) (Q : Option Value → xM → Prop), xW xSC 123 14 [.ref a0, .int a1, .int a2, .int a3, .int a4, a5] (st) M Q = xW xSC 123 16 [.ref a0, .int a1, .int a2, .int a3, .int a4, a5] (.int (nI 99) :: st) M Q) ∧
  (∀ (a0 : Nat) (a1 : Int32) (a2 : Int32) (a3 : Int32) (a4 : Int32) (a5 : Value) (y0 : Int32) (y1 : Int32) (y2 : Int32) (M : xM) (Q : Option Value → xM → Prop), xW xSC 123 16 [.ref a0, .int a1, .int a2, .int a3, .int a4, a5] (.int y0 :: .int y1 :: .int y2 :: []) M Q = xW xSC 132 0 [.int y2, .int y1, .int y0] [] M (fun v M' => xW xSC 123 19 [.ref a0, .int a1, .int a2, .int a3, .int a4, a5] (xpush v []) M' Q)) ∧
  (∀ (a0 : Nat) (a1 : Int32) (a2 : Int32) (a3 : Int32) (a4 : Int32) (a5 : Value) (y0 : Int32) (st : List Value) (M : xM) (Q : Option Value → xM → Prop), xW xSC 123 19 [.ref a0, .int a1, .int a2, .int a3, .int a4, a5] (.int y0 :: st) M Q = if y0 = nI 0 then xW xSC 123 49 [.ref a0, .int a1, .int a2, .int a3, .int a4, a5] (st) M Q else xW xSC 123 22 [.ref a0, .int a1, .int a2, .int a3, .int a4, a5] (st) M Q) ∧
  (∀ (a0 : Nat) (a1 : Int32) (a2 : Int32) (a3 : Int32) (a4 : Int32) (a5 : Value) (st : List Value) (M : xM) (Q : Option Value → xM → Prop), xW xSC 123 22 [.ref a0, .int a1, .int a2, .int a3, .int a4, a5] (st) M Q = xW xSC 123 23 [.ref a0, .int a1, .int a2, .int a3, .int a4, a5] (.ref a0 :: st) M Q) ∧
  (∀ (a0 : Nat) (a1 : Int32) (a2 : Int32) (a3 : Int32) (a4 : Int32) (a5 : Value) (st : List Value) (M : xM) (Q : Option Value → xM → Prop), xW xSC 123 23 [.ref a0, .int a1, .int a2, .int a3, .int a4, a5] (.ref 0 :: st) M Q = xW xSC 123 26 [.ref a0, .int a1, .int a2, .int a3, .int a4, a5] (.ref 9 :: st) M Q) ∧
  (∀ (a0 : Nat) (a1 : Int32) (a2 : Int32) (a3 : Int32) (a4 : Int32) (a5 : Value) (st : List Value) (M : xM) (Q : Option Value → xM → Prop), xW xSC 123 26 [.ref a0, .int a1, .int a2, .int a3, .int a4, a5] (st) M Q = xW xSC 123 27 [.ref a0, .int a1, .int a2, .int a3, .int a4, a5] (.int a2 :: st) M Q) ∧
  (∀ (a0 : Nat) (a1 : Int32) (a2 : Int32) (a3 : Int32) (a4 : Int32) (a5 : Value) (y0 : Int32) (M : xM) (Q : Option Value → xM → Prop), xW xSC 123 27 [.ref a0, .int a1, .int a2, .int a3, .int a4, a5] (.int y0 :: .ref 9 :: []) M Q = xW xSC 23 0 [.ref 9, .int y0] [] M (fun v M' => xW xSC 123 30 [.ref a0, .int a1, .int a2, .int a3, .int a4, a5] (xpush v []) M' Q)) ∧
  (∀ (a0 : Nat) (a1 : Int32) (a2 : Int32) (a3 : Int32) (a4 : Int32) (a5 : Value) (y0 : Int32) (st : List Value) (M : xM) (Q : Option Value → xM → Prop), xW xSC 123 30 [.ref a0, .int a1, .int a2, .int a3, .int a4, a5] (.int y0 :: st) M Q = if y0 = nI 0 then xW xSC 123 49 [.ref a0, .int a1, .int a2, .int a3, .int a4, a5] (st) M Q else xW xSC 123 33 [.ref a0, .int a1, .int a2, .int a3, .int a4, a5] (st) M Q) ∧
  (∀ (a0 : Nat) (a1 : Int32) (a2 : Int32) (a3 : Int32) (a4 : Int32) (a5 : Value) (st : List Value) (M : xM) (Q : Option Value → xM → Prop), xW xSC 123 33 [.ref a0, .int a1, .int a2, .int a3, .int a4, a5] (st) M Q = xW xSC 123 35 [.ref a0, .int a1, .int a2, .int a3, .int a4, a5] (.int a4 :: st) M Q) ∧
  (∀ (a0 : Nat) (a1 : Int32) (a2 : Int32) (a3 : Int32) (a4 : Int32) (a5 : Value) (y0 : Int32) (st : List Value) (M : xM) (Q : Option Value → xM → Prop), xW xSC 123 35 [.ref a0, .int a1, .int a2, .int a3, .int a4, a5] (.int y0 :: st) M Q = if y0 = nI 0 then xW xSC 123 38 [.ref a0, .int a1, .int a2, .int a3, .int a4, a5] (st) M Q else xW xSC 123 51 [.ref a0, .int a1, .int a2, .int a3, .int a4, a5] (st) M Q) ∧
  (∀ (a0 : Nat) (a1 : Int32) (a2 : Int32) (a3 : Int32) (a4 : Int32) (a5 : Value) (st : List Value) (M : xM) (Q : Option Value → xM → Prop), xW xSC 123 38 [.ref a0, .int a1, .int a2, .int a3, .int a4, a5] (st) M Q = xW xSC 123 39 [.ref a0, .int a1, .int a2, .int a3, .int a4, a5] (.ref a0 :: st) M Q) ∧
  (∀ (a0 : Nat) (a1 : Int32) (a2 : Int32) (a3 : Int32) (a4 : Int32) (a5 : Value) (st : List Value) (M : xM) (Q : Option Value → xM → Prop), xW xSC 123 39 [.ref a0, .int a1, .int a2, .int a3, .int a4, a5] (.ref 0 :: st) M Q = xW xSC 123 42 [.ref a0, .int a1, .int a2, .int a3, .int a4, a5] (.ref 9 :: st) M Q) ∧
  (∀ (a0 : Nat) (a1 : Int32) (a2 : Int32) (a3 : Int32) (a4 : Int32) (a5 : Value) (st : List Value) (M : xM) (Q : Option Value → xM → Prop), xW xSC 123 42 [.ref a0, .int a1, .int a2, .int a3, .int a4, a5] (st) M Q = xW xSC 123 43 [.ref a0, .int a1, .int a2, .int a3, .int a4, a5] (.int a3 :: st) M Q) ∧
  (∀ (a0 : Nat) (a1 : Int32) (a2 : Int32) (a3 : Int32) (a4 : Int32) (a5 : Value) (y0 : Int32) (M : xM) (Q : Option Value → xM → Prop), xW xSC 123 43 [.ref a0, .int a1, .int a2, .int a3, .int a4, a5] (.int y0 :: .ref 9 :: []) M Q = xW xSC 24 0 [.ref 9, .int y0] [] M (fun v M' => xW xSC 123 46 [.ref a0, .int a1, .int a2, .int a3, .int a4, a5] (xpush v []) M' Q)) ∧
  (∀ (a0 : Nat) (a1 : Int32) (a2 : Int32) (a3 : Int32) (a4 : Int32) (a5 : Value) (y0 : Int32) (st : List Value) (M : xM) (Q : Option Value → xM → Prop), xW xSC 123 46 [.ref a0, .int a1, .int a2, .int a3, .int a4, a5] (.int y0 :: st) M Q = if y0 = nI 0 then xW xSC 123 49 [.ref a0, .int a1, .int a2, .int a3, .int a4, a5] (st) M Q else xW xSC 123 51 [.ref a0, .int a1, .int a2, .int a3, .int a4, a5] (st) M Q) ∧
  (∀ (a0 : Nat) (a1 : Int32) (a2 : Int32) (a3 : Int32) (a4 : Int32) (a5 : Value) (y0 : Int32) (M : xM) (Q : Option Value → xM → Prop), xW xSC 123 50 [.ref a0, .int a1, .int a2, .int a3, .int a4, a5] ([.int y0]) M Q = Q (some (.int y0)) M) ∧
  (∀ (a0 : Nat) (a1 : Int32) (a2 : Int32) (a3 : Int32) (a4 : Int32) (a5 : Value) (y0 : Int32) (st : List Value) (M : xM) (Q : Option Value → xM → Prop), xW xSC 123 53 [.ref a0, .int a1, .int a2, .int a3, .int a4, a5] (.int y0 :: st) M Q = if y0 = nI 0 then xW xSC 123 56 [.ref a0, .int a1, .int a2, .int a3, .int a4, a5] (st) M Q else xW xSC 123 71 [.ref a0, .int a1, .int a2, .int a3, .int a4, a5] (st) M Q) ∧
  (∀ (a0 : Nat) (a1 : Int32) (a2 : Int32) (a3 : Int32) (a4 : Int32) (a5 : Value) (st : List Value) (M : xM) (Q : Option Value → xM → Prop), xW xSC 123 56 [.ref a0, .int a1, .int a2, .int a3, .int a4, a5] (st) M Q = xW xSC 123 57 [.ref a0, .int a1, .int a2, .int a3, .int a4, a5] (.ref a0 :: st) M Q) ∧
  (∀ (a0 : Nat) (a1 : Int32) (a2 : Int32) (a3 : Int32) (a4 : Int32) (a5 : Value) (st : List Value) (M : xM) (Q : Option Value → xM → Prop), xW xSC 123 57 [.ref a0, .int a1, .int a2, .int a3, .int a4, a5] (.ref 0 :: st) M Q = xW xSC 123 60 [.ref a0, .int a1, .int a2, .int a3, .int a4, a5] (.ref 9 :: st) M Q) ∧
  (∀ (a0 : Nat) (a1 : Int32) (a2 : Int32) (a3 : Int32) (a4 : Int32) (a5 : Value) (st : List Value) (M : xM) (Q : Option Value → xM → Prop), xW xSC 123 60 [.ref a0, .int a1, .int a2, .int a3, .int a4, a5] (st) M Q = xW xSC 123 61 [.ref a0, .int a1, .int a2, .int a3, .int a4, a5] (.int a3 :: st) M Q) ∧
  (∀ (a0 : Nat) (a1 : Int32) (a2 : Int32) (a3 : Int32) (a4 : Int32) (a5 : Value) (st : List Value) (M : xM) (Q : Option Value → xM → Prop), xW xSC 123 61 [.ref a0, .int a1, .int a2, .int a3, .int a4, a5] (st) M Q = xW xSC 123 62 [.ref a0, .int a1, .int a2, .int a3, .int a4, a5] (.int a2 :: st) M Q) ∧
  (∀ (a0 : Nat) (a1 : Int32) (a2 : Int32) (a3 : Int32) (a4 : Int32) (a5 : Value) (y0 : Int32) (y1 : Int32) (M : xM) (Q : Option Value → xM → Prop), xW xSC 123 62 [.ref a0, .int a1, .int a2, .int a3, .int a4, a5] (.int y0 :: .int y1 :: .ref 9 :: []) M Q = xW xSC 40 0 [.ref 9, .int y1, .int y0] [] M (fun v M' => xW xSC 123 65 [.ref a0, .int a1, .int a2, .int a3, .int a4, a5] (xpush v []) M' Q)) ∧
  (∀ (a0 : Nat) (a1 : Int32) (a2 : Int32) (a3 : Int32) (a4 : Int32) (a5 : Value) (y0 : Int32) (st : List Value) (M : xM) (Q : Option Value → xM → Prop), xW xSC 123 65 [.ref a0, .int a1, .int a2, .int a3, .int a4, a5] (.int y0 :: st) M Q = if y0 < nI 0 then xW xSC 123 68 [.ref a0, .int a1, .int a2, .int a3, .int a4, a5] (st) M Q else xW xSC 123 71 [.ref a0, .int a1, .int a2, .int a3, .int a4, a5] (st) M Q) ∧
  (∀ (a0 : Nat) (a1 : Int32) (a2 : Int32) (a3 : Int32) (a4 : Int32) (a5 : Value) (st : List Value) (M : xM) (Q : Option Value → xM → Prop), xW xSC 123 68 [.ref a0, .int a1, .int a2, .int a3, .int a4, a5] (st) M Q = xW xSC 123 70 [.ref a0, .int a1, .int a2, .int a3, .int a4, a5] (.int (-2) :: st) M Q) ∧
  (∀ (a0 : Nat) (a1 : Int32) (a2 : Int32) (a3 : Int32) (a4 : Int32) (a5 : Value) (y0 : Int32) (M : xM) (Q : Option Value → xM → Prop), xW xSC 123 70 [.ref a0, .int a1, .int a2, .int a3, .int a4, a5] ([.int y0]) M Q = Q (some (.int y0)) M) ∧
  (∀ (a0 : Nat) (a1 : Int32) (a2 : Int32) (a3 : Int32) (a4 : Int32) (a5 : Value) (st : List Value) (M : xM) (Q : Option Value → xM → Prop), xW xSC 123 72 [.ref a0, .int a1, .int a2, .int a3, .int a4, a5] (.ref 0 :: st) M Q = xW xSC 123 75 [.ref a0, .int a1, .int a2, .int a3, .int a4, a5] (.ref 41 :: st) M Q) ∧
  (∀ (a0 : Nat) (a1 : Int32) (a2 : Int32) (a3 : Int32) (a4 : Int32) (a5 : Value) (M : xM) (Q : Option Value → xM → Prop), xW xSC 123 75 [.ref a0, .int a1, .int a2, .int a3, .int a4, a5] (.ref 41 :: []) M Q = xW xSC 11 0 [.ref 41] [] M (fun v M' => xW xSC 123 78 [.ref a0, .int a1, .int a2, .int a3, .int a4, a5] (xpush v []) M' Q)) ∧
  (∀ (a0 : Nat) (a1 : Int32) (a2 : Int32) (a3 : Int32) (a4 : Int32) (a5 : Value) (st : List Value) (M : xM) (Q : Option Value → xM → Prop), xW xSC 123 78 [.ref a0, .int a1, .int a2, .int a3, .int a4, a5] (st) M Q = xW xSC 123 79 [.ref a0, .int a1, .int a2, .int a3, .int a4, a5] (.int (nI 0) :: st) M Q) ∧
  (∀ (a0 : Nat) (a1 : Int32) (a2 : Int32) (a3 : Int32) (a4 : Int32) (a5 : Value) (y0 : Int32) (st : List Value) (M : xM) (Q : Option Value → xM → Prop), xW xSC 123 79 [.ref a0, .int a1, .int a2, .int a3, .int a4, a5] (.int y0 :: st) M Q = xW xSC 123 81 [.ref a0, .int a1, .int a2, .int a3, .int a4, .int y0] (st) M Q) ∧
  (∀ (a0 : Nat) (a1 : Int32) (a2 : Int32) (a3 : Int32) (a4 : Int32) (a5 : Int32) (st : List Value) (M : xM) (Q : Option Value → xM → Prop), xW xSC 123 83 [.ref a0, .int a1, .int a2, .int a3, .int a4, .int a5] (st) M Q = xW xSC 123 84 [.ref a0, .int a1, .int a2, .int a3, .int a4, .int a5] (.ref a0 :: st) M Q) ∧
  (∀ (a0 : Nat) (a1 : Int32) (a2 : Int32) (a3 : Int32) (a4 : Int32) (a5 : Int32) (st : List Value) (M : xM) (Q : Option Value → xM → Prop), xW xSC 123 84 [.ref a0, .int a1, .int a2, .int a3, .int a4, .int a5] (.ref 0 :: st) M Q = xW xSC 123 87 [.ref a0, .int a1, .int a2, .int a3, .int a4, .int a5] (.ref 9 :: st) M Q) ∧
  (∀ (a0 : Nat) (a1 : Int32) (a2 : Int32) (a3 : Int32) (a4 : Int32) (a5 : Int32) (st : List Value) (M : xM) (Q : Option Value → xM → Prop), xW xSC 123 87 [.ref a0, .int a1, .int a2, .int a3, .int a4, .int a5] (.ref 9 :: st) M Q = xW xSC 123 90 [.ref a0, .int a1, .int a2, .int a3, .int a4, .int a5] (.int (M 9 1) :: st) M Q) ∧
  (∀ (a0 : Nat) (a1 : Int32) (a2 : Int32) (a3 : Int32) (a4 : Int32) (a5 : Int32) (y0 : Int32) (y1 : Int32) (st : List Value) (M : xM) (Q : Option Value → xM → Prop), xW xSC 123 90 [.ref a0, .int a1, .int a2, .int a3, .int a4, .int a5] (.int y0 :: .int y1 :: st) M Q = if y1 < y0 then xW xSC 123 93 [.ref a0, .int a1, .int a2, .int a3, .int a4, .int a5] (st) M Q else xW xSC 123 137 [.ref a0, .int a1, .int a2, .int a3, .int a4, .int a5] (st) M Q) ∧
  (∀ (a0 : Nat) (a1 : Int32) (a2 : Int32) (a3 : Int32) (a4 : Int32) (a5 : Int32) (st : List Value) (M : xM) (Q : Option Value → xM → Prop), xW xSC 123 93 [.ref a0, .int a1, .int a2, .int a3, .int a4, .int a5] (st) M Q = xW xSC 123 95 [.ref a0, .int a1, .int a2, .int a3, .int a4, .int a5] (.int a4 :: st) M Q) ∧
  (∀ (a0 : Nat) (a1 : Int32) (a2 : Int32) (a3 : Int32) (a4 : Int32) (a5 : Int32) (y0 : Int32) (st : List Value) (M : xM) (Q : Option Value → xM → Prop), xW xSC 123 95 [.ref a0, .int a1, .int a2, .int a3, .int a4, .int a5] (.int y0 :: st) M Q = if y0 = nI 0 then xW xSC 123 98 [.ref a0, .int a1, .int a2, .int a3, .int a4, .int a5] (st) M Q else xW xSC 123 104 [.ref a0, .int a1, .int a2, .int a3, .int a4, .int a5] (st) M Q) ∧
  (∀ (a0 : Nat) (a1 : Int32) (a2 : Int32) (a3 : Int32) (a4 : Int32) (a5 : Int32) (st : List Value) (M : xM) (Q : Option Value → xM → Prop), xW xSC 123 98 [.ref a0, .int a1, .int a2, .int a3, .int a4, .int a5] (st) M Q = xW xSC 123 100 [.ref a0, .int a1, .int a2, .int a3, .int a4, .int a5] (.int a5 :: st) M Q) ∧
  (∀ (a0 : Nat) (a1 : Int32) (a2 : Int32) (a3 : Int32) (a4 : Int32) (a5 : Int32) (st : List Value) (M : xM) (Q : Option Value → xM → Prop), xW xSC 123 100 [.ref a0, .int a1, .int a2, .int a3, .int a4, .int a5] (st) M Q = xW xSC 123 101 [.ref a0, .int a1, .int a2, .int a3, .int a4, .int a5] (.int a3 :: st) M Q) ∧
  (∀ (a0 : Nat) (a1 : Int32) (a2 : Int32) (a3 : Int32) (a4 : Int32) (a5 : Int32) (y0 : Int32) (y1 : Int32) (st : List Value) (M : xM) (Q : Option Value → xM → Prop), xW xSC 123 101 [.ref a0, .int a1, .int a2, .int a3, .int a4, .int a5] (.int y0 :: .int y1 :: st) M Q = if y1 = y0 then xW xSC 123 104 [.ref a0, .int a1, .int a2, .int a3, .int a4, .int a5] (st) M Q else xW xSC 123 131 [.ref a0, .int a1, .int a2, .int a3, .int a4, .int a5] (st) M Q) ∧
  (∀ (a0 : Nat) (a1 : Int32) (a2 : Int32) (a3 : Int32) (a4 : Int32) (a5 : Int32) (st : List Value) (M : xM) (Q : Option Value → xM → Prop), xW xSC 123 105 [.ref a0, .int a1, .int a2, .int a3, .int a4, .int a5] (.ref 0 :: st) M Q = xW xSC 123 108 [.ref a0, .int a1, .int a2, .int a3, .int a4, .int a5] (.ref 41 :: st) M Q) ∧
  (∀ (a0 : Nat) (a1 : Int32) (a2 : Int32) (a3 : Int32) (a4 : Int32) (a5 : Int32) (st : List Value) (M : xM) (Q : Option Value → xM → Prop), xW xSC 123 108 [.ref a0, .int a1, .int a2, .int a3, .int a4, .int a5] (st) M Q = xW xSC 123 109 [.ref a0, .int a1, .int a2, .int a3, .int a4, .int a5] (.ref a0 :: st) M Q) ∧
  (∀ (a0 : Nat) (a1 : Int32) (a2 : Int32) (a3 : Int32) (a4 : Int32) (a5 : Int32) (st : List Value) (M : xM) (Q : Option Value → xM → Prop), xW xSC 123 109 [.ref a0, .int a1, .int a2, .int a3, .int a4, .int a5] (.ref 0 :: st) M Q = xW xSC 123 112 [.ref a0, .int a1, .int a2, .int a3, .int a4, .int a5] (.ref 9 :: st) M Q) ∧
  (∀ (a0 : Nat) (a1 : Int32) (a2 : Int32) (a3 : Int32) (a4 : Int32) (a5 : Int32) (st : List Value) (M : xM) (Q : Option Value → xM → Prop), xW xSC 123 112 [.ref a0, .int a1, .int a2, .int a3, .int a4, .int a5] (st) M Q = xW xSC 123 113 [.ref a0, .int a1, .int a2, .int a3, .int a4, .int a5] (.ref a0 :: st) M Q) ∧
  (∀ (a0 : Nat) (a1 : Int32) (a2 : Int32) (a3 : Int32) (a4 : Int32) (a5 : Int32) (st : List Value) (M : xM) (Q : Option Value → xM → Prop), xW xSC 123 113 [.ref a0, .int a1, .int a2, .int a3, .int a4, .int a5] (.ref 0 :: st) M Q = xW xSC 123 116 [.ref a0, .int a1, .int a2, .int a3, .int a4, .int a5] (.ref 39 :: st) M Q) ∧
  (∀ (a0 : Nat) (a1 : Int32) (a2 : Int32) (a3 : Int32) (a4 : Int32) (a5 : Int32) (st : List Value) (M : xM) (Q : Option Value → xM → Prop), xW xSC 123 116 [.ref a0, .int a1, .int a2, .int a3, .int a4, .int a5] (st) M Q = xW xSC 123 118 [.ref a0, .int a1, .int a2, .int a3, .int a4, .int a5] (.int a5 :: st) M Q) ∧
  (∀ (a0 : Nat) (a1 : Int32) (a2 : Int32) (a3 : Int32) (a4 : Int32) (a5 : Int32) (st : List Value) (M : xM) (Q : Option Value → xM → Prop), xW xSC 123 118 [.ref a0, .int a1, .int a2, .int a3, .int a4, .int a5] (st) M Q = xW xSC 123 119 [.ref a0, .int a1, .int a2, .int a3, .int a4, .int a5] (.ref a0 :: st) M Q) ∧
  (∀ (a0 : Nat) (a1 : Int32) (a2 : Int32) (a3 : Int32) (a4 : Int32) (a5 : Int32) (st : List Value) (M : xM) (Q : Option Value → xM → Prop), xW xSC 123 119 [.ref a0, .int a1, .int a2, .int a3, .int a4, .int a5] (.ref 0 :: st) M Q = xW xSC 123 122 [.ref a0, .int a1, .int a2, .int a3, .int a4, .int a5] (.ref 9 :: st) M Q) ∧
  (∀ (a0 : Nat) (a1 : Int32) (a2 : Int32) (a3 : Int32) (a4 : Int32) (a5 : Int32) (st : List Value) (M : xM) (Q : Option Value → xM → Prop), xW xSC 123 122 [.ref a0, .int a1, .int a2, .int a3, .int a4, .int a5] (st) M Q = xW xSC 123 124 [.ref a0, .int a1, .int a2, .int a3, .int a4, .int a5] (.int a5 :: st) M Q) ∧
  (∀ (a0 : Nat) (a1 : Int32) (a2 : Int32) (a3 : Int32) (a4 : Int32) (a5 : Int32) (st : List Value) (M : xM) (Q : Option Value → xM → Prop), xW xSC 123 124 [.ref a0, .int a1, .int a2, .int a3, .int a4, .int a5] (st) M Q = xW xSC 123 125 [.ref a0, .int a1, .int a2, .int a3, .int a4, .int a5] (.int a2 :: st) M Q) ∧
  (∀ (a0 : Nat) (a1 : Int32) (a2 : Int32) (a3 : Int32) (a4 : Int32) (a5 : Int32) (y0 : Int32) (y1 : Int32) (y3 : Int32) (y4 : Nat) (y5 : Nat) (y6 : Nat) (M : xM) (Q : Option Value → xM → Prop), xW xSC 123 125 [.ref a0, .int a1, .int a2, .int a3, .int a4, .int a5] (.int y0 :: .int y1 :: .ref 9 :: .int y3 :: .ref y4 :: .ref y5 :: .ref y6 :: []) M Q = xW xSC 40 0 [.ref 9, .int y1, .int y0] [] M (fun v M' => xW xSC 123 128 [.ref a0, .int a1, .int a2, .int a3, .int a4, .int a5] (xpush v [.int y3, .ref y4, .ref y5, .ref y6]) M' Q)) ∧
  (∀ (a0 : Nat) (a1 : Int32) (a2 : Int32) (a3 : Int32) (a4 : Int32) (a5 : Int32) (y0 : Int32) (y1 : Int32) (y2 : Nat) (y3 : Nat) (M : xM) (Q : Option Value → xM → Prop), xW xSC 123 128 [.ref a0, .int a1, .int a2, .int a3, .int a4, .int a5] (.int y0 :: .int y1 :: .ref y2 :: .ref y3 :: .ref 41 :: []) M Q = xW xSC 12 0 [.ref 41, .ref y3, .ref y2, .int y1, .int y0] [] M (fun v M' => xW xSC 123 131 [.ref a0, .int a1, .int a2, .int a3, .int a4, .int a5] (xpush v []) M' Q)) ∧
  (∀ (a0 : Nat) (a1 : Int32) (a2 : Int32) (a3 : Int32) (a4 : Int32) (a5 : Int32) (st : List Value) (M : xM) (Q : Option Value → xM → Prop), xW xSC 123 134 [.ref a0, .int a1, .int a2, .int a3, .int a4, .int a5] (st) M Q = xW xSC 123 81 [.ref a0, .int a1, .int a2, .int a3, .int a4, .int a5] (st) M Q) ∧
  (∀ (a0 : Nat) (a1 : Int32) (a2 : Int32) (a3 : Int32) (a4 : Int32) (a5 : Int32) (st : List Value) (M : xM) (Q : Option Value → xM → Prop), xW xSC 123 137 [.ref a0, .int a1, .int a2, .int a3, .int a4, .int a5] (st) M Q = xW xSC 123 138 [.ref a0, .int a1, .int a2, .int a3, .int a4, .int a5] (.ref a0 :: st) M Q) ∧
  (∀ (a0 : Nat) (a1 : Int32) (a2 : Int32) (a3 : Int32) (a4 : Int32) (a5 : Int32) (st : List Value) (M : xM) (Q : Option Value → xM → Prop), xW xSC 123 138 [.ref a0, .int a1, .int a2, .int a3, .int a4, .int a5] (.ref 0 :: st) M Q = xW xSC 123 141 [.ref a0, .int a1, .int a2, .int a3, .int a4, .int a5] (.ref 41 :: st) M Q) ∧
  (∀ (a0 : Nat) (a1 : Int32) (a2 : Int32) (a3 : Int32) (a4 : Int32) (a5 : Int32) (st : List Value) (M : xM) (Q : Option Value → xM → Prop), xW xSC 123 141 [.ref a0, .int a1, .int a2, .int a3, .int a4, .int a5] (st) M Q = xW xSC 123 142 [.ref a0, .int a1, .int a2, .int a3, .int a4, .int a5] (.int a1 :: st) M Q) ∧
  (∀ (a0 : Nat) (a1 : Int32) (a2 : Int32) (a3 : Int32) (a4 : Int32) (a5 : Int32) (y0 : Int32) (M : xM) (Q : Option Value → xM → Prop), xW xSC 123 142 [.ref a0, .int a1, .int a2, .int a3, .int a4, .int a5] (.int y0 :: .ref 41 :: []) M Q = xW xSC 13 0 [.ref 41, .int y0, .null, .null, .null] [] M (fun v M' => xW xSC 123 145 [.ref a0, .int a1, .int a2, .int a3, .int a4, .int a5] (xpush v []) M' Q)) ∧
  (∀ (a0 : Nat) (a1 : Int32) (a2 : Int32) (a3 : Int32) (a4 : Int32) (a5 : Int32) (y0 : Int32) (M : xM) (Q : Option Value → xM → Prop), xW xSC 123 145 [.ref a0, .int a1, .int a2, .int a3, .int a4, .int a5] ([.int y0]) M Q = Q (some (.int y0)) M) :=
  ⟨fun a0 a1 a2 a3 a4 a5 st M Q => xw_s rfl rfl,
  fun a0 a1 a2 a3 a4 a5 st M Q => xw_s rfl rfl,
  fun a0 a1 a2 a3 a4 a5 y0 y1 st M Q => xw_brn (c0 := y1 ≠ y0) (c1 := y1 = y0) rfl rfl (Iff.rfl),
  fun a0 a1 a2 a3 a4 a5 st M Q => xw_s rfl rfl,
  fun a0 a1 a2 a3 a4 a5 st M Q => xw_s rfl rfl,
  fun a0 a1 a2 a3 a4 a5 st M Q => xw_s rfl rfl,
  fun a0 a1 a2 a3 a4 a5 st M Q => xw_s rfl rfl,
  fun a0 a1 a2 a3 a4 a5 st M Q => xw_s rfl rfl,
  fun a0 a1 a2 a3 a4 a5 st M Q => xw_s rfl rfl,
  fun a0 a1 a2 a3 a4 a5 y0 y1 y2 M Q => xw_call rfl rfl rfl,
  fun a0 a1 a2 a3 a4 a5 y0 st M Q => xw_br (c0 := y0 = nI 0) rfl rfl,
  fun a0 a1 a2 a3 a4 a5 st M Q => xw_s rfl rfl,
  fun a0 a1 a2 a3 a4 a5 st M Q => xw_s rfl rfl,
  fun a0 a1 a2 a3 a4 a5 st M Q => xw_s rfl rfl,
  fun a0 a1 a2 a3 a4 a5 y0 M Q => xw_call rfl rfl rfl,
  fun a0 a1 a2 a3 a4 a5 y0 st M Q => xw_br (c0 := y0 = nI 0) rfl rfl,
  fun a0 a1 a2 a3 a4 a5 st M Q => xw_s rfl rfl,
  fun a0 a1 a2 a3 a4 a5 y0 st M Q => xw_brn (c0 := y0 ≠ nI 0) (c1 := y0 = nI 0) rfl rfl (Iff.rfl),
  fun a0 a1 a2 a3 a4 a5 st M Q => xw_s rfl rfl,
  fun a0 a1 a2 a3 a4 a5 st M Q => xw_s rfl rfl,
  fun a0 a1 a2 a3 a4 a5 st M Q => xw_s rfl rfl,
  fun a0 a1 a2 a3 a4 a5 y0 M Q => xw_call rfl rfl rfl,
  fun a0 a1 a2 a3 a4 a5 y0 st M Q => xw_brn (c0 := y0 ≠ nI 0) (c1 := y0 = nI 0) rfl rfl (Iff.rfl),
  fun a0 a1 a2 a3 a4 a5 y0 M Q => xw_ret rfl rfl,
  fun a0 a1 a2 a3 a4 a5 y0 st M Q => xw_brn (c0 := y0 ≠ nI 0) (c1 := y0 = nI 0) rfl rfl (Iff.rfl),
  fun a0 a1 a2 a3 a4 a5 st M Q => xw_s rfl rfl,
  fun a0 a1 a2 a3 a4 a5 st M Q => xw_s rfl rfl,
  fun a0 a1 a2 a3 a4 a5 st M Q => xw_s rfl rfl,
  fun a0 a1 a2 a3 a4 a5 st M Q => xw_s rfl rfl,
  fun a0 a1 a2 a3 a4 a5 y0 y1 M Q => xw_call rfl rfl rfl,
  fun a0 a1 a2 a3 a4 a5 y0 st M Q => xw_brn (c0 := nI 0 ≤ y0) (c1 := y0 < nI 0) rfl rfl (xge _ _),
  fun a0 a1 a2 a3 a4 a5 st M Q => xw_s rfl rfl,
  fun a0 a1 a2 a3 a4 a5 y0 M Q => xw_ret rfl rfl,
  fun a0 a1 a2 a3 a4 a5 st M Q => xw_s rfl rfl,
  fun a0 a1 a2 a3 a4 a5 M Q => xw_call rfl rfl rfl,
  fun a0 a1 a2 a3 a4 a5 st M Q => xw_s rfl rfl,
  fun a0 a1 a2 a3 a4 a5 y0 st M Q => xw_s rfl rfl,
  fun a0 a1 a2 a3 a4 a5 st M Q => xw_s rfl rfl,
  fun a0 a1 a2 a3 a4 a5 st M Q => xw_s rfl rfl,
  fun a0 a1 a2 a3 a4 a5 st M Q => xw_s rfl rfl,
  fun a0 a1 a2 a3 a4 a5 y0 y1 st M Q => xw_brn (c0 := y0 ≤ y1) (c1 := y1 < y0) rfl rfl (xge _ _),
  fun a0 a1 a2 a3 a4 a5 st M Q => xw_s rfl rfl,
  fun a0 a1 a2 a3 a4 a5 y0 st M Q => xw_brn (c0 := y0 ≠ nI 0) (c1 := y0 = nI 0) rfl rfl (Iff.rfl),
  fun a0 a1 a2 a3 a4 a5 st M Q => xw_s rfl rfl,
  fun a0 a1 a2 a3 a4 a5 st M Q => xw_s rfl rfl,
  fun a0 a1 a2 a3 a4 a5 y0 y1 st M Q => xw_brn (c0 := y1 ≠ y0) (c1 := y1 = y0) rfl rfl (Iff.rfl),
  fun a0 a1 a2 a3 a4 a5 st M Q => xw_s rfl rfl,
  fun a0 a1 a2 a3 a4 a5 st M Q => xw_s rfl rfl,
  fun a0 a1 a2 a3 a4 a5 st M Q => xw_s rfl rfl,
  fun a0 a1 a2 a3 a4 a5 st M Q => xw_s rfl rfl,
  fun a0 a1 a2 a3 a4 a5 st M Q => xw_s rfl rfl,
  fun a0 a1 a2 a3 a4 a5 st M Q => xw_s rfl rfl,
  fun a0 a1 a2 a3 a4 a5 st M Q => xw_s rfl rfl,
  fun a0 a1 a2 a3 a4 a5 st M Q => xw_s rfl rfl,
  fun a0 a1 a2 a3 a4 a5 st M Q => xw_s rfl rfl,
  fun a0 a1 a2 a3 a4 a5 st M Q => xw_s rfl rfl,
  fun a0 a1 a2 a3 a4 a5 y0 y1 y3 y4 y5 y6 M Q => xw_call rfl rfl rfl,
  fun a0 a1 a2 a3 a4 a5 y0 y1 y2 y3 M Q => xw_call rfl rfl rfl,
  fun a0 a1 a2 a3 a4 a5 st M Q => xw_s rfl rfl,
  fun a0 a1 a2 a3 a4 a5 st M Q => xw_s rfl rfl,
  fun a0 a1 a2 a3 a4 a5 st M Q => xw_s rfl rfl,
  fun a0 a1 a2 a3 a4 a5 st M Q => xw_s rfl rfl,
  fun a0 a1 a2 a3 a4 a5 y0 M Q => xw_call rfl rfl rfl,
  fun a0 a1 a2 a3 a4 a5 y0 M Q => xw_ret rfl rfl⟩
set_option maxRecDepth 20000 in
theorem h123_10 :
  (∀ (a0 : Nat) (a1 : Int32) (a2 : Int32) (a3 : Int32) (a4 : Value) (a5 : Value) (y0 : Int32) (st : List Value) (M : xM) (Q : Option Value → xM → Prop), xW xSC 123 10 [.ref a0, .int a1, .int a2, .int a3, a4, a5] (.int y0 :: st) M Q = xW xSC 123 12 [.ref a0, .int a1, .int a2, .int a3, .int y0, a5] (st) M Q) :=
  fun a0 a1 a2 a3 a4 a5 y0 st M Q => xw_s rfl rfl
set_option maxRecDepth 20000 in
theorem h123_49 :
  (∀ (a0 : Nat) (a1 : Int32) (a2 : Int32) (a3 : Int32) (a4 : Int32) (a5 : Value) (st : List Value) (M : xM) (Q : Option Value → xM → Prop), xW xSC 123 49 [.ref a0, .int a1, .int a2, .int a3, .int a4, a5] (st) M Q = xW xSC 123 50 [.ref a0, .int a1, .int a2, .int a3, .int a4, a5] (.int (-1) :: st) M Q) :=
  fun a0 a1 a2 a3 a4 a5 st M Q => xw_s rfl rfl
set_option maxRecDepth 20000 in
theorem h123_51 :
  (∀ (a0 : Nat) (a1 : Int32) (a2 : Int32) (a3 : Int32) (a4 : Int32) (a5 : Value) (st : List Value) (M : xM) (Q : Option Value → xM → Prop), xW xSC 123 51 [.ref a0, .int a1, .int a2, .int a3, .int a4, a5] (st) M Q = xW xSC 123 53 [.ref a0, .int a1, .int a2, .int a3, .int a4, a5] (.int a4 :: st) M Q) :=
  fun a0 a1 a2 a3 a4 a5 st M Q => xw_s rfl rfl
set_option maxRecDepth 20000 in
theorem h123_71 :
  (∀ (a0 : Nat) (a1 : Int32) (a2 : Int32) (a3 : Int32) (a4 : Int32) (a5 : Value) (st : List Value) (M : xM) (Q : Option Value → xM → Prop), xW xSC 123 71 [.ref a0, .int a1, .int a2, .int a3, .int a4, a5] (st) M Q = xW xSC 123 72 [.ref a0, .int a1, .int a2, .int a3, .int a4, a5] (.ref a0 :: st) M Q) :=
  fun a0 a1 a2 a3 a4 a5 st M Q => xw_s rfl rfl
set_option maxRecDepth 20000 in
theorem h123_81 :
  (∀ (a0 : Nat) (a1 : Int32) (a2 : Int32) (a3 : Int32) (a4 : Int32) (a5 : Int32) (st : List Value) (M : xM) (Q : Option Value → xM → Prop), xW xSC 123 81 [.ref a0, .int a1, .int a2, .int a3, .int a4, .int a5] (st) M Q = xW xSC 123 83 [.ref a0, .int a1, .int a2, .int a3, .int a4, .int a5] (.int a5 :: st) M Q) :=
  fun a0 a1 a2 a3 a4 a5 st M Q => xw_s rfl rfl
set_option maxRecDepth 20000 in
theorem h123_104 :
  (∀ (a0 : Nat) (a1 : Int32) (a2 : Int32) (a3 : Int32) (a4 : Int32) (a5 : Int32) (st : List Value) (M : xM) (Q : Option Value → xM → Prop), xW xSC 123 104 [.ref a0, .int a1, .int a2, .int a3, .int a4, .int a5] (st) M Q = xW xSC 123 105 [.ref a0, .int a1, .int a2, .int a3, .int a4, .int a5] (.ref a0 :: st) M Q) :=
  fun a0 a1 a2 a3 a4 a5 st M Q => xw_s rfl rfl
set_option maxRecDepth 20000 in
theorem h123_131 :
  (∀ (a0 : Nat) (a1 : Int32) (a2 : Int32) (a3 : Int32) (a4 : Int32) (a5 : Int32) (st : List Value) (M : xM) (Q : Option Value → xM → Prop), xW xSC 123 131 [.ref a0, .int a1, .int a2, .int a3, .int a4, .int a5] (st) M Q = xW xSC 123 134 [.ref a0, .int a1, .int a2, .int a3, .int a4, .int (a5 + nI 1)] (st) M Q) :=
  fun a0 a1 a2 a3 a4 a5 st M Q => xw_s rfl rfl
set_option maxRecDepth 20000 in
theorem j123 :
  (∀ (a0 : Nat) (a1 : Int32) (a2 : Int32) (a3 : Int32) (a4 : Value) (a5 : Value) (y0 : Int32) (st : List Value) (M : xM) (Q : Option Value → xM → Prop), xW xSC 123 10 [.ref a0, .int a1, .int a2, .int a3, a4, a5] (.int y0 :: st) M Q = xW xSC 123 12 [.ref a0, .int a1, .int a2, .int a3, .int y0, a5] (st) M Q) ∧
  (∀ (a0 : Nat) (a1 : Int32) (a2 : Int32) (a3 : Int32) (a4 : Int32) (a5 : Value) (st : List Value) (M : xM) (Q : Option Value → xM → Prop), xW xSC 123 49 [.ref a0, .int a1, .int a2, .int a3, .int a4, a5] (st) M Q = xW xSC 123 50 [.ref a0, .int a1, .int a2, .int a3, .int a4, a5] (.int (-1) :: st) M Q) ∧
  (∀ (a0 : Nat) (a1 : Int32) (a2 : Int32) (a3 : Int32) (a4 : Int32) (a5 : Value) (st : List Value) (M : xM) (Q : Option Value → xM → Prop), xW xSC 123 51 [.ref a0, .int a1, .int a2, .int a3, .int a4, a5] (st) M Q = xW xSC 123 53 [.ref a0, .int a1, .int a2, .int a3, .int a4, a5] (.int a4 :: st) M Q) ∧
  (∀ (a0 : Nat) (a1 : Int32) (a2 : Int32) (a3 : Int32) (a4 : Int32) (a5 : Value) (st : List Value) (M : xM) (Q : Option Value → xM → Prop), xW xSC 123 71 [.ref a0, .int a1, .int a2, .int a3, .int a4, a5] (st) M Q = xW xSC 123 72 [.ref a0, .int a1, .int a2, .int a3, .int a4, a5] (.ref a0 :: st) M Q) ∧
  (∀ (a0 : Nat) (a1 : Int32) (a2 : Int32) (a3 : Int32) (a4 : Int32) (a5 : Int32) (st : List Value) (M : xM) (Q : Option Value → xM → Prop), xW xSC 123 104 [.ref a0, .int a1, .int a2, .int a3, .int a4, .int a5] (st) M Q = xW xSC 123 105 [.ref a0, .int a1, .int a2, .int a3, .int a4, .int a5] (.ref a0 :: st) M Q) ∧
  (∀ (a0 : Nat) (a1 : Int32) (a2 : Int32) (a3 : Int32) (a4 : Int32) (a5 : Int32) (st : List Value) (M : xM) (Q : Option Value → xM → Prop), xW xSC 123 131 [.ref a0, .int a1, .int a2, .int a3, .int a4, .int a5] (st) M Q = xW xSC 123 134 [.ref a0, .int a1, .int a2, .int a3, .int a4, .int (a5 + nI 1)] (st) M Q) :=
  ⟨fun a0 a1 a2 a3 a4 a5 y0 st M Q => xw_s rfl rfl,
  fun a0 a1 a2 a3 a4 a5 st M Q => xw_s rfl rfl,
  fun a0 a1 a2 a3 a4 a5 st M Q => xw_s rfl rfl,
  fun a0 a1 a2 a3 a4 a5 st M Q => xw_s rfl rfl,
  fun a0 a1 a2 a3 a4 a5 st M Q => xw_s rfl rfl,
  fun a0 a1 a2 a3 a4 a5 st M Q => xw_s rfl rfl⟩

set_option maxRecDepth 20000 in
theorem s124 :
  (∀ (a0 : Nat) (a1 : Int32) (a2 : Int32) (a3 : Int32) (a4 : Int32) (st : List Value) (M : xM) (Q : Option Value → xM → Prop), xW xSC 124 0 [.ref a0, .int a1, .int a2, .int a3, .int a4] (st) M Q = xW xSC 124 1 [.ref a0, .int a1, .int a2, .int a3, .int a4] (.ref a0 :: st) M Q) ∧
  (∀ (a0 : Nat) (a1 : Int32) (a2 : Int32) (a3 : Int32) (a4 : Int32) (st : List Value) (M : xM) (Q : Option Value → xM → Prop), xW xSC 124 1 [.ref a0, .int a1, .int a2, .int a3, .int a4] (st) M Q = xW xSC 124 2 [.ref a0, .int a1, .int a2, .int a3, .int a4] (.int a1 :: st) M Q) ∧
  (∀ (a0 : Nat) (a1 : Int32) (a2 : Int32) (a3 : Int32) (a4 : Int32) (st : List Value) (M : xM) (Q : Option Value → xM → Prop), xW xSC 124 2 [.ref a0, .int a1, .int a2, .int a3, .int a4] (st) M Q = xW xSC 124 3 [.ref a0, .int a1, .int a2, .int a3, .int a4] (.int a2 :: st) M Q) ∧
  (∀ (a0 : Nat) (a1 : Int32) (a2 : Int32) (a3 : Int32) (a4 : Int32) (y0 : Int32) (y1 : Int32) (M : xM) (Q : Option Value → xM → Prop), xW xSC 124 3 [.ref a0, .int a1, .int a2, .int a3, .int a4] (.int y0 :: .int y1 :: .ref 0 :: []) M Q = xW xSC 133 0 [.ref 0, .int y1, .int y0] [] M (fun v M' => xW xSC 124 6 [.ref a0, .int a1, .int a2, .int a3, .int a4] (xpush v []) M' Q)) ∧
  (∀ (a0 : Nat) (a1 : Int32) (a2 : Int32) (a3 : Int32) (a4 : Int32) (y0 : Int32) (st : List Value) (M : xM) (Q : Option Value → xM → Prop), xW xSC 124 6 [.ref a0, .int a1, .int a2, .int a3, .int a4] (.int y0 :: st) M Q = if y0 = nI 0 then xW xSC 124 30 [.ref a0, .int a1, .int a2, .int a3, .int a4] (st) M Q else xW xSC 124 9 [.ref a0, .int a1, .int a2, .int a3, .int a4] (st) M Q) ∧
  (∀ (a0 : Nat) (a1 : Int32) (a2 : Int32) (a3 : Int32) (a4 : Int32) (st : List Value) (M : xM) (Q : Option Value → xM → Prop), xW xSC 124 9 [.ref a0, .int a1, .int a2, .int a3, .int a4] (st) M Q = xW xSC 124 11 [.ref a0, .int a1, .int a2, .int a3, .int a4] (.int a4 :: st) M Q) ∧
  (∀ (a0 : Nat) (a1 : Int32) (a2 : Int32) (a3 : Int32) (a4 : Int32) (st : List Value) (M : xM) (Q : Option Value → xM → Prop), xW xSC 124 11 [.ref a0, .int a1, .int a2, .int a3, .int a4] (st) M Q = xW xSC 124 12 [.ref a0, .int a1, .int a2, .int a3, .int a4] (.int (nI 1) :: st) M Q) ∧
  (∀ (a0 : Nat) (a1 : Int32) (a2 : Int32) (a3 : Int32) (a4 : Int32) (st : List Value) (M : xM) (Q : Option Value → xM → Prop), xW xSC 124 12 [.ref a0, .int a1, .int a2, .int a3, .int a4] (st) M Q = xW xSC 124 14 [.ref a0, .int a1, .int a2, .int a3, .int a4] (.int (nI 50) :: st) M Q) ∧
  (∀ (a0 : Nat) (a1 : Int32) (a2 : Int32) (a3 : Int32) (a4 : Int32) (y0 : Int32) (y1 : Int32) (y2 : Int32) (M : xM) (Q : Option Value → xM → Prop), xW xSC 124 14 [.ref a0, .int a1, .int a2, .int a3, .int a4] (.int y0 :: .int y1 :: .int y2 :: []) M Q = xW xSC 132 0 [.int y2, .int y1, .int y0] [] M (fun v M' => xW xSC 124 17 [.ref a0, .int a1, .int a2, .int a3, .int a4] (xpush v []) M' Q)) ∧
  (∀ (a0 : Nat) (a1 : Int32) (a2 : Int32) (a3 : Int32) (a4 : Int32) (y0 : Int32) (st : List Value) (M : xM) (Q : Option Value → xM → Prop), xW xSC 124 17 [.ref a0, .int a1, .int a2, .int a3, .int a4] (.int y0 :: st) M Q = if y0 = nI 0 then xW xSC 124 30 [.ref a0, .int a1, .int a2, .int a3, .int a4] (st) M Q else xW xSC 124 20 [.ref a0, .int a1, .int a2, .int a3, .int a4] (st) M Q) ∧
  (∀ (a0 : Nat) (a1 : Int32) (a2 : Int32) (a3 : Int32) (a4 : Int32) (st : List Value) (M : xM) (Q : Option Value → xM → Prop), xW xSC 124 20 [.ref a0, .int a1, .int a2, .int a3, .int a4] (st) M Q = xW xSC 124 21 [.ref a0, .int a1, .int a2, .int a3, .int a4] (.int a3 :: st) M Q) ∧
  (∀ (a0 : Nat) (a1 : Int32) (a2 : Int32) (a3 : Int32) (a4 : Int32) (st : List Value) (M : xM) (Q : Option Value → xM → Prop), xW xSC 124 21 [.ref a0, .int a1, .int a2, .int a3, .int a4] (st) M Q = xW xSC 124 22 [.ref a0, .int a1, .int a2, .int a3, .int a4] (.int (nI 0) :: st) M Q) ∧
  (∀ (a0 : Nat) (a1 : Int32) (a2 : Int32) (a3 : Int32) (a4 : Int32) (st : List Value) (M : xM) (Q : Option Value → xM → Prop), xW xSC 124 22 [.ref a0, .int a1, .int a2, .int a3, .int a4] (st) M Q = xW xSC 124 24 [.ref a0, .int a1, .int a2, .int a3, .int a4] (.int a4 :: st) M Q) ∧
  (∀ (a0 : Nat) (a1 : Int32) (a2 : Int32) (a3 : Int32) (a4 : Int32) (y0 : Int32) (y1 : Int32) (y2 : Int32) (M : xM) (Q : Option Value → xM → Prop), xW xSC 124 24 [.ref a0, .int a1, .int a2, .int a3, .int a4] (.int y0 :: .int y1 :: .int y2 :: []) M Q = xW xSC 132 0 [.int y2, .int y1, .int y0] [] M (fun v M' => xW xSC 124 27 [.ref a0, .int a1, .int a2, .int a3, .int a4] (xpush v []) M' Q)) ∧
  (∀ (a0 : Nat) (a1 : Int32) (a2 : Int32) (a3 : Int32) (a4 : Int32) (y0 : Int32) (st : List Value) (M : xM) (Q : Option Value → xM → Prop), xW xSC 124 27 [.ref a0, .int a1, .int a2, .int a3, .int a4] (.int y0 :: st) M Q = if y0 = nI 0 then xW xSC 124 30 [.ref a0, .int a1, .int a2, .int a3, .int a4] (st) M Q else xW xSC 124 32 [.ref a0, .int a1, .int a2, .int a3, .int a4] (st) M Q) ∧
  (∀ (a0 : Nat) (a1 : Int32) (a2 : Int32) (a3 : Int32) (a4 : Int32) (y0 : Int32) (M : xM) (Q : Option Value → xM → Prop), xW xSC 124 31 [.ref a0, .int a1, .int a2, .int a3, .int a4] ([.int y0]) M Q = Q (some (.int y0)) M) ∧
  (∀ (a0 : Nat) (a1 : Int32) (a2 : Int32) (a3 : Int32) (a4 : Int32) (st : List Value) (M : xM) (Q : Option Value → xM → Prop), xW xSC 124 32 [.ref a0, .int a1, .int a2, .int a3, .int a4] (st) M Q = xW xSC 124 33 [.ref a0, .int a1, .int a2, .int a3, .int a4] (.ref a0 :: st) M Q) ∧
  (∀ (a0 : Nat) (a1 : Int32) (a2 : Int32) (a3 : Int32) (a4 : Int32) (st : List Value) (M : xM) (Q : Option Value → xM → Prop), xW xSC 124 33 [.ref a0, .int a1, .int a2, .int a3, .int a4] (.ref 0 :: st) M Q = xW xSC 124 36 [.ref a0, .int a1, .int a2, .int a3, .int a4] (.ref 27 :: st) M Q) ∧
  (∀ (a0 : Nat) (a1 : Int32) (a2 : Int32) (a3 : Int32) (a4 : Int32) (st : List Value) (M : xM) (Q : Option Value → xM → Prop), xW xSC 124 36 [.ref a0, .int a1, .int a2, .int a3, .int a4] (.ref 27 :: st) M Q = xW xSC 124 39 [.ref a0, .int a1, .int a2, .int a3, .int a4] (.int (M 27 3) :: st) M Q) ∧
  (∀ (a0 : Nat) (a1 : Int32) (a2 : Int32) (a3 : Int32) (a4 : Int32) (st : List Value) (M : xM) (Q : Option Value → xM → Prop), xW xSC 124 39 [.ref a0, .int a1, .int a2, .int a3, .int a4] (st) M Q = xW xSC 124 41 [.ref a0, .int a1, .int a2, .int a3, .int a4] (.int (nI 8) :: st) M Q) ∧
  (∀ (a0 : Nat) (a1 : Int32) (a2 : Int32) (a3 : Int32) (a4 : Int32) (y0 : Int32) (y1 : Int32) (st : List Value) (M : xM) (Q : Option Value → xM → Prop), xW xSC 124 41 [.ref a0, .int a1, .int a2, .int a3, .int a4] (.int y0 :: .int y1 :: st) M Q = if y1 < y0 then xW xSC 124 47 [.ref a0, .int a1, .int a2, .int a3, .int a4] (st) M Q else xW xSC 124 44 [.ref a0, .int a1, .int a2, .int a3, .int a4] (st) M Q) ∧
  (∀ (a0 : Nat) (a1 : Int32) (a2 : Int32) (a3 : Int32) (a4 : Int32) (st : List Value) (M : xM) (Q : Option Value → xM → Prop), xW xSC 124 44 [.ref a0, .int a1, .int a2, .int a3, .int a4] (st) M Q = xW xSC 124 46 [.ref a0, .int a1, .int a2, .int a3, .int a4] (.int (-3) :: st) M Q) ∧
  (∀ (a0 : Nat) (a1 : Int32) (a2 : Int32) (a3 : Int32) (a4 : Int32) (y0 : Int32) (M : xM) (Q : Option Value → xM → Prop), xW xSC 124 46 [.ref a0, .int a1, .int a2, .int a3, .int a4] ([.int y0]) M Q = Q (some (.int y0)) M) ∧
  (∀ (a0 : Nat) (a1 : Int32) (a2 : Int32) (a3 : Int32) (a4 : Int32) (st : List Value) (M : xM) (Q : Option Value → xM → Prop), xW xSC 124 47 [.ref a0, .int a1, .int a2, .int a3, .int a4] (st) M Q = xW xSC 124 48 [.ref a0, .int a1, .int a2, .int a3, .int a4] (.ref a0 :: st) M Q) ∧
  (∀ (a0 : Nat) (a1 : Int32) (a2 : Int32) (a3 : Int32) (a4 : Int32) (st : List Value) (M : xM) (Q : Option Value → xM → Prop), xW xSC 124 48 [.ref a0, .int a1, .int a2, .int a3, .int a4] (.ref 0 :: st) M Q = xW xSC 124 51 [.ref a0, .int a1, .int a2, .int a3, .int a4] (.ref 27 :: st) M Q) ∧
  (∀ (a0 : Nat) (a1 : Int32) (a2 : Int32) (a3 : Int32) (a4 : Int32) (st : List Value) (M : xM) (Q : Option Value → xM → Prop), xW xSC 124 51 [.ref a0, .int a1, .int a2, .int a3, .int a4] (st) M Q = xW xSC 124 52 [.ref a0, .int a1, .int a2, .int a3, .int a4] (.int a1 :: st) M Q) ∧
  (∀ (a0 : Nat) (a1 : Int32) (a2 : Int32) (a3 : Int32) (a4 : Int32) (st : List Value) (M : xM) (Q : Option Value → xM → Prop), xW xSC 124 52 [.ref a0, .int a1, .int a2, .int a3, .int a4] (st) M Q = xW xSC 124 53 [.ref a0, .int a1, .int a2, .int a3, .int a4] (.int a2 :: st) M Q) ∧
  (∀ (a0 : Nat) (a1 : Int32) (a2 : Int32) (a3 : Int32) (a4 : Int32) (st : List Value) (M : xM) (Q : Option Value → xM → Prop), xW xSC 124 53 [.ref a0, .int a1, .int a2, .int a3, .int a4] (st) M Q = xW xSC 124 54 [.ref a0, .int a1, .int a2, .int a3, .int a4] (.int a3 :: st) M Q) ∧
  (∀ (a0 : Nat) (a1 : Int32) (a2 : Int32) (a3 : Int32) (a4 : Int32) (st : List Value) (M : xM) (Q : Option Value → xM → Prop), xW xSC 124 54 [.ref a0, .int a1, .int a2, .int a3, .int a4] (st) M Q = xW xSC 124 56 [.ref a0, .int a1, .int a2, .int a3, .int a4] (.int (nI 100) :: st) M Q) ∧
  (∀ (a0 : Nat) (a1 : Int32) (a2 : Int32) (a3 : Int32) (a4 : Int32) (y0 : Int32) (y1 : Int32) (st : List Value) (M : xM) (Q : Option Value → xM → Prop), xW xSC 124 56 [.ref a0, .int a1, .int a2, .int a3, .int a4] (.int y0 :: .int y1 :: st) M Q = xW xSC 124 57 [.ref a0, .int a1, .int a2, .int a3, .int a4] (.int (y1 * y0) :: st) M Q) ∧
  (∀ (a0 : Nat) (a1 : Int32) (a2 : Int32) (a3 : Int32) (a4 : Int32) (st : List Value) (M : xM) (Q : Option Value → xM → Prop), xW xSC 124 57 [.ref a0, .int a1, .int a2, .int a3, .int a4] (st) M Q = xW xSC 124 59 [.ref a0, .int a1, .int a2, .int a3, .int a4] (.int a4 :: st) M Q) ∧
  (∀ (a0 : Nat) (a1 : Int32) (a2 : Int32) (a3 : Int32) (a4 : Int32) (y0 : Nat) (y1 : Int32) (st : List Value) (M : xM) (Q : Option Value → xM → Prop), 0 < y0 → y0 < 2 ^ 31 → xW xSC 124 59 [.ref a0, .int a1, .int a2, .int a3, .int a4] (.int (nI y0) :: .int y1 :: st) M Q = xW xSC 124 60 [.ref a0, .int a1, .int a2, .int a3, .int a4] (.int (y1 / nI y0) :: st) M Q) ∧
  (∀ (a0 : Nat) (a1 : Int32) (a2 : Int32) (a3 : Int32) (a4 : Int32) (y0 : Int32) (y1 : Int32) (y2 : Int32) (M : xM) (Q : Option Value → xM → Prop), xW xSC 124 60 [.ref a0, .int a1, .int a2, .int a3, .int a4] (.int y0 :: .int y1 :: .int y2 :: .ref 27 :: []) M Q = xW xSC 17 0 [.ref 27, .int y2, .int y1, .int y0] [] M (fun v M' => xW xSC 124 63 [.ref a0, .int a1, .int a2, .int a3, .int a4] (xpush v []) M' Q)) ∧
  (∀ (a0 : Nat) (a1 : Int32) (a2 : Int32) (a3 : Int32) (a4 : Int32) (st : List Value) (M : xM) (Q : Option Value → xM → Prop), xW xSC 124 63 [.ref a0, .int a1, .int a2, .int a3, .int a4] (st) M Q = xW xSC 124 64 [.ref a0, .int a1, .int a2, .int a3, .int a4] (.ref a0 :: st) M Q) ∧
  (∀ (a0 : Nat) (a1 : Int32) (a2 : Int32) (a3 : Int32) (a4 : Int32) (st : List Value) (M : xM) (Q : Option Value → xM → Prop), xW xSC 124 64 [.ref a0, .int a1, .int a2, .int a3, .int a4] (.ref 0 :: st) M Q = xW xSC 124 67 [.ref a0, .int a1, .int a2, .int a3, .int a4] (.ref 27 :: st) M Q) ∧
  (∀ (a0 : Nat) (a1 : Int32) (a2 : Int32) (a3 : Int32) (a4 : Int32) (st : List Value) (M : xM) (Q : Option Value → xM → Prop), xW xSC 124 67 [.ref a0, .int a1, .int a2, .int a3, .int a4] (.ref 27 :: st) M Q = xW xSC 124 70 [.ref a0, .int a1, .int a2, .int a3, .int a4] (.int (M 27 3) :: st) M Q) ∧
  (∀ (a0 : Nat) (a1 : Int32) (a2 : Int32) (a3 : Int32) (a4 : Int32) (y0 : Int32) (M : xM) (Q : Option Value → xM → Prop), xW xSC 124 70 [.ref a0, .int a1, .int a2, .int a3, .int a4] ([.int y0]) M Q = Q (some (.int y0)) M) :=
  ⟨fun a0 a1 a2 a3 a4 st M Q => xw_s rfl rfl,
  fun a0 a1 a2 a3 a4 st M Q => xw_s rfl rfl,
  fun a0 a1 a2 a3 a4 st M Q => xw_s rfl rfl,
  fun a0 a1 a2 a3 a4 y0 y1 M Q => xw_call rfl rfl rfl,
  fun a0 a1 a2 a3 a4 y0 st M Q => xw_br (c0 := y0 = nI 0) rfl rfl,
  fun a0 a1 a2 a3 a4 st M Q => xw_s rfl rfl,
  fun a0 a1 a2 a3 a4 st M Q => xw_s rfl rfl,
  fun a0 a1 a2 a3 a4 st M Q => xw_s rfl rfl,
  fun a0 a1 a2 a3 a4 y0 y1 y2 M Q => xw_call rfl rfl rfl,
  fun a0 a1 a2 a3 a4 y0 st M Q => xw_br (c0 := y0 = nI 0) rfl rfl,
  fun a0 a1 a2 a3 a4 st M Q => xw_s rfl rfl,
  fun a0 a1 a2 a3 a4 st M Q => xw_s rfl rfl,
  fun a0 a1 a2 a3 a4 st M Q => xw_s rfl rfl,
  fun a0 a1 a2 a3 a4 y0 y1 y2 M Q => xw_call rfl rfl rfl,
  fun a0 a1 a2 a3 a4 y0 st M Q => xw_brn (c0 := y0 ≠ nI 0) (c1 := y0 = nI 0) rfl rfl (Iff.rfl),
  fun a0 a1 a2 a3 a4 y0 M Q => xw_ret rfl rfl,
  fun a0 a1 a2 a3 a4 st M Q => xw_s rfl rfl,
  fun a0 a1 a2 a3 a4 st M Q => xw_s rfl rfl,
  fun a0 a1 a2 a3 a4 st M Q => xw_s rfl rfl,
  fun a0 a1 a2 a3 a4 st M Q => xw_s rfl rfl,
  fun a0 a1 a2 a3 a4 y0 y1 st M Q => xw_br (c0 := y1 < y0) rfl rfl,
  fun a0 a1 a2 a3 a4 st M Q => xw_s rfl rfl,
  fun a0 a1 a2 a3 a4 y0 M Q => xw_ret rfl rfl,
  fun a0 a1 a2 a3 a4 st M Q => xw_s rfl rfl,
  fun a0 a1 a2 a3 a4 st M Q => xw_s rfl rfl,
  fun a0 a1 a2 a3 a4 st M Q => xw_s rfl rfl,
  fun a0 a1 a2 a3 a4 st M Q => xw_s rfl rfl,
  fun a0 a1 a2 a3 a4 st M Q => xw_s rfl rfl,
  fun a0 a1 a2 a3 a4 st M Q => xw_s rfl rfl,
  fun a0 a1 a2 a3 a4 y0 y1 st M Q => xw_s rfl rfl,
  fun a0 a1 a2 a3 a4 st M Q => xw_s rfl rfl,
  fun a0 a1 a2 a3 a4 y0 y1 st M Q h0 h1 => xw_div (f := fun x y => x / y) rfl rfl (nI_ne0 h0 h1),
  fun a0 a1 a2 a3 a4 y0 y1 y2 M Q => xw_call rfl rfl rfl,
  fun a0 a1 a2 a3 a4 st M Q => xw_s rfl rfl,
  fun a0 a1 a2 a3 a4 st M Q => xw_s rfl rfl,
  fun a0 a1 a2 a3 a4 st M Q => xw_s rfl rfl,
  fun a0 a1 a2 a3 a4 y0 M Q => xw_ret rfl rfl⟩
set_option maxRecDepth 20000 in
theorem h124_30 :
  (∀ (a0 : Nat) (a1 : Int32) (a2 : Int32) (a3 : Int32) (a4 : Int32) (st : List Value) (M : xM) (Q : Option Value → xM → Prop), xW xSC 124 30 [.ref a0, .int a1, .int a2, .int a3, .int a4] (st) M Q = xW xSC 124 31 [.ref a0, .int a1, .int a2, .int a3, .int a4] (.int (-1) :: st) M Q) :=
  fun a0 a1 a2 a3 a4 st M Q => xw_s rfl rfl
set_option maxRecDepth 20000 in
theorem j124 :
  (∀ (a0 : Nat) (a1 : Int32) (a2 : Int32) (a3 : Int32) (a4 : Int32) (st : List Value) (M : xM) (Q : Option Value → xM → Prop), xW xSC 124 30 [.ref a0, .int a1, .int a2, .int a3, .int a4] (st) M Q = xW xSC 124 31 [.ref a0, .int a1, .int a2, .int a3, .int a4] (.int (-1) :: st) M Q) :=
  fun a0 a1 a2 a3 a4 st M Q => xw_s rfl rfl

set_option maxRecDepth 20000 in
theorem s125 :
  (∀ (a0 : Nat) (a1 : Value) (st : List Value) (M : xM) (Q : Option Value → xM → Prop), xW xSC 125 0 [.ref a0, a1] (st) M Q = xW xSC 125 1 [.ref a0, a1] (.ref a0 :: st) M Q) ∧
  (∀ (a0 : Nat) (a1 : Value) (st : List Value) (M : xM) (Q : Option Value → xM → Prop), xW xSC 125 1 [.ref a0, a1] (.ref 0 :: st) M Q = xW xSC 125 4 [.ref a0, a1] (.ref 27 :: st) M Q) ∧
  (∀ (a0 : Nat) (a1 : Value) (st : List Value) (M : xM) (Q : Option Value → xM → Prop), xW xSC 125 4 [.ref a0, a1] (.ref 27 :: st) M Q = xW xSC 125 7 [.ref a0, a1] (.int (M 27 3) :: st) M Q) ∧
  (∀ (a0 : Nat) (a1 : Value) (y0 : Int32) (st : List Value) (M : xM) (Q : Option Value → xM → Prop), xW xSC 125 7 [.ref a0, a1] (.int y0 :: st) M Q = xW xSC 125 8 [.ref a0, .int y0] (st) M Q) ∧
  (∀ (a0 : Nat) (a1 : Int32) (st : List Value) (M : xM) (Q : Option Value → xM → Prop), xW xSC 125 8 [.ref a0, .int a1] (st) M Q = xW xSC 125 9 [.ref a0, .int a1] (.ref a0 :: st) M Q) ∧
  (∀ (a0 : Nat) (a1 : Int32) (st : List Value) (M : xM) (Q : Option Value → xM → Prop), xW xSC 125 9 [.ref a0, .int a1] (.ref 0 :: st) M Q = xW xSC 125 12 [.ref a0, .int a1] (.ref 27 :: st) M Q) ∧
  (∀ (a0 : Nat) (a1 : Int32) (M : xM) (Q : Option Value → xM → Prop), xW xSC 125 12 [.ref a0, .int a1] (.ref 27 :: []) M Q = xW xSC 16 0 [.ref 27] [] M (fun v M' => xW xSC 125 15 [.ref a0, .int a1] (xpush v []) M' Q)) ∧
  (∀ (a0 : Nat) (a1 : Int32) (st : List Value) (M : xM) (Q : Option Value → xM → Prop), xW xSC 125 15 [.ref a0, .int a1] (st) M Q = xW xSC 125 16 [.ref a0, .int a1] (.int a1 :: st) M Q) ∧
  (∀ (a0 : Nat) (a1 : Int32) (y0 : Int32) (M : xM) (Q : Option Value → xM → Prop), xW xSC 125 16 [.ref a0, .int a1] ([.int y0]) M Q = Q (some (.int y0)) M) :=
  ⟨fun a0 a1 st M Q => xw_s rfl rfl,
  fun a0 a1 st M Q => xw_s rfl rfl,
  fun a0 a1 st M Q => xw_s rfl rfl,
  fun a0 a1 y0 st M Q => xw_s rfl rfl,
  fun a0 a1 st M Q => xw_s rfl rfl,
  fun a0 a1 st M Q => xw_s rfl rfl,
  fun a0 a1 M Q => xw_call rfl rfl rfl,
  fun a0 a1 st M Q => xw_s rfl rfl,
  fun a0 a1 y0 M Q => xw_ret rfl rfl⟩
theorem j125 : True := trivial

set_option maxRecDepth 20000 in
theorem s126 :
  (∀ (a0 : Nat) (a1 : Int32) (a2 : Int32) (a3 : Value) (a4 : Value) (a5 : Value) (st : List Value) (M : xM) (Q : Option Value → xM → Prop), xW xSC 126 0 [.ref a0, .int a1, .int a2, a3, a4, a5] (st) M Q = xW xSC 126 1 [.ref a0, .int a1, .int a2, a3, a4, a5] (.int a1 :: st) M Q) ∧
  (∀ (a0 : Nat) (a1 : Int32) (a2 : Int32) (a3 : Value) (a4 : Value) (a5 : Value) (st : List Value) (M : xM) (Q : Option Value → xM → Prop), xW xSC 126 1 [.ref a0, .int a1, .int a2, a3, a4, a5] (st) M Q = xW xSC 126 2 [.ref a0, .int a1, .int a2, a3, a4, a5] (.int (nI 0) :: st) M Q) ∧
  (∀ (a0 : Nat) (a1 : Int32) (a2 : Int32) (a3 : Value) (a4 : Value) (a5 : Value) (st : List Value) (M : xM) (Q : Option Value → xM → Prop), xW xSC 126 2 [.ref a0, .int a1, .int a2, a3, a4, a5] (st) M Q = xW xSC 126 4 [.ref a0, .int a1, .int a2, a3, a4, a5] (.int (nI 99) :: st) M Q) ∧
  (∀ (a0 : Nat) (a1 : Int32) (a2 : Int32) (a3 : Value) (a4 : Value) (a5 : Value) (y0 : Int32) (y1 : Int32) (y2 : Int32) (M : xM) (Q : Option Value → xM → Prop), xW xSC 126 4 [.ref a0, .int a1, .int a2, a3, a4, a5] (.int y0 :: .int y1 :: .int y2 :: []) M Q = xW xSC 132 0 [.int y2, .int y1, .int y0] [] M (fun v M' => xW xSC 126 7 [.ref a0, .int a1, .int a2, a3, a4, a5] (xpush v []) M' Q)) ∧
  (∀ (a0 : Nat) (a1 : Int32) (a2 : Int32) (a3 : Value) (a4 : Value) (a5 : Value) (y0 : Int32) (st : List Value) (M : xM) (Q : Option Value → xM → Prop), xW xSC 126 7 [.ref a0, .int a1, .int a2, a3, a4, a5] (.int y0 :: st) M Q = if y0 = nI 0 then xW xSC 126 19 [.ref a0, .int a1, .int a2, a3, a4, a5] (st) M Q else xW xSC 126 10 [.ref a0, .int a1, .int a2, a3, a4, a5] (st) M Q) ∧
  (∀ (a0 : Nat) (a1 : Int32) (a2 : Int32) (a3 : Value) (a4 : Value) (a5 : Value) (st : List Value) (M : xM) (Q : Option Value → xM → Prop), xW xSC 126 10 [.ref a0, .int a1, .int a2, a3, a4, a5] (st) M Q = xW xSC 126 11 [.ref a0, .int a1, .int a2, a3, a4, a5] (.int a2 :: st) M Q) ∧
  (∀ (a0 : Nat) (a1 : Int32) (a2 : Int32) (a3 : Value) (a4 : Value) (a5 : Value) (st : List Value) (M : xM) (Q : Option Value → xM → Prop), xW xSC 126 11 [.ref a0, .int a1, .int a2, a3, a4, a5] (st) M Q = xW xSC 126 12 [.ref a0, .int a1, .int a2, a3, a4, a5] (.int (nI 0) :: st) M Q) ∧
  (∀ (a0 : Nat) (a1 : Int32) (a2 : Int32) (a3 : Value) (a4 : Value) (a5 : Value) (st : List Value) (M : xM) (Q : Option Value → xM → Prop), xW xSC 126 12 [.ref a0, .int a1, .int a2, a3, a4, a5] (st) M Q = xW xSC 126 13 [.ref a0, .int a1, .int a2, a3, a4, a5] (.int (nI 1) :: st) M Q) ∧
  (∀ (a0 : Nat) (a1 : Int32) (a2 : Int32) (a3 : Value) (a4 : Value) (a5 : Value) (y0 : Int32) (y1 : Int32) (y2 : Int32) (M : xM) (Q : Option Value → xM → Prop), xW xSC 126 13 [.ref a0, .int a1, .int a2, a3, a4, a5] (.int y0 :: .int y1 :: .int y2 :: []) M Q = xW xSC 132 0 [.int y2, .int y1, .int y0] [] M (fun v M' => xW xSC 126 16 [.ref a0, .int a1, .int a2, a3, a4, a5] (xpush v []) M' Q)) ∧
  (∀ (a0 : Nat) (a1 : Int32) (a2 : Int32) (a3 : Value) (a4 : Value) (a5 : Value) (y0 : Int32) (st : List Value) (M : xM) (Q : Option Value → xM → Prop), xW xSC 126 16 [.ref a0, .int a1, .int a2, a3, a4, a5] (.int y0 :: st) M Q = if y0 = nI 0 then xW xSC 126 19 [.ref a0, .int a1, .int a2, a3, a4, a5] (st) M Q else xW xSC 126 21 [.ref a0, .int a1, .int a2, a3, a4, a5] (st) M Q) ∧
  (∀ (a0 : Nat) (a1 : Int32) (a2 : Int32) (a3 : Value) (a4 : Value) (a5 : Value) (y0 : Int32) (M : xM) (Q : Option Value → xM → Prop), xW xSC 126 20 [.ref a0, .int a1, .int a2, a3, a4, a5] ([.int y0]) M Q = Q (some (.int y0)) M) ∧
  (∀ (a0 : Nat) (a1 : Int32) (a2 : Int32) (a3 : Value) (a4 : Value) (a5 : Value) (st : List Value) (M : xM) (Q : Option Value → xM → Prop), xW xSC 126 21 [.ref a0, .int a1, .int a2, a3, a4, a5] (st) M Q = xW xSC 126 22 [.ref a0, .int a1, .int a2, a3, a4, a5] (.int (nI 0) :: st) M Q) ∧
  (∀ (a0 : Nat) (a1 : Int32) (a2 : Int32) (a3 : Value) (a4 : Value) (a5 : Value) (y0 : Int32) (st : List Value) (M : xM) (Q : Option Value → xM → Prop), xW xSC 126 22 [.ref a0, .int a1, .int a2, a3, a4, a5] (.int y0 :: st) M Q = xW xSC 126 23 [.ref a0, .int a1, .int a2, .int y0, a4, a5] (st) M Q) ∧
  (∀ (a0 : Nat) (a1 : Int32) (a2 : Int32) (a3 : Int32) (a4 : Value) (a5 : Value) (st : List Value) (M : xM) (Q : Option Value → xM → Prop), xW xSC 126 23 [.ref a0, .int a1, .int a2, .int a3, a4, a5] (st) M Q = xW xSC 126 25 [.ref a0, .int a1, .int a2, .int a3, a4, a5] (.int (-4) :: st) M Q) ∧
  (∀ (a0 : Nat) (a1 : Int32) (a2 : Int32) (a3 : Int32) (a4 : Value) (a5 : Value) (y0 : Int32) (st : List Value) (M : xM) (Q : Option Value → xM → Prop), xW xSC 126 25 [.ref a0, .int a1, .int a2, .int a3, a4, a5] (.int y0 :: st) M Q = xW xSC 126 27 [.ref a0, .int a1, .int a2, .int a3, .int y0, a5] (st) M Q) ∧
  (∀ (a0 : Nat) (a1 : Int32) (a2 : Int32) (a3 : Int32) (a4 : Int32) (a5 : Value) (st : List Value) (M : xM) (Q : Option Value → xM → Prop), xW xSC 126 27 [.ref a0, .int a1, .int a2, .int a3, .int a4, a5] (st) M Q = xW xSC 126 29 [.ref a0, .int a1, .int a2, .int a3, .int a4, a5] (.int (nI 20) :: st) M Q) ∧
  (∀ (a0 : Nat) (a1 : Int32) (a2 : Int32) (a3 : Int32) (a4 : Int32) (a5 : Value) (y0 : Int32) (st : List Value) (M : xM) (Q : Option Value → xM → Prop), xW xSC 126 29 [.ref a0, .int a1, .int a2, .int a3, .int a4, a5] (.int y0 :: st) M Q = xW xSC 126 31 [.ref a0, .int a1, .int a2, .int a3, .int a4, .int y0] (st) M Q) ∧
  (∀ (a0 : Nat) (a1 : Int32) (a2 : Int32) (a3 : Int32) (a4 : Int32) (a5 : Int32) (y0 : Int32) (st : List Value) (M : xM) (Q : Option Value → xM → Prop), xW xSC 126 33 [.ref a0, .int a1, .int a2, .int a3, .int a4, .int a5] (.int y0 :: st) M Q = if y0 < nI 0 then xW xSC 126 70 [.ref a0, .int a1, .int a2, .int a3, .int a4, .int a5] (st) M Q else xW xSC 126 36 [.ref a0, .int a1, .int a2, .int a3, .int a4, .int a5] (st) M Q) ∧
  (∀ (a0 : Nat) (a1 : Int32) (a2 : Int32) (a3 : Int32) (a4 : Int32) (a5 : Int32) (st : List Value) (M : xM) (Q : Option Value → xM → Prop), xW xSC 126 36 [.ref a0, .int a1, .int a2, .int a3, .int a4, .int a5] (st) M Q = xW xSC 126 37 [.ref a0, .int a1, .int a2, .int a3, .int a4, .int a5] (.ref a0 :: st) M Q) ∧
  (∀ (a0 : Nat) (a1 : Int32) (a2 : Int32) (a3 : Int32) (a4 : Int32) (a5 : Int32) (st : List Value) (M : xM) (Q : Option Value → xM → Prop), xW xSC 126 37 [.ref a0, .int a1, .int a2, .int a3, .int a4, .int a5] (.ref 0 :: st) M Q = xW xSC 126 40 [.ref a0, .int a1, .int a2, .int a3, .int a4, .int a5] (.ref 27 :: st) M Q) ∧
  (∀ (a0 : Nat) (a1 : Int32) (a2 : Int32) (a3 : Int32) (a4 : Int32) (a5 : Int32) (st : List Value) (M : xM) (Q : Option Value → xM → Prop), xW xSC 126 40 [.ref a0, .int a1, .int a2, .int a3, .int a4, .int a5] (st) M Q = xW xSC 126 41 [.ref a0, .int a1, .int a2, .int a3, .int a4, .int a5] (.ref a0 :: st) M Q) ∧
  (∀ (a0 : Nat) (a1 : Int32) (a2 : Int32) (a3 : Int32) (a4 : Int32) (a5 : Int32) (st : List Value) (M : xM) (Q : Option Value → xM → Prop), xW xSC 126 41 [.ref a0, .int a1, .int a2, .int a3, .int a4, .int a5] (.ref 0 :: st) M Q = xW xSC 126 44 [.ref a0, .int a1, .int a2, .int a3, .int a4, .int a5] (.ref 9 :: st) M Q) ∧
  (∀ (a0 : Nat) (a1 : Int32) (a2 : Int32) (a3 : Int32) (a4 : Int32) (a5 : Int32) (st : List Value) (M : xM) (Q : Option Value → xM → Prop), xW xSC 126 44 [.ref a0, .int a1, .int a2, .int a3, .int a4, .int a5] (st) M Q = xW xSC 126 45 [.ref a0, .int a1, .int a2, .int a3, .int a4, .int a5] (.ref a0 :: st) M Q) ∧
  (∀ (a0 : Nat) (a1 : Int32) (a2 : Int32) (a3 : Int32) (a4 : Int32) (a5 : Int32) (st : List Value) (M : xM) (Q : Option Value → xM → Prop), xW xSC 126 45 [.ref a0, .int a1, .int a2, .int a3, .int a4, .int a5] (.ref 0 :: st) M Q = xW xSC 126 48 [.ref a0, .int a1, .int a2, .int a3, .int a4, .int a5] (.ref 33 :: st) M Q) ∧
  (∀ (a0 : Nat) (a1 : Int32) (a2 : Int32) (a3 : Int32) (a4 : Int32) (a5 : Int32) (st : List Value) (M : xM) (Q : Option Value → xM → Prop), xW xSC 126 48 [.ref a0, .int a1, .int a2, .int a3, .int a4, .int a5] (st) M Q = xW xSC 126 50 [.ref a0, .int a1, .int a2, .int a3, .int a4, .int a5] (.int a5 :: st) M Q) ∧
  (∀ (a0 : Nat) (a1 : Int32) (a2 : Int32) (a3 : Int32) (a4 : Int32) (a5 : Int32) (st : List Value) (M : xM) (Q : Option Value → xM → Prop), xW xSC 126 50 [.ref a0, .int a1, .int a2, .int a3, .int a4, .int a5] (st) M Q = xW xSC 126 51 [.ref a0, .int a1, .int a2, .int a3, .int a4, .int a5] (.int a1 :: st) M Q) ∧
  (∀ (a0 : Nat) (a1 : Int32) (a2 : Int32) (a3 : Int32) (a4 : Int32) (a5 : Int32) (y0 : Int32) (y1 : Int32) (y2 : Nat) (y3 : Nat) (M : xM) (Q : Option Value → xM → Prop), xW xSC 126 51 [.ref a0, .int a1, .int a2, .int a3, .int a4, .int a5] (.int y0 :: .int y1 :: .ref y2 :: .ref y3 :: .ref 27 :: []) M Q = xW xSC 18 0 [.ref 27, .ref y3, .ref y2, .int y1, .int y0, .null, .null, .null, .null] [] M (fun v M' => xW xSC 126 54 [.ref a0, .int a1, .int a2, .int a3, .int a4, .int a5] (xpush v []) M' Q)) ∧
  (∀ (a0 : Nat) (a1 : Int32) (a2 : Int32) (a3 : Int32) (a4 : Int32) (a5 : Int32) (y0 : Int32) (st : List Value) (M : xM) (Q : Option Value → xM → Prop), xW xSC 126 54 [.ref a0, .int a1, .int a2, .int a3, .int a4, .int a5] (.int y0 :: st) M Q = if y0 = nI 0 then xW xSC 126 64 [.ref a0, .int a1, .int a2, .int a3, .int a4, .int a5] (st) M Q else xW xSC 126 57 [.ref a0, .int a1, .int a2, .int a3, .int a4, .int a5] (st) M Q) ∧
  (∀ (a0 : Nat) (a1 : Int32) (a2 : Int32) (a3 : Int32) (a4 : Int32) (a5 : Int32) (st : List Value) (M : xM) (Q : Option Value → xM → Prop), xW xSC 126 57 [.ref a0, .int a1, .int a2, .int a3, .int a4, .int a5] (st) M Q = xW xSC 126 60 [.ref a0, .int a1, .int a2, .int (a3 + nI 1), .int a4, .int a5] (st) M Q) ∧
  (∀ (a0 : Nat) (a1 : Int32) (a2 : Int32) (a3 : Int32) (a4 : Int32) (a5 : Int32) (st : List Value) (M : xM) (Q : Option Value → xM → Prop), xW xSC 126 60 [.ref a0, .int a1, .int a2, .int a3, .int a4, .int a5] (st) M Q = xW xSC 126 62 [.ref a0, .int a1, .int a2, .int a3, .int a4, .int a5] (.int a5 :: st) M Q) ∧
  (∀ (a0 : Nat) (a1 : Int32) (a2 : Int32) (a3 : Int32) (a4 : Int32) (a5 : Int32) (y0 : Int32) (st : List Value) (M : xM) (Q : Option Value → xM → Prop), xW xSC 126 62 [.ref a0, .int a1, .int a2, .int a3, .int a4, .int a5] (.int y0 :: st) M Q = xW xSC 126 64 [.ref a0, .int a1, .int a2, .int a3, .int y0, .int a5] (st) M Q) ∧
  (∀ (a0 : Nat) (a1 : Int32) (a2 : Int32) (a3 : Int32) (a4 : Int32) (a5 : Int32) (st : List Value) (M : xM) (Q : Option Value → xM → Prop), xW xSC 126 67 [.ref a0, .int a1, .int a2, .int a3, .int a4, .int a5] (st) M Q = xW xSC 126 31 [.ref a0, .int a1, .int a2, .int a3, .int a4, .int a5] (st) M Q) ∧
  (∀ (a0 : Nat) (a1 : Int32) (a2 : Int32) (a3 : Int32) (a4 : Int32) (a5 : Int32) (st : List Value) (M : xM) (Q : Option Value → xM → Prop), xW xSC 126 70 [.ref a0, .int a1, .int a2, .int a3, .int a4, .int a5] (st) M Q = xW xSC 126 71 [.ref a0, .int a1, .int a2, .int a3, .int a4, .int a5] (.int a2 :: st) M Q) ∧
  (∀ (a0 : Nat) (a1 : Int32) (a2 : Int32) (a3 : Int32) (a4 : Int32) (a5 : Int32) (y0 : Int32) (st : List Value) (M : xM) (Q : Option Value → xM → Prop), xW xSC 126 71 [.ref a0, .int a1, .int a2, .int a3, .int a4, .int a5] (.int y0 :: st) M Q = if y0 = nI 0 then xW xSC 126 74 [.ref a0, .int a1, .int a2, .int a3, .int a4, .int a5] (st) M Q else xW xSC 126 78 [.ref a0, .int a1, .int a2, .int a3, .int a4, .int a5] (st) M Q) ∧
  (∀ (a0 : Nat) (a1 : Int32) (a2 : Int32) (a3 : Int32) (a4 : Int32) (a5 : Int32) (st : List Value) (M : xM) (Q : Option Value → xM → Prop), xW xSC 126 74 [.ref a0, .int a1, .int a2, .int a3, .int a4, .int a5] (st) M Q = xW xSC 126 75 [.ref a0, .int a1, .int a2, .int a3, .int a4, .int a5] (.int a3 :: st) M Q) ∧
  (∀ (a0 : Nat) (a1 : Int32) (a2 : Int32) (a3 : Int32) (a4 : Int32) (a5 : Int32) (st : List Value) (M : xM) (Q : Option Value → xM → Prop), xW xSC 126 75 [.ref a0, .int a1, .int a2, .int a3, .int a4, .int a5] (st) M Q = xW xSC 126 80 [.ref a0, .int a1, .int a2, .int a3, .int a4, .int a5] (st) M Q) ∧
  (∀ (a0 : Nat) (a1 : Int32) (a2 : Int32) (a3 : Int32) (a4 : Int32) (a5 : Int32) (st : List Value) (M : xM) (Q : Option Value → xM → Prop), xW xSC 126 78 [.ref a0, .int a1, .int a2, .int a3, .int a4, .int a5] (st) M Q = xW xSC 126 80 [.ref a0, .int a1, .int a2, .int a3, .int a4, .int a5] (.int a4 :: st) M Q) :=
  ⟨fun a0 a1 a2 a3 a4 a5 st M Q => xw_s rfl rfl,
  fun a0 a1 a2 a3 a4 a5 st M Q => xw_s rfl rfl,
  fun a0 a1 a2 a3 a4 a5 st M Q => xw_s rfl rfl,
  fun a0 a1 a2 a3 a4 a5 y0 y1 y2 M Q => xw_call rfl rfl rfl,
  fun a0 a1 a2 a3 a4 a5 y0 st M Q => xw_br (c0 := y0 = nI 0) rfl rfl,
  fun a0 a1 a2 a3 a4 a5 st M Q => xw_s rfl rfl,
  fun a0 a1 a2 a3 a4 a5 st M Q => xw_s rfl rfl,
  fun a0 a1 a2 a3 a4 a5 st M Q => xw_s rfl rfl,
  fun a0 a1 a2 a3 a4 a5 y0 y1 y2 M Q => xw_call rfl rfl rfl,
  fun a0 a1 a2 a3 a4 a5 y0 st M Q => xw_brn (c0 := y0 ≠ nI 0) (c1 := y0 = nI 0) rfl rfl (Iff.rfl),
  fun a0 a1 a2 a3 a4 a5 y0 M Q => xw_ret rfl rfl,
  fun a0 a1 a2 a3 a4 a5 st M Q => xw_s rfl rfl,
  fun a0 a1 a2 a3 a4 a5 y0 st M Q => xw_s rfl rfl,
  fun a0 a1 a2 a3 a4 a5 st M Q => xw_s rfl rfl,
  fun a0 a1 a2 a3 a4 a5 y0 st M Q => xw_s rfl rfl,
  fun a0 a1 a2 a3 a4 a5 st M Q => xw_s rfl rfl,
  fun a0 a1 a2 a3 a4 a5 y0 st M Q => xw_s rfl rfl,
  fun a0 a1 a2 a3 a4 a5 y0 st M Q => xw_br (c0 := y0 < nI 0) rfl rfl,
  fun a0 a1 a2 a3 a4 a5 st M Q => xw_s rfl rfl,
  fun a0 a1 a2 a3 a4 a5 st M Q => xw_s rfl rfl,
  fun a0 a1 a2 a3 a4 a5 st M Q => xw_s rfl rfl,
  fun a0 a1 a2 a3 a4 a5 st M Q => xw_s rfl rfl,
  fun a0 a1 a2 a3 a4 a5 st M Q => xw_s rfl rfl,
  fun a0 a1 a2 a3 a4 a5 st M Q => xw_s rfl rfl,
  fun a0 a1 a2 a3 a4 a5 st M Q => xw_s rfl rfl,
  fun a0 a1 a2 a3 a4 a5 st M Q => xw_s rfl rfl,
  fun a0 a1 a2 a3 a4 a5 y0 y1 y2 y3 M Q => xw_call rfl rfl rfl,
  fun a0 a1 a2 a3 a4 a5 y0 st M Q => xw_br (c0 := y0 = nI 0) rfl rfl,
  fun a0 a1 a2 a3 a4 a5 st M Q => xw_s rfl rfl,
  fun a0 a1 a2 a3 a4 a5 st M Q => xw_s rfl rfl,
  fun a0 a1 a2 a3 a4 a5 y0 st M Q => xw_s rfl rfl,
  fun a0 a1 a2 a3 a4 a5 st M Q => xw_s rfl rfl,
  fun a0 a1 a2 a3 a4 a5 st M Q => xw_s rfl rfl,
  fun a0 a1 a2 a3 a4 a5 y0 st M Q => xw_brn (c0 := y0 ≠ nI 0) (c1 := y0 = nI 0) rfl rfl (Iff.rfl),
  fun a0 a1 a2 a3 a4 a5 st M Q => xw_s rfl rfl,
  fun a0 a1 a2 a3 a4 a5 st M Q => xw_s rfl rfl,
  fun a0 a1 a2 a3 a4 a5 st M Q => xw_s rfl rfl⟩
set_option maxRecDepth 20000 in
theorem h126_19 :
  (∀ (a0 : Nat) (a1 : Int32) (a2 : Int32) (a3 : Value) (a4 : Value) (a5 : Value) (st : List Value) (M : xM) (Q : Option Value → xM → Prop), xW xSC 126 19 [.ref a0, .int a1, .int a2, a3, a4, a5] (st) M Q = xW xSC 126 20 [.ref a0, .int a1, .int a2, a3, a4, a5] (.int (-1) :: st) M Q) :=
  fun a0 a1 a2 a3 a4 a5 st M Q => xw_s rfl rfl
set_option maxRecDepth 20000 in
theorem h126_31 :
  (∀ (a0 : Nat) (a1 : Int32) (a2 : Int32) (a3 : Int32) (a4 : Int32) (a5 : Int32) (st : List Value) (M : xM) (Q : Option Value → xM → Prop), xW xSC 126 31 [.ref a0, .int a1, .int a2, .int a3, .int a4, .int a5] (st) M Q = xW xSC 126 33 [.ref a0, .int a1, .int a2, .int a3, .int a4, .int a5] (.int a5 :: st) M Q) :=
  fun a0 a1 a2 a3 a4 a5 st M Q => xw_s rfl rfl
set_option maxRecDepth 20000 in
theorem h126_64 :
  (∀ (a0 : Nat) (a1 : Int32) (a2 : Int32) (a3 : Int32) (a4 : Int32) (a5 : Int32) (st : List Value) (M : xM) (Q : Option Value → xM → Prop), xW xSC 126 64 [.ref a0, .int a1, .int a2, .int a3, .int a4, .int a5] (st) M Q = xW xSC 126 67 [.ref a0, .int a1, .int a2, .int a3, .int a4, .int (a5 + (-1))] (st) M Q) :=
  fun a0 a1 a2 a3 a4 a5 st M Q => xw_s rfl rfl
set_option maxRecDepth 20000 in
theorem h126_80 :
  (∀ (a0 : Nat) (a1 : Int32) (a2 : Int32) (a3 : Int32) (a4 : Int32) (a5 : Int32) (y0 : Int32) (M : xM) (Q : Option Value → xM → Prop), xW xSC 126 80 [.ref a0, .int a1, .int a2, .int a3, .int a4, .int a5] ([.int y0]) M Q = Q (some (.int y0)) M) :=
  fun a0 a1 a2 a3 a4 a5 y0 M Q => xw_ret rfl rfl
set_option maxRecDepth 20000 in
theorem j126 :
  (∀ (a0 : Nat) (a1 : Int32) (a2 : Int32) (a3 : Value) (a4 : Value) (a5 : Value) (st : List Value) (M : xM) (Q : Option Value → xM → Prop), xW xSC 126 19 [.ref a0, .int a1, .int a2, a3, a4, a5] (st) M Q = xW xSC 126 20 [.ref a0, .int a1, .int a2, a3, a4, a5] (.int (-1) :: st) M Q) ∧
  (∀ (a0 : Nat) (a1 : Int32) (a2 : Int32) (a3 : Int32) (a4 : Int32) (a5 : Int32) (st : List Value) (M : xM) (Q : Option Value → xM → Prop), xW xSC 126 64 [.ref a0, .int a1, .int a2, .int a3, .int a4, .int a5] (st) M Q = xW xSC 126 67 [.ref a0, .int a1, .int a2, .int a3, .int a4, .int (a5 + (-1))] (st) M Q) ∧
  (∀ (a0 : Nat) (a1 : Int32) (a2 : Int32) (a3 : Int32) (a4 : Int32) (a5 : Int32) (y0 : Int32) (M : xM) (Q : Option Value → xM → Prop), xW xSC 126 80 [.ref a0, .int a1, .int a2, .int a3, .int a4, .int a5] ([.int y0]) M Q = Q (some (.int y0)) M) :=
  ⟨fun a0 a1 a2 a3 a4 a5 st M Q => xw_s rfl rfl,
  fun a0 a1 a2 a3 a4 a5 st M Q => xw_s rfl rfl,
  fun a0 a1 a2 a3 a4 a5 y0 M Q => xw_ret rfl rfl⟩

set_option maxRecDepth 20000 in
theorem s127 :
  (∀ (a0 : Nat) (a1 : Int32) (a2 : Int32) (a3 : Int32) (a4 : Int32) (a5 : Int32) (a6 : Value) (a7 : Value) (st : List Value) (M : xM) (Q : Option Value → xM → Prop), xW xSC 127 0 [.ref a0, .int a1, .int a2, .int a3, .int a4, .int a5, a6, a7] (st) M Q = xW xSC 127 1 [.ref a0, .int a1, .int a2, .int a3, .int a4, .int a5, a6, a7] (.int a1 :: st) M Q) ∧
  (∀ (a0 : Nat) (a1 : Int32) (a2 : Int32) (a3 : Int32) (a4 : Int32) (a5 : Int32) (a6 : Value) (a7 : Value) (st : List Value) (M : xM) (Q : Option Value → xM → Prop), xW xSC 127 1 [.ref a0, .int a1, .int a2, .int a3, .int a4, .int a5, a6, a7] (st) M Q = xW xSC 127 2 [.ref a0, .int a1, .int a2, .int a3, .int a4, .int a5, a6, a7] (.int (nI 0) :: st) M Q) ∧
  (∀ (a0 : Nat) (a1 : Int32) (a2 : Int32) (a3 : Int32) (a4 : Int32) (a5 : Int32) (a6 : Value) (a7 : Value) (st : List Value) (M : xM) (Q : Option Value → xM → Prop), xW xSC 127 2 [.ref a0, .int a1, .int a2, .int a3, .int a4, .int a5, a6, a7] (st) M Q = xW xSC 127 5 [.ref a0, .int a1, .int a2, .int a3, .int a4, .int a5, a6, a7] (.int (nI 9999) :: st) M Q) ∧
  (∀ (a0 : Nat) (a1 : Int32) (a2 : Int32) (a3 : Int32) (a4 : Int32) (a5 : Int32) (a6 : Value) (a7 : Value) (y0 : Int32) (y1 : Int32) (y2 : Int32) (M : xM) (Q : Option Value → xM → Prop), xW xSC 127 5 [.ref a0, .int a1, .int a2, .int a3, .int a4, .int a5, a6, a7] (.int y0 :: .int y1 :: .int y2 :: []) M Q = xW xSC 132 0 [.int y2, .int y1, .int y0] [] M (fun v M' => xW xSC 127 8 [.ref a0, .int a1, .int a2, .int a3, .int a4, .int a5, a6, a7] (xpush v []) M' Q)) ∧
  (∀ (a0 : Nat) (a1 : Int32) (a2 : Int32) (a3 : Int32) (a4 : Int32) (a5 : Int32) (a6 : Value) (a7 : Value) (y0 : Int32) (st : List Value) (M : xM) (Q : Option Value → xM → Prop), xW xSC 127 8 [.ref a0, .int a1, .int a2, .int a3, .int a4, .int a5, a6, a7] (.int y0 :: st) M Q = if y0 = nI 0 then xW xSC 127 41 [.ref a0, .int a1, .int a2, .int a3, .int a4, .int a5, a6, a7] (st) M Q else xW xSC 127 11 [.ref a0, .int a1, .int a2, .int a3, .int a4, .int a5, a6, a7] (st) M Q) ∧
  (∀ (a0 : Nat) (a1 : Int32) (a2 : Int32) (a3 : Int32) (a4 : Int32) (a5 : Int32) (a6 : Value) (a7 : Value) (st : List Value) (M : xM) (Q : Option Value → xM → Prop), xW xSC 127 11 [.ref a0, .int a1, .int a2, .int a3, .int a4, .int a5, a6, a7] (st) M Q = xW xSC 127 12 [.ref a0, .int a1, .int a2, .int a3, .int a4, .int a5, a6, a7] (.int a2 :: st) M Q) ∧
  (∀ (a0 : Nat) (a1 : Int32) (a2 : Int32) (a3 : Int32) (a4 : Int32) (a5 : Int32) (a6 : Value) (a7 : Value) (st : List Value) (M : xM) (Q : Option Value → xM → Prop), xW xSC 127 12 [.ref a0, .int a1, .int a2, .int a3, .int a4, .int a5, a6, a7] (st) M Q = xW xSC 127 13 [.ref a0, .int a1, .int a2, .int a3, .int a4, .int a5, a6, a7] (.int (nI 1) :: st) M Q) ∧
  (∀ (a0 : Nat) (a1 : Int32) (a2 : Int32) (a3 : Int32) (a4 : Int32) (a5 : Int32) (a6 : Value) (a7 : Value) (st : List Value) (M : xM) (Q : Option Value → xM → Prop), xW xSC 127 13 [.ref a0, .int a1, .int a2, .int a3, .int a4, .int a5, a6, a7] (st) M Q = xW xSC 127 15 [.ref a0, .int a1, .int a2, .int a3, .int a4, .int a5, a6, a7] (.int (nI 99) :: st) M Q) ∧
  (∀ (a0 : Nat) (a1 : Int32) (a2 : Int32) (a3 : Int32) (a4 : Int32) (a5 : Int32) (a6 : Value) (a7 : Value) (y0 : Int32) (y1 : Int32) (y2 : Int32) (M : xM) (Q : Option Value → xM → Prop), xW xSC 127 15 [.ref a0, .int a1, .int a2, .int a3, .int a4, .int a5, a6, a7] (.int y0 :: .int y1 :: .int y2 :: []) M Q = xW xSC 132 0 [.int y2, .int y1, .int y0] [] M (fun v M' => xW xSC 127 18 [.ref a0, .int a1, .int a2, .int a3, .int a4, .int a5, a6, a7] (xpush v []) M' Q)) ∧
  (∀ (a0 : Nat) (a1 : Int32) (a2 : Int32) (a3 : Int32) (a4 : Int32) (a5 : Int32) (a6 : Value) (a7 : Value) (y0 : Int32) (st : List Value) (M : xM) (Q : Option Value → xM → Prop), xW xSC 127 18 [.ref a0, .int a1, .int a2, .int a3, .int a4, .int a5, a6, a7] (.int y0 :: st) M Q = if y0 = nI 0 then xW xSC 127 41 [.ref a0, .int a1, .int a2, .int a3, .int a4, .int a5, a6, a7] (st) M Q else xW xSC 127 21 [.ref a0, .int a1, .int a2, .int a3, .int a4, .int a5, a6, a7] (st) M Q) ∧
  (∀ (a0 : Nat) (a1 : Int32) (a2 : Int32) (a3 : Int32) (a4 : Int32) (a5 : Int32) (a6 : Value) (a7 : Value) (st : List Value) (M : xM) (Q : Option Value → xM → Prop), xW xSC 127 21 [.ref a0, .int a1, .int a2, .int a3, .int a4, .int a5, a6, a7] (st) M Q = xW xSC 127 22 [.ref a0, .int a1, .int a2, .int a3, .int a4, .int a5, a6, a7] (.ref a0 :: st) M Q) ∧
  (∀ (a0 : Nat) (a1 : Int32) (a2 : Int32) (a3 : Int32) (a4 : Int32) (a5 : Int32) (a6 : Value) (a7 : Value) (st : List Value) (M : xM) (Q : Option Value → xM → Prop), xW xSC 127 22 [.ref a0, .int a1, .int a2, .int a3, .int a4, .int a5, a6, a7] (st) M Q = xW xSC 127 23 [.ref a0, .int a1, .int a2, .int a3, .int a4, .int a5, a6, a7] (.int a3 :: st) M Q) ∧
  (∀ (a0 : Nat) (a1 : Int32) (a2 : Int32) (a3 : Int32) (a4 : Int32) (a5 : Int32) (a6 : Value) (a7 : Value) (st : List Value) (M : xM) (Q : Option Value → xM → Prop), xW xSC 127 23 [.ref a0, .int a1, .int a2, .int a3, .int a4, .int a5, a6, a7] (st) M Q = xW xSC 127 25 [.ref a0, .int a1, .int a2, .int a3, .int a4, .int a5, a6, a7] (.int a4 :: st) M Q) ∧
  (∀ (a0 : Nat) (a1 : Int32) (a2 : Int32) (a3 : Int32) (a4 : Int32) (a5 : Int32) (a6 : Value) (a7 : Value) (y0 : Int32) (y1 : Int32) (M : xM) (Q : Option Value → xM → Prop), xW xSC 127 25 [.ref a0, .int a1, .int a2, .int a3, .int a4, .int a5, a6, a7] (.int y0 :: .int y1 :: .ref 0 :: []) M Q = xW xSC 133 0 [.ref 0, .int y1, .int y0] [] M (fun v M' => xW xSC 127 28 [.ref a0, .int a1, .int a2, .int a3, .int a4, .int a5, a6, a7] (xpush v []) M' Q)) ∧
  (∀ (a0 : Nat) (a1 : Int32) (a2 : Int32) (a3 : Int32) (a4 : Int32) (a5 : Int32) (a6 : Value) (a7 : Value) (y0 : Int32) (st : List Value) (M : xM) (Q : Option Value → xM → Prop), xW xSC 127 28 [.ref a0, .int a1, .int a2, .int a3, .int a4, .int a5, a6, a7] (.int y0 :: st) M Q = if y0 = nI 0 then xW xSC 127 41 [.ref a0, .int a1, .int a2, .int a3, .int a4, .int a5, a6, a7] (st) M Q else xW xSC 127 31 [.ref a0, .int a1, .int a2, .int a3, .int a4, .int a5, a6, a7] (st) M Q) ∧
  (∀ (a0 : Nat) (a1 : Int32) (a2 : Int32) (a3 : Int32) (a4 : Int32) (a5 : Int32) (a6 : Value) (a7 : Value) (st : List Value) (M : xM) (Q : Option Value → xM → Prop), xW xSC 127 31 [.ref a0, .int a1, .int a2, .int a3, .int a4, .int a5, a6, a7] (st) M Q = xW xSC 127 33 [.ref a0, .int a1, .int a2, .int a3, .int a4, .int a5, a6, a7] (.int a5 :: st) M Q) ∧
  (∀ (a0 : Nat) (a1 : Int32) (a2 : Int32) (a3 : Int32) (a4 : Int32) (a5 : Int32) (a6 : Value) (a7 : Value) (st : List Value) (M : xM) (Q : Option Value → xM → Prop), xW xSC 127 33 [.ref a0, .int a1, .int a2, .int a3, .int a4, .int a5, a6, a7] (st) M Q = xW xSC 127 34 [.ref a0, .int a1, .int a2, .int a3, .int a4, .int a5, a6, a7] (.int (nI 0) :: st) M Q) ∧
  (∀ (a0 : Nat) (a1 : Int32) (a2 : Int32) (a3 : Int32) (a4 : Int32) (a5 : Int32) (a6 : Value) (a7 : Value) (st : List Value) (M : xM) (Q : Option Value → xM → Prop), xW xSC 127 34 [.ref a0, .int a1, .int a2, .int a3, .int a4, .int a5, a6, a7] (st) M Q = xW xSC 127 35 [.ref a0, .int a1, .int a2, .int a3, .int a4, .int a5, a6, a7] (.int (nI 1) :: st) M Q) ∧
  (∀ (a0 : Nat) (a1 : Int32) (a2 : Int32) (a3 : Int32) (a4 : Int32) (a5 : Int32) (a6 : Value) (a7 : Value) (y0 : Int32) (y1 : Int32) (y2 : Int32) (M : xM) (Q : Option Value → xM → Prop), xW xSC 127 35 [.ref a0, .int a1, .int a2, .int a3, .int a4, .int a5, a6, a7] (.int y0 :: .int y1 :: .int y2 :: []) M Q = xW xSC 132 0 [.int y2, .int y1, .int y0] [] M (fun v M' => xW xSC 127 38 [.ref a0, .int a1, .int a2, .int a3, .int a4, .int a5, a6, a7] (xpush v []) M' Q)) ∧
  (∀ (a0 : Nat) (a1 : Int32) (a2 : Int32) (a3 : Int32) (a4 : Int32) (a5 : Int32) (a6 : Value) (a7 : Value) (y0 : Int32) (st : List Value) (M : xM) (Q : Option Value → xM → Prop), xW xSC 127 38 [.ref a0, .int a1, .int a2, .int a3, .int a4, .int a5, a6, a7] (.int y0 :: st) M Q = if y0 = nI 0 then xW xSC 127 41 [.ref a0, .int a1, .int a2, .int a3, .int a4, .int a5, a6, a7] (st) M Q else xW xSC 127 43 [.ref a0, .int a1, .int a2, .int a3, .int a4, .int a5, a6, a7] (st) M Q) ∧
  (∀ (a0 : Nat) (a1 : Int32) (a2 : Int32) (a3 : Int32) (a4 : Int32) (a5 : Int32) (a6 : Value) (a7 : Value) (y0 : Int32) (M : xM) (Q : Option Value → xM → Prop), xW xSC 127 42 [.ref a0, .int a1, .int a2, .int a3, .int a4, .int a5, a6, a7] ([.int y0]) M Q = Q (some (.int y0)) M) ∧
  (∀ (a0 : Nat) (a1 : Int32) (a2 : Int32) (a3 : Int32) (a4 : Int32) (a5 : Int32) (a6 : Value) (a7 : Value) (st : List Value) (M : xM) (Q : Option Value → xM → Prop), xW xSC 127 43 [.ref a0, .int a1, .int a2, .int a3, .int a4, .int a5, a6, a7] (st) M Q = xW xSC 127 44 [.ref a0, .int a1, .int a2, .int a3, .int a4, .int a5, a6, a7] (.ref a0 :: st) M Q) ∧
  (∀ (a0 : Nat) (a1 : Int32) (a2 : Int32) (a3 : Int32) (a4 : Int32) (a5 : Int32) (a6 : Value) (a7 : Value) (st : List Value) (M : xM) (Q : Option Value → xM → Prop), xW xSC 127 44 [.ref a0, .int a1, .int a2, .int a3, .int a4, .int a5, a6, a7] (.ref 0 :: st) M Q = xW xSC 127 47 [.ref a0, .int a1, .int a2, .int a3, .int a4, .int a5, a6, a7] (.ref 33 :: st) M Q) ∧
  (∀ (a0 : Nat) (a1 : Int32) (a2 : Int32) (a3 : Int32) (a4 : Int32) (a5 : Int32) (a6 : Value) (a7 : Value) (st : List Value) (M : xM) (Q : Option Value → xM → Prop), xW xSC 127 47 [.ref a0, .int a1, .int a2, .int a3, .int a4, .int a5, a6, a7] (st) M Q = xW xSC 127 48 [.ref a0, .int a1, .int a2, .int a3, .int a4, .int a5, a6, a7] (.ref a0 :: st) M Q) ∧
  (∀ (a0 : Nat) (a1 : Int32) (a2 : Int32) (a3 : Int32) (a4 : Int32) (a5 : Int32) (a6 : Value) (a7 : Value) (st : List Value) (M : xM) (Q : Option Value → xM → Prop), xW xSC 127 48 [.ref a0, .int a1, .int a2, .int a3, .int a4, .int a5, a6, a7] (.ref 0 :: st) M Q = xW xSC 127 51 [.ref a0, .int a1, .int a2, .int a3, .int a4, .int a5, a6, a7] (.ref 9 :: st) M Q) ∧
  (∀ (a0 : Nat) (a1 : Int32) (a2 : Int32) (a3 : Int32) (a4 : Int32) (a5 : Int32) (a6 : Value) (a7 : Value) (st : List Value) (M : xM) (Q : Option Value → xM → Prop), xW xSC 127 51 [.ref a0, .int a1, .int a2, .int a3, .int a4, .int a5, a6, a7] (st) M Q = xW xSC 127 52 [.ref a0, .int a1, .int a2, .int a3, .int a4, .int a5, a6, a7] (.int a3 :: st) M Q) ∧
  (∀ (a0 : Nat) (a1 : Int32) (a2 : Int32) (a3 : Int32) (a4 : Int32) (a5 : Int32) (a6 : Value) (a7 : Value) (st : List Value) (M : xM) (Q : Option Value → xM → Prop), xW xSC 127 52 [.ref a0, .int a1, .int a2, .int a3, .int a4, .int a5, a6, a7] (st) M Q = xW xSC 127 54 [.ref a0, .int a1, .int a2, .int a3, .int a4, .int a5, a6, a7] (.int a4 :: st) M Q) ∧
  (∀ (a0 : Nat) (a1 : Int32) (a2 : Int32) (a3 : Int32) (a4 : Int32) (a5 : Int32) (a6 : Value) (a7 : Value) (y0 : Int32) (y1 : Int32) (y2 : Nat) (M : xM) (Q : Option Value → xM → Prop), xW xSC 127 54 [.ref a0, .int a1, .int a2, .int a3, .int a4, .int a5, a6, a7] (.int y0 :: .int y1 :: .ref y2 :: .ref 33 :: []) M Q = xW xSC 44 0 [.ref 33, .ref y2, .int y1, .int y0] [] M (fun v M' => xW xSC 127 57 [.ref a0, .int a1, .int a2, .int a3, .int a4, .int a5, a6, a7] (xpush v []) M' Q)) ∧
  (∀ (a0 : Nat) (a1 : Int32) (a2 : Int32) (a3 : Int32) (a4 : Int32) (a5 : Int32) (a6 : Value) (a7 : Value) (st : List Value) (M : xM) (Q : Option Value → xM → Prop), xW xSC 127 57 [.ref a0, .int a1, .int a2, .int a3, .int a4, .int a5, a6, a7] (st) M Q = xW xSC 127 58 [.ref a0, .int a1, .int a2, .int a3, .int a4, .int a5, a6, a7] (.int (nI 0) :: st) M Q) ∧
  (∀ (a0 : Nat) (a1 : Int32) (a2 : Int32) (a3 : Int32) (a4 : Int32) (a5 : Int32) (a6 : Value) (a7 : Value) (y0 : Int32) (st : List Value) (M : xM) (Q : Option Value → xM → Prop), xW xSC 127 58 [.ref a0, .int a1, .int a2, .int a3, .int a4, .int a5, a6, a7] (.int y0 :: st) M Q = xW xSC 127 60 [.ref a0, .int a1, .int a2, .int a3, .int a4, .int a5, .int y0, a7] (st) M Q) ∧
  (∀ (a0 : Nat) (a1 : Int32) (a2 : Int32) (a3 : Int32) (a4 : Int32) (a5 : Int32) (a6 : Int32) (a7 : Value) (st : List Value) (M : xM) (Q : Option Value → xM → Prop), xW xSC 127 60 [.ref a0, .int a1, .int a2, .int a3, .int a4, .int a5, .int a6, a7] (st) M Q = xW xSC 127 61 [.ref a0, .int a1, .int a2, .int a3, .int a4, .int a5, .int a6, a7] (.int (nI 0) :: st) M Q) ∧
  (∀ (a0 : Nat) (a1 : Int32) (a2 : Int32) (a3 : Int32) (a4 : Int32) (a5 : Int32) (a6 : Int32) (a7 : Value) (y0 : Int32) (st : List Value) (M : xM) (Q : Option Value → xM → Prop), xW xSC 127 61 [.ref a0, .int a1, .int a2, .int a3, .int a4, .int a5, .int a6, a7] (.int y0 :: st) M Q = xW xSC 127 63 [.ref a0, .int a1, .int a2, .int a3, .int a4, .int a5, .int a6, .int y0] (st) M Q) ∧
  (∀ (a0 : Nat) (a1 : Int32) (a2 : Int32) (a3 : Int32) (a4 : Int32) (a5 : Int32) (a6 : Int32) (a7 : Int32) (st : List Value) (M : xM) (Q : Option Value → xM → Prop), xW xSC 127 65 [.ref a0, .int a1, .int a2, .int a3, .int a4, .int a5, .int a6, .int a7] (st) M Q = xW xSC 127 66 [.ref a0, .int a1, .int a2, .int a3, .int a4, .int a5, .int a6, .int a7] (.int a2 :: st) M Q) ∧
  (∀ (a0 : Nat) (a1 : Int32) (a2 : Int32) (a3 : Int32) (a4 : Int32) (a5 : Int32) (a6 : Int32) (a7 : Int32) (y0 : Int32) (y1 : Int32) (st : List Value) (M : xM) (Q : Option Value → xM → Prop), xW xSC 127 66 [.ref a0, .int a1, .int a2, .int a3, .int a4, .int a5, .int a6, .int a7] (.int y0 :: .int y1 :: st) M Q = if y1 < y0 then xW xSC 127 69 [.ref a0, .int a1, .int a2, .int a3, .int a4, .int a5, .int a6, .int a7] (st) M Q else xW xSC 127 94 [.ref a0, .int a1, .int a2, .int a3, .int a4, .int a5, .int a6, .int a7] (st) M Q) ∧
  (∀ (a0 : Nat) (a1 : Int32) (a2 : Int32) (a3 : Int32) (a4 : Int32) (a5 : Int32) (a6 : Int32) (a7 : Int32) (st : List Value) (M : xM) (Q : Option Value → xM → Prop), xW xSC 127 69 [.ref a0, .int a1, .int a2, .int a3, .int a4, .int a5, .int a6, .int a7] (st) M Q = xW xSC 127 70 [.ref a0, .int a1, .int a2, .int a3, .int a4, .int a5, .int a6, .int a7] (.ref a0 :: st) M Q) ∧
  (∀ (a0 : Nat) (a1 : Int32) (a2 : Int32) (a3 : Int32) (a4 : Int32) (a5 : Int32) (a6 : Int32) (a7 : Int32) (st : List Value) (M : xM) (Q : Option Value → xM → Prop), xW xSC 127 70 [.ref a0, .int a1, .int a2, .int a3, .int a4, .int a5, .int a6, .int a7] (.ref 0 :: st) M Q = xW xSC 127 73 [.ref a0, .int a1, .int a2, .int a3, .int a4, .int a5, .int a6, .int a7] (.ref 33 :: st) M Q) ∧
  (∀ (a0 : Nat) (a1 : Int32) (a2 : Int32) (a3 : Int32) (a4 : Int32) (a5 : Int32) (a6 : Int32) (a7 : Int32) (st : List Value) (M : xM) (Q : Option Value → xM → Prop), xW xSC 127 73 [.ref a0, .int a1, .int a2, .int a3, .int a4, .int a5, .int a6, .int a7] (st) M Q = xW xSC 127 74 [.ref a0, .int a1, .int a2, .int a3, .int a4, .int a5, .int a6, .int a7] (.int a1 :: st) M Q) ∧
  (∀ (a0 : Nat) (a1 : Int32) (a2 : Int32) (a3 : Int32) (a4 : Int32) (a5 : Int32) (a6 : Int32) (a7 : Int32) (st : List Value) (M : xM) (Q : Option Value → xM → Prop), xW xSC 127 74 [.ref a0, .int a1, .int a2, .int a3, .int a4, .int a5, .int a6, .int a7] (st) M Q = xW xSC 127 76 [.ref a0, .int a1, .int a2, .int a3, .int a4, .int a5, .int a6, .int a7] (.int a7 :: st) M Q) ∧
  (∀ (a0 : Nat) (a1 : Int32) (a2 : Int32) (a3 : Int32) (a4 : Int32) (a5 : Int32) (a6 : Int32) (a7 : Int32) (y0 : Int32) (y1 : Int32) (y2 : Nat) (M : xM) (Q : Option Value → xM → Prop), xW xSC 127 76 [.ref a0, .int a1, .int a2, .int a3, .int a4, .int a5, .int a6, .int a7] (.int y0 :: .int y1 :: .ref y2 :: []) M Q = xW xSC 128 0 [.int y1, .int y0, .null, .null] [] M (fun v M' => xW xSC 127 79 [.ref a0, .int a1, .int a2, .int a3, .int a4, .int a5, .int a6, .int a7] (xpush v [.ref y2]) M' Q)) ∧
  (∀ (a0 : Nat) (a1 : Int32) (a2 : Int32) (a3 : Int32) (a4 : Int32) (a5 : Int32) (a6 : Int32) (a7 : Int32) (y0 : Int32) (M : xM) (Q : Option Value → xM → Prop), xW xSC 127 79 [.ref a0, .int a1, .int a2, .int a3, .int a4, .int a5, .int a6, .int a7] (.int y0 :: .ref 33 :: []) M Q = xW xSC 54 0 [.ref 33, .int y0, .null] [] M (fun v M' => xW xSC 127 82 [.ref a0, .int a1, .int a2, .int a3, .int a4, .int a5, .int a6, .int a7] (xpush v []) M' Q)) ∧
  (∀ (a0 : Nat) (a1 : Int32) (a2 : Int32) (a3 : Int32) (a4 : Int32) (a5 : Int32) (a6 : Int32) (a7 : Int32) (y0 : Int32) (st : List Value) (M : xM) (Q : Option Value → xM → Prop), xW xSC 127 82 [.ref a0, .int a1, .int a2, .int a3, .int a4, .int a5, .int a6, .int a7] (.int y0 :: st) M Q = if y0 = nI 0 then xW xSC 127 88 [.ref a0, .int a1, .int a2, .int a3, .int a4, .int a5, .int a6, .int a7] (st) M Q else xW xSC 127 85 [.ref a0, .int a1, .int a2, .int a3, .int a4, .int a5, .int a6, .int a7] (st) M Q) ∧
  (∀ (a0 : Nat) (a1 : Int32) (a2 : Int32) (a3 : Int32) (a4 : Int32) (a5 : Int32) (a6 : Int32) (a7 : Int32) (st : List Value) (M : xM) (Q : Option Value → xM → Prop), xW xSC 127 85 [.ref a0, .int a1, .int a2, .int a3, .int a4, .int a5, .int a6, .int a7] (st) M Q = xW xSC 127 88 [.ref a0, .int a1, .int a2, .int a3, .int a4, .int a5, .int (a6 + nI 1), .int a7] (st) M Q) ∧
  (∀ (a0 : Nat) (a1 : Int32) (a2 : Int32) (a3 : Int32) (a4 : Int32) (a5 : Int32) (a6 : Int32) (a7 : Int32) (st : List Value) (M : xM) (Q : Option Value → xM → Prop), xW xSC 127 91 [.ref a0, .int a1, .int a2, .int a3, .int a4, .int a5, .int a6, .int a7] (st) M Q = xW xSC 127 63 [.ref a0, .int a1, .int a2, .int a3, .int a4, .int a5, .int a6, .int a7] (st) M Q) ∧
  (∀ (a0 : Nat) (a1 : Int32) (a2 : Int32) (a3 : Int32) (a4 : Int32) (a5 : Int32) (a6 : Int32) (a7 : Int32) (st : List Value) (M : xM) (Q : Option Value → xM → Prop), xW xSC 127 94 [.ref a0, .int a1, .int a2, .int a3, .int a4, .int a5, .int a6, .int a7] (st) M Q = xW xSC 127 95 [.ref a0, .int a1, .int a2, .int a3, .int a4, .int a5, .int a6, .int a7] (.ref a0 :: st) M Q) ∧
  (∀ (a0 : Nat) (a1 : Int32) (a2 : Int32) (a3 : Int32) (a4 : Int32) (a5 : Int32) (a6 : Int32) (a7 : Int32) (st : List Value) (M : xM) (Q : Option Value → xM → Prop), xW xSC 127 95 [.ref a0, .int a1, .int a2, .int a3, .int a4, .int a5, .int a6, .int a7] (.ref 0 :: st) M Q = xW xSC 127 98 [.ref a0, .int a1, .int a2, .int a3, .int a4, .int a5, .int a6, .int a7] (.ref 9 :: st) M Q) ∧
  (∀ (a0 : Nat) (a1 : Int32) (a2 : Int32) (a3 : Int32) (a4 : Int32) (a5 : Int32) (a6 : Int32) (a7 : Int32) (st : List Value) (M : xM) (Q : Option Value → xM → Prop), xW xSC 127 98 [.ref a0, .int a1, .int a2, .int a3, .int a4, .int a5, .int a6, .int a7] (st) M Q = xW xSC 127 99 [.ref a0, .int a1, .int a2, .int a3, .int a4, .int a5, .int a6, .int a7] (.int a3 :: st) M Q) ∧
  (∀ (a0 : Nat) (a1 : Int32) (a2 : Int32) (a3 : Int32) (a4 : Int32) (a5 : Int32) (a6 : Int32) (a7 : Int32) (st : List Value) (M : xM) (Q : Option Value → xM → Prop), xW xSC 127 99 [.ref a0, .int a1, .int a2, .int a3, .int a4, .int a5, .int a6, .int a7] (st) M Q = xW xSC 127 101 [.ref a0, .int a1, .int a2, .int a3, .int a4, .int a5, .int a6, .int a7] (.int a4 :: st) M Q) ∧
  (∀ (a0 : Nat) (a1 : Int32) (a2 : Int32) (a3 : Int32) (a4 : Int32) (a5 : Int32) (a6 : Int32) (a7 : Int32) (y0 : Int32) (y1 : Int32) (M : xM) (Q : Option Value → xM → Prop), xW xSC 127 101 [.ref a0, .int a1, .int a2, .int a3, .int a4, .int a5, .int a6, .int a7] (.int y0 :: .int y1 :: .ref 9 :: []) M Q = xW xSC 37 0 [.ref 9, .int y1, .int y0] [] M (fun v M' => xW xSC 127 104 [.ref a0, .int a1, .int a2, .int a3, .int a4, .int a5, .int a6, .int a7] (xpush v []) M' Q)) ∧
  (∀ (a0 : Nat) (a1 : Int32) (a2 : Int32) (a3 : Int32) (a4 : Int32) (a5 : Int32) (a6 : Int32) (a7 : Int32) (y0 : Int32) (st : List Value) (M : xM) (Q : Option Value → xM → Prop), xW xSC 127 104 [.ref a0, .int a1, .int a2, .int a3, .int a4, .int a5, .int a6, .int a7] (.int y0 :: st) M Q = xW xSC 127 106 [.ref a0, .int a1, .int a2, .int a3, .int a4, .int a5, .int a6, .int y0] (st) M Q) ∧
  (∀ (a0 : Nat) (a1 : Int32) (a2 : Int32) (a3 : Int32) (a4 : Int32) (a5 : Int32) (a6 : Int32) (a7 : Int32) (st : List Value) (M : xM) (Q : Option Value → xM → Prop), xW xSC 127 106 [.ref a0, .int a1, .int a2, .int a3, .int a4, .int a5, .int a6, .int a7] (st) M Q = xW xSC 127 108 [.ref a0, .int a1, .int a2, .int a3, .int a4, .int a5, .int a6, .int a7] (.int a5 :: st) M Q) ∧
  (∀ (a0 : Nat) (a1 : Int32) (a2 : Int32) (a3 : Int32) (a4 : Int32) (a5 : Int32) (a6 : Int32) (a7 : Int32) (st : List Value) (M : xM) (Q : Option Value → xM → Prop), xW xSC 127 108 [.ref a0, .int a1, .int a2, .int a3, .int a4, .int a5, .int a6, .int a7] (st) M Q = xW xSC 127 109 [.ref a0, .int a1, .int a2, .int a3, .int a4, .int a5, .int a6, .int a7] (.int (nI 1) :: st) M Q) ∧
  (∀ (a0 : Nat) (a1 : Int32) (a2 : Int32) (a3 : Int32) (a4 : Int32) (a5 : Int32) (a6 : Int32) (a7 : Int32) (y0 : Int32) (y1 : Int32) (st : List Value) (M : xM) (Q : Option Value → xM → Prop), xW xSC 127 109 [.ref a0, .int a1, .int a2, .int a3, .int a4, .int a5, .int a6, .int a7] (.int y0 :: .int y1 :: st) M Q = if y1 = y0 then xW xSC 127 112 [.ref a0, .int a1, .int a2, .int a3, .int a4, .int a5, .int a6, .int a7] (st) M Q else xW xSC 127 125 [.ref a0, .int a1, .int a2, .int a3, .int a4, .int a5, .int a6, .int a7] (st) M Q) ∧
  (∀ (a0 : Nat) (a1 : Int32) (a2 : Int32) (a3 : Int32) (a4 : Int32) (a5 : Int32) (a6 : Int32) (a7 : Int32) (st : List Value) (M : xM) (Q : Option Value → xM → Prop), xW xSC 127 112 [.ref a0, .int a1, .int a2, .int a3, .int a4, .int a5, .int a6, .int a7] (st) M Q = xW xSC 127 114 [.ref a0, .int a1, .int a2, .int a3, .int a4, .int a5, .int a6, .int a7] (.int a7 :: st) M Q) ∧
  (∀ (a0 : Nat) (a1 : Int32) (a2 : Int32) (a3 : Int32) (a4 : Int32) (a5 : Int32) (a6 : Int32) (a7 : Int32) (st : List Value) (M : xM) (Q : Option Value → xM → Prop), xW xSC 127 114 [.ref a0, .int a1, .int a2, .int a3, .int a4, .int a5, .int a6, .int a7] (st) M Q = xW xSC 127 115 [.ref a0, .int a1, .int a2, .int a3, .int a4, .int a5, .int a6, .int a7] (.int (nI 1) :: st) M Q) ∧
  (∀ (a0 : Nat) (a1 : Int32) (a2 : Int32) (a3 : Int32) (a4 : Int32) (a5 : Int32) (a6 : Int32) (a7 : Int32) (y0 : Int32) (y1 : Int32) (st : List Value) (M : xM) (Q : Option Value → xM → Prop), xW xSC 127 115 [.ref a0, .int a1, .int a2, .int a3, .int a4, .int a5, .int a6, .int a7] (.int y0 :: .int y1 :: st) M Q = if y1 = y0 then xW xSC 127 118 [.ref a0, .int a1, .int a2, .int a3, .int a4, .int a5, .int a6, .int a7] (st) M Q else xW xSC 127 122 [.ref a0, .int a1, .int a2, .int a3, .int a4, .int a5, .int a6, .int a7] (st) M Q) ∧
  (∀ (a0 : Nat) (a1 : Int32) (a2 : Int32) (a3 : Int32) (a4 : Int32) (a5 : Int32) (a6 : Int32) (a7 : Int32) (st : List Value) (M : xM) (Q : Option Value → xM → Prop), xW xSC 127 118 [.ref a0, .int a1, .int a2, .int a3, .int a4, .int a5, .int a6, .int a7] (st) M Q = xW xSC 127 119 [.ref a0, .int a1, .int a2, .int a3, .int a4, .int a5, .int a6, .int a7] (.int a2 :: st) M Q) ∧
  (∀ (a0 : Nat) (a1 : Int32) (a2 : Int32) (a3 : Int32) (a4 : Int32) (a5 : Int32) (a6 : Int32) (a7 : Int32) (st : List Value) (M : xM) (Q : Option Value → xM → Prop), xW xSC 127 119 [.ref a0, .int a1, .int a2, .int a3, .int a4, .int a5, .int a6, .int a7] (st) M Q = xW xSC 127 124 [.ref a0, .int a1, .int a2, .int a3, .int a4, .int a5, .int a6, .int a7] (st) M Q) ∧
  (∀ (a0 : Nat) (a1 : Int32) (a2 : Int32) (a3 : Int32) (a4 : Int32) (a5 : Int32) (a6 : Int32) (a7 : Int32) (st : List Value) (M : xM) (Q : Option Value → xM → Prop), xW xSC 127 122 [.ref a0, .int a1, .int a2, .int a3, .int a4, .int a5, .int a6, .int a7] (st) M Q = xW xSC 127 124 [.ref a0, .int a1, .int a2, .int a3, .int a4, .int a5, .int a6, .int a7] (.int a6 :: st) M Q) ∧
  (∀ (a0 : Nat) (a1 : Int32) (a2 : Int32) (a3 : Int32) (a4 : Int32) (a5 : Int32) (a6 : Int32) (a7 : Int32) (st : List Value) (M : xM) (Q : Option Value → xM → Prop), xW xSC 127 125 [.ref a0, .int a1, .int a2, .int a3, .int a4, .int a5, .int a6, .int a7] (st) M Q = xW xSC 127 127 [.ref a0, .int a1, .int a2, .int a3, .int a4, .int a5, .int a6, .int a7] (.int a7 :: st) M Q) ∧
  (∀ (a0 : Nat) (a1 : Int32) (a2 : Int32) (a3 : Int32) (a4 : Int32) (a5 : Int32) (a6 : Int32) (a7 : Int32) (st : List Value) (M : xM) (Q : Option Value → xM → Prop), xW xSC 127 127 [.ref a0, .int a1, .int a2, .int a3, .int a4, .int a5, .int a6, .int a7] (st) M Q = xW xSC 127 128 [.ref a0, .int a1, .int a2, .int a3, .int a4, .int a5, .int a6, .int a7] (.int (nI 2) :: st) M Q) ∧
  (∀ (a0 : Nat) (a1 : Int32) (a2 : Int32) (a3 : Int32) (a4 : Int32) (a5 : Int32) (a6 : Int32) (a7 : Int32) (y0 : Int32) (y1 : Int32) (st : List Value) (M : xM) (Q : Option Value → xM → Prop), xW xSC 127 128 [.ref a0, .int a1, .int a2, .int a3, .int a4, .int a5, .int a6, .int a7] (.int y0 :: .int y1 :: st) M Q = if y1 = y0 then xW xSC 127 131 [.ref a0, .int a1, .int a2, .int a3, .int a4, .int a5, .int a6, .int a7] (st) M Q else xW xSC 127 133 [.ref a0, .int a1, .int a2, .int a3, .int a4, .int a5, .int a6, .int a7] (st) M Q) ∧
  (∀ (a0 : Nat) (a1 : Int32) (a2 : Int32) (a3 : Int32) (a4 : Int32) (a5 : Int32) (a6 : Int32) (a7 : Int32) (st : List Value) (M : xM) (Q : Option Value → xM → Prop), xW xSC 127 131 [.ref a0, .int a1, .int a2, .int a3, .int a4, .int a5, .int a6, .int a7] (st) M Q = xW xSC 127 132 [.ref a0, .int a1, .int a2, .int a3, .int a4, .int a5, .int a6, .int a7] (.int (nI 0) :: st) M Q) ∧
  (∀ (a0 : Nat) (a1 : Int32) (a2 : Int32) (a3 : Int32) (a4 : Int32) (a5 : Int32) (a6 : Int32) (a7 : Int32) (y0 : Int32) (M : xM) (Q : Option Value → xM → Prop), xW xSC 127 132 [.ref a0, .int a1, .int a2, .int a3, .int a4, .int a5, .int a6, .int a7] ([.int y0]) M Q = Q (some (.int y0)) M) ∧
  (∀ (a0 : Nat) (a1 : Int32) (a2 : Int32) (a3 : Int32) (a4 : Int32) (a5 : Int32) (a6 : Int32) (a7 : Int32) (st : List Value) (M : xM) (Q : Option Value → xM → Prop), xW xSC 127 133 [.ref a0, .int a1, .int a2, .int a3, .int a4, .int a5, .int a6, .int a7] (st) M Q = xW xSC 127 135 [.ref a0, .int a1, .int a2, .int a3, .int a4, .int a5, .int a6, .int a7] (.int a7 :: st) M Q) ∧
  (∀ (a0 : Nat) (a1 : Int32) (a2 : Int32) (a3 : Int32) (a4 : Int32) (a5 : Int32) (a6 : Int32) (a7 : Int32) (y0 : Int32) (st : List Value) (M : xM) (Q : Option Value → xM → Prop), xW xSC 127 135 [.ref a0, .int a1, .int a2, .int a3, .int a4, .int a5, .int a6, .int a7] (.int y0 :: st) M Q = if y0 = nI 0 then xW xSC 127 138 [.ref a0, .int a1, .int a2, .int a3, .int a4, .int a5, .int a6, .int a7] (st) M Q else xW xSC 127 143 [.ref a0, .int a1, .int a2, .int a3, .int a4, .int a5, .int a6, .int a7] (st) M Q) ∧
  (∀ (a0 : Nat) (a1 : Int32) (a2 : Int32) (a3 : Int32) (a4 : Int32) (a5 : Int32) (a6 : Int32) (a7 : Int32) (st : List Value) (M : xM) (Q : Option Value → xM → Prop), xW xSC 127 138 [.ref a0, .int a1, .int a2, .int a3, .int a4, .int a5, .int a6, .int a7] (st) M Q = xW xSC 127 140 [.ref a0, .int a1, .int a2, .int a3, .int a4, .int a5, .int a6, .int a7] (.int a6 :: st) M Q) ∧
  (∀ (a0 : Nat) (a1 : Int32) (a2 : Int32) (a3 : Int32) (a4 : Int32) (a5 : Int32) (a6 : Int32) (a7 : Int32) (st : List Value) (M : xM) (Q : Option Value → xM → Prop), xW xSC 127 140 [.ref a0, .int a1, .int a2, .int a3, .int a4, .int a5, .int a6, .int a7] (st) M Q = xW xSC 127 147 [.ref a0, .int a1, .int a2, .int a3, .int a4, .int a5, .int a6, .int a7] (st) M Q) ∧
  (∀ (a0 : Nat) (a1 : Int32) (a2 : Int32) (a3 : Int32) (a4 : Int32) (a5 : Int32) (a6 : Int32) (a7 : Int32) (st : List Value) (M : xM) (Q : Option Value → xM → Prop), xW xSC 127 143 [.ref a0, .int a1, .int a2, .int a3, .int a4, .int a5, .int a6, .int a7] (st) M Q = xW xSC 127 144 [.ref a0, .int a1, .int a2, .int a3, .int a4, .int a5, .int a6, .int a7] (.int a2 :: st) M Q) ∧
  (∀ (a0 : Nat) (a1 : Int32) (a2 : Int32) (a3 : Int32) (a4 : Int32) (a5 : Int32) (a6 : Int32) (a7 : Int32) (st : List Value) (M : xM) (Q : Option Value → xM → Prop), xW xSC 127 144 [.ref a0, .int a1, .int a2, .int a3, .int a4, .int a5, .int a6, .int a7] (st) M Q = xW xSC 127 146 [.ref a0, .int a1, .int a2, .int a3, .int a4, .int a5, .int a6, .int a7] (.int a6 :: st) M Q) ∧
  (∀ (a0 : Nat) (a1 : Int32) (a2 : Int32) (a3 : Int32) (a4 : Int32) (a5 : Int32) (a6 : Int32) (a7 : Int32) (y0 : Int32) (y1 : Int32) (st : List Value) (M : xM) (Q : Option Value → xM → Prop), xW xSC 127 146 [.ref a0, .int a1, .int a2, .int a3, .int a4, .int a5, .int a6, .int a7] (.int y0 :: .int y1 :: st) M Q = xW xSC 127 147 [.ref a0, .int a1, .int a2, .int a3, .int a4, .int a5, .int a6, .int a7] (.int (y1 - y0) :: st) M Q) :=
  ⟨fun a0 a1 a2 a3 a4 a5 a6 a7 st M Q => xw_s rfl rfl,
  fun a0 a1 a2 a3 a4 a5 a6 a7 st M Q => xw_s rfl rfl,
  fun a0 a1 a2 a3 a4 a5 a6 a7 st M Q => xw_s rfl rfl,
  fun a0 a1 a2 a3 a4 a5 a6 a7 y0 y1 y2 M Q => xw_call rfl rfl rfl,
  fun a0 a1 a2 a3 a4 a5 a6 a7 y0 st M Q => xw_br (c0 := y0 = nI 0) rfl rfl,
  fun a0 a1 a2 a3 a4 a5 a6 a7 st M Q => xw_s rfl rfl,
  fun a0 a1 a2 a3 a4 a5 a6 a7 st M Q => xw_s rfl rfl,
  fun a0 a1 a2 a3 a4 a5 a6 a7 st M Q => xw_s rfl rfl,
  fun a0 a1 a2 a3 a4 a5 a6 a7 y0 y1 y2 M Q => xw_call rfl rfl rfl,
  fun a0 a1 a2 a3 a4 a5 a6 a7 y0 st M Q => xw_br (c0 := y0 = nI 0) rfl rfl,
  fun a0 a1 a2 a3 a4 a5 a6 a7 st M Q => xw_s rfl rfl,
  fun a0 a1 a2 a3 a4 a5 a6 a7 st M Q => xw_s rfl rfl,
  fun a0 a1 a2 a3 a4 a5 a6 a7 st M Q => xw_s rfl rfl,
  fun a0 a1 a2 a3 a4 a5 a6 a7 y0 y1 M Q => xw_call rfl rfl rfl,
  fun a0 a1 a2 a3 a4 a5 a6 a7 y0 st M Q => xw_br (c0 := y0 = nI 0) rfl rfl,
  fun a0 a1 a2 a3 a4 a5 a6 a7 st M Q => xw_s rfl rfl,
  fun a0 a1 a2 a3 a4 a5 a6 a7 st M Q => xw_s rfl rfl,
  fun a0 a1 a2 a3 a4 a5 a6 a7 st M Q => xw_s rfl rfl,
  fun a0 a1 a2 a3 a4 a5 a6 a7 y0 y1 y2 M Q => xw_call rfl rfl rfl,
  fun a0 a1 a2 a3 a4 a5 a6 a7 y0 st M Q => xw_brn (c0 := y0 ≠ nI 0) (c1 := y0 = nI 0) rfl rfl (Iff.rfl),
  fun a0 a1 a2 a3 a4 a5 a6 a7 y0 M Q => xw_ret rfl rfl,
  fun a0 a1 a2 a3 a4 a5 a6 a7 st M Q => xw_s rfl rfl,
  fun a0 a1 a2 a3 a4 a5 a6 a7 st M Q => xw_s rfl rfl,
  fun a0 a1 a2 a3 a4 a5 a6 a7 st M Q => xw_s rfl rfl,
  fun a0 a1 a2 a3 a4 a5 a6 a7 st M Q => xw_s rfl rfl,
  fun a0 a1 a2 a3 a4 a5 a6 a7 st M Q => xw_s rfl rfl,
  fun a0 a1 a2 a3 a4 a5 a6 a7 st M Q => xw_s rfl rfl,
  fun a0 a1 a2 a3 a4 a5 a6 a7 y0 y1 y2 M Q => xw_call rfl rfl rfl,
  fun a0 a1 a2 a3 a4 a5 a6 a7 st M Q => xw_s rfl rfl,
  fun a0 a1 a2 a3 a4 a5 a6 a7 y0 st M Q => xw_s rfl rfl,
  fun a0 a1 a2 a3 a4 a5 a6 a7 st M Q => xw_s rfl rfl,
  fun a0 a1 a2 a3 a4 a5 a6 a7 y0 st M Q => xw_s rfl rfl,
  fun a0 a1 a2 a3 a4 a5 a6 a7 st M Q => xw_s rfl rfl,
  fun a0 a1 a2 a3 a4 a5 a6 a7 y0 y1 st M Q => xw_brn (c0 := y0 ≤ y1) (c1 := y1 < y0) rfl rfl (xge _ _),
  fun a0 a1 a2 a3 a4 a5 a6 a7 st M Q => xw_s rfl rfl,
  fun a0 a1 a2 a3 a4 a5 a6 a7 st M Q => xw_s rfl rfl,
  fun a0 a1 a2 a3 a4 a5 a6 a7 st M Q => xw_s rfl rfl,
  fun a0 a1 a2 a3 a4 a5 a6 a7 st M Q => xw_s rfl rfl,
  fun a0 a1 a2 a3 a4 a5 a6 a7 y0 y1 y2 M Q => xw_call rfl rfl rfl,
  fun a0 a1 a2 a3 a4 a5 a6 a7 y0 M Q => xw_call rfl rfl rfl,
  fun a0 a1 a2 a3 a4 a5 a6 a7 y0 st M Q => xw_br (c0 := y0 = nI 0) rfl rfl,
  fun a0 a1 a2 a3 a4 a5 a6 a7 st M Q => xw_s rfl rfl,
  fun a0 a1 a2 a3 a4 a5 a6 a7 st M Q => xw_s rfl rfl,
  fun a0 a1 a2 a3 a4 a5 a6 a7 st M Q => xw_s rfl rfl,
  fun a0 a1 a2 a3 a4 a5 a6 a7 st M Q => xw_s rfl rfl,
  fun a0 a1 a2 a3 a4 a5 a6 a7 st M Q => xw_s rfl rfl,
  fun a0 a1 a2 a3 a4 a5 a6 a7 st M Q => xw_s rfl rfl,
  fun a0 a1 a2 a3 a4 a5 a6 a7 y0 y1 M Q => xw_call rfl rfl rfl,
  fun a0 a1 a2 a3 a4 a5 a6 a7 y0 st M Q => xw_s rfl rfl,
  fun a0 a1 a2 a3 a4 a5 a6 a7 st M Q => xw_s rfl rfl,
  fun a0 a1 a2 a3 a4 a5 a6 a7 st M Q => xw_s rfl rfl,
  fun a0 a1 a2 a3 a4 a5 a6 a7 y0 y1 st M Q => xw_brn (c0 := y1 ≠ y0) (c1 := y1 = y0) rfl rfl (Iff.rfl),
  fun a0 a1 a2 a3 a4 a5 a6 a7 st M Q => xw_s rfl rfl,
  fun a0 a1 a2 a3 a4 a5 a6 a7 st M Q => xw_s rfl rfl,
  fun a0 a1 a2 a3 a4 a5 a6 a7 y0 y1 st M Q => xw_brn (c0 := y1 ≠ y0) (c1 := y1 = y0) rfl rfl (Iff.rfl),
  fun a0 a1 a2 a3 a4 a5 a6 a7 st M Q => xw_s rfl rfl,
  fun a0 a1 a2 a3 a4 a5 a6 a7 st M Q => xw_s rfl rfl,
  fun a0 a1 a2 a3 a4 a5 a6 a7 st M Q => xw_s rfl rfl,
  fun a0 a1 a2 a3 a4 a5 a6 a7 st M Q => xw_s rfl rfl,
  fun a0 a1 a2 a3 a4 a5 a6 a7 st M Q => xw_s rfl rfl,
  fun a0 a1 a2 a3 a4 a5 a6 a7 y0 y1 st M Q => xw_brn (c0 := y1 ≠ y0) (c1 := y1 = y0) rfl rfl (Iff.rfl),
  fun a0 a1 a2 a3 a4 a5 a6 a7 st M Q => xw_s rfl rfl,
  fun a0 a1 a2 a3 a4 a5 a6 a7 y0 M Q => xw_ret rfl rfl,
  fun a0 a1 a2 a3 a4 a5 a6 a7 st M Q => xw_s rfl rfl,
  fun a0 a1 a2 a3 a4 a5 a6 a7 y0 st M Q => xw_brn (c0 := y0 ≠ nI 0) (c1 := y0 = nI 0) rfl rfl (Iff.rfl),
  fun a0 a1 a2 a3 a4 a5 a6 a7 st M Q => xw_s rfl rfl,
  fun a0 a1 a2 a3 a4 a5 a6 a7 st M Q => xw_s rfl rfl,
  fun a0 a1 a2 a3 a4 a5 a6 a7 st M Q => xw_s rfl rfl,
  fun a0 a1 a2 a3 a4 a5 a6 a7 st M Q => xw_s rfl rfl,
  fun a0 a1 a2 a3 a4 a5 a6 a7 y0 y1 st M Q => xw_s rfl rfl⟩
set_option maxRecDepth 20000 in
theorem h127_41 :
  (∀ (a0 : Nat) (a1 : Int32) (a2 : Int32) (a3 : Int32) (a4 : Int32) (a5 : Int32) (a6 : Value) (a7 : Value) (st : List Value) (M : xM) (Q : Option Value → xM → Prop), xW xSC 127 41 [.ref a0, .int a1, .int a2, .int a3, .int a4, .int a5, a6, a7] (st) M Q = xW xSC 127 42 [.ref a0, .int a1, .int a2, .int a3, .int a4, .int a5, a6, a7] (.int (-1) :: st) M Q) :=
  fun a0 a1 a2 a3 a4 a5 a6 a7 st M Q => xw_s rfl rfl
set_option maxRecDepth 20000 in
theorem h127_63 :
  (∀ (a0 : Nat) (a1 : Int32) (a2 : Int32) (a3 : Int32) (a4 : Int32) (a5 : Int32) (a6 : Int32) (a7 : Int32) (st : List Value) (M : xM) (Q : Option Value → xM → Prop), xW xSC 127 63 [.ref a0, .int a1, .int a2, .int a3, .int a4, .int a5, .int a6, .int a7] (st) M Q = xW xSC 127 65 [.ref a0, .int a1, .int a2, .int a3, .int a4, .int a5, .int a6, .int a7] (.int a7 :: st) M Q) :=
  fun a0 a1 a2 a3 a4 a5 a6 a7 st M Q => xw_s rfl rfl
set_option maxRecDepth 20000 in
theorem h127_88 :
  (∀ (a0 : Nat) (a1 : Int32) (a2 : Int32) (a3 : Int32) (a4 : Int32) (a5 : Int32) (a6 : Int32) (a7 : Int32) (st : List Value) (M : xM) (Q : Option Value → xM → Prop), xW xSC 127 88 [.ref a0, .int a1, .int a2, .int a3, .int a4, .int a5, .int a6, .int a7] (st) M Q = xW xSC 127 91 [.ref a0, .int a1, .int a2, .int a3, .int a4, .int a5, .int a6, .int (a7 + nI 1)] (st) M Q) :=
  fun a0 a1 a2 a3 a4 a5 a6 a7 st M Q => xw_s rfl rfl
set_option maxRecDepth 20000 in
theorem h127_124 :
  (∀ (a0 : Nat) (a1 : Int32) (a2 : Int32) (a3 : Int32) (a4 : Int32) (a5 : Int32) (a6 : Int32) (a7 : Int32) (y0 : Int32) (M : xM) (Q : Option Value → xM → Prop), xW xSC 127 124 [.ref a0, .int a1, .int a2, .int a3, .int a4, .int a5, .int a6, .int a7] ([.int y0]) M Q = Q (some (.int y0)) M) :=
  fun a0 a1 a2 a3 a4 a5 a6 a7 y0 M Q => xw_ret rfl rfl
set_option maxRecDepth 20000 in
theorem h127_147 :
  (∀ (a0 : Nat) (a1 : Int32) (a2 : Int32) (a3 : Int32) (a4 : Int32) (a5 : Int32) (a6 : Int32) (a7 : Int32) (y0 : Int32) (M : xM) (Q : Option Value → xM → Prop), xW xSC 127 147 [.ref a0, .int a1, .int a2, .int a3, .int a4, .int a5, .int a6, .int a7] ([.int y0]) M Q = Q (some (.int y0)) M) :=
  fun a0 a1 a2 a3 a4 a5 a6 a7 y0 M Q => xw_ret rfl rfl
set_option maxRecDepth 20000 in
theorem j127 :
  (∀ (a0 : Nat) (a1 : Int32) (a2 : Int32) (a3 : Int32) (a4 : Int32) (a5 : Int32) (a6 : Value) (a7 : Value) (st : List Value) (M : xM) (Q : Option Value → xM → Prop), xW xSC 127 41 [.ref a0, .int a1, .int a2, .int a3, .int a4, .int a5, a6, a7] (st) M Q = xW xSC 127 42 [.ref a0, .int a1, .int a2, .int a3, .int a4, .int a5, a6, a7] (.int (-1) :: st) M Q) ∧
  (∀ (a0 : Nat) (a1 : Int32) (a2 : Int32) (a3 : Int32) (a4 : Int32) (a5 : Int32) (a6 : Int32) (a7 : Int32) (st : List Value) (M : xM) (Q : Option Value → xM → Prop), xW xSC 127 88 [.ref a0, .int a1, .int a2, .int a3, .int a4, .int a5, .int a6, .int a7] (st) M Q = xW xSC 127 91 [.ref a0, .int a1, .int a2, .int a3, .int a4, .int a5, .int a6, .int (a7 + nI 1)] (st) M Q) ∧
  (∀ (a0 : Nat) (a1 : Int32) (a2 : Int32) (a3 : Int32) (a4 : Int32) (a5 : Int32) (a6 : Int32) (a7 : Int32) (y0 : Int32) (M : xM) (Q : Option Value → xM → Prop), xW xSC 127 124 [.ref a0, .int a1, .int a2, .int a3, .int a4, .int a5, .int a6, .int a7] ([.int y0]) M Q = Q (some (.int y0)) M) ∧
  (∀ (a0 : Nat) (a1 : Int32) (a2 : Int32) (a3 : Int32) (a4 : Int32) (a5 : Int32) (a6 : Int32) (a7 : Int32) (y0 : Int32) (M : xM) (Q : Option Value → xM → Prop), xW xSC 127 147 [.ref a0, .int a1, .int a2, .int a3, .int a4, .int a5, .int a6, .int a7] ([.int y0]) M Q = Q (some (.int y0)) M) :=
  ⟨fun a0 a1 a2 a3 a4 a5 a6 a7 st M Q => xw_s rfl rfl,
  fun a0 a1 a2 a3 a4 a5 a6 a7 st M Q => xw_s rfl rfl,
  fun a0 a1 a2 a3 a4 a5 a6 a7 y0 M Q => xw_ret rfl rfl,
  fun a0 a1 a2 a3 a4 a5 a6 a7 y0 M Q => xw_ret rfl rfl⟩

set_option maxRecDepth 20000 in
theorem s128 :
  (∀ (a0 : Int32) (a1 : Int32) (a2 : Value) (a3 : Value) (st : List Value) (M : xM) (Q : Option Value → xM → Prop), xW xSC 128 0 [.int a0, .int a1, a2, a3] (st) M Q = xW xSC 128 3 [.int a0, .int a1, a2, a3] (.long (lN 7919) :: st) M Q) ∧
  (∀ (a0 : Int32) (a1 : Int32) (a2 : Value) (a3 : Value) (st : List Value) (M : xM) (Q : Option Value → xM → Prop), xW xSC 128 3 [.int a0, .int a1, a2, a3] (st) M Q = xW xSC 128 4 [.int a0, .int a1, a2, a3] (.int a0 :: st) M Q) ∧
  (∀ (a0 : Int32) (a1 : Int32) (a2 : Value) (a3 : Value) (y0 : Int32) (st : List Value) (M : xM) (Q : Option Value → xM → Prop), xW xSC 128 4 [.int a0, .int a1, a2, a3] (.int y0 :: st) M Q = xW xSC 128 5 [.int a0, .int a1, a2, a3] (.long y0.toInt64 :: st) M Q) ∧
  (∀ (a0 : Int32) (a1 : Int32) (a2 : Value) (a3 : Value) (y0 : Int64) (y1 : Int64) (st : List Value) (M : xM) (Q : Option Value → xM → Prop), xW xSC 128 5 [.int a0, .int a1, a2, a3] (.long y0 :: .long y1 :: st) M Q = xW xSC 128 6 [.int a0, .int a1, a2, a3] (.long (y1 * y0) :: st) M Q) ∧
  (∀ (a0 : Int32) (a1 : Int32) (a2 : Value) (a3 : Value) (st : List Value) (M : xM) (Q : Option Value → xM → Prop), xW xSC 128 6 [.int a0, .int a1, a2, a3] (st) M Q = xW xSC 128 9 [.int a0, .int a1, a2, a3] (.long (lN 6151) :: st) M Q) ∧
  (∀ (a0 : Int32) (a1 : Int32) (a2 : Value) (a3 : Value) (st : List Value) (M : xM) (Q : Option Value → xM → Prop), xW xSC 128 9 [.int a0, .int a1, a2, a3] (st) M Q = xW xSC 128 10 [.int a0, .int a1, a2, a3] (.int a1 :: st) M Q) ∧
  (∀ (a0 : Int32) (a1 : Int32) (a2 : Value) (a3 : Value) (y0 : Int32) (st : List Value) (M : xM) (Q : Option Value → xM → Prop), xW xSC 128 10 [.int a0, .int a1, a2, a3] (.int y0 :: st) M Q = xW xSC 128 11 [.int a0, .int a1, a2, a3] (.long y0.toInt64 :: st) M Q) ∧
  (∀ (a0 : Int32) (a1 : Int32) (a2 : Value) (a3 : Value) (y0 : Int64) (y1 : Int64) (st : List Value) (M : xM) (Q : Option Value → xM → Prop), xW xSC 128 11 [.int a0, .int a1, a2, a3] (.long y0 :: .long y1 :: st) M Q = xW xSC 128 12 [.int a0, .int a1, a2, a3] (.long (y1 * y0) :: st) M Q) ∧
  (∀ (a0 : Int32) (a1 : Int32) (a2 : Value) (a3 : Value) (y0 : Int64) (y1 : Int64) (st : List Value) (M : xM) (Q : Option Value → xM → Prop), xW xSC 128 12 [.int a0, .int a1, a2, a3] (.long y0 :: .long y1 :: st) M Q = xW xSC 128 13 [.int a0, .int a1, a2, a3] (.long (y1 + y0) :: st) M Q) ∧
  (∀ (a0 : Int32) (a1 : Int32) (a2 : Value) (a3 : Value) (st : List Value) (M : xM) (Q : Option Value → xM → Prop), xW xSC 128 13 [.int a0, .int a1, a2, a3] (st) M Q = xW xSC 128 14 [.int a0, .int a1, a2, a3] (.long (lN 1) :: st) M Q) ∧
  (∀ (a0 : Int32) (a1 : Int32) (a2 : Value) (a3 : Value) (y0 : Int64) (y1 : Int64) (st : List Value) (M : xM) (Q : Option Value → xM → Prop), xW xSC 128 14 [.int a0, .int a1, a2, a3] (.long y0 :: .long y1 :: st) M Q = xW xSC 128 15 [.int a0, .int a1, a2, a3] (.long (y1 + y0) :: st) M Q) ∧
  (∀ (a0 : Int32) (a1 : Int32) (a2 : Value) (a3 : Value) (y0 : Int64) (st : List Value) (M : xM) (Q : Option Value → xM → Prop), xW xSC 128 15 [.int a0, .int a1, a2, a3] (.long y0 :: st) M Q = xW xSC 128 16 [.int a0, .int a1, .long y0, .null] (st) M Q) ∧
  (∀ (a0 : Int32) (a1 : Int32) (a2 : Int64) (st : List Value) (M : xM) (Q : Option Value → xM → Prop), xW xSC 128 16 [.int a0, .int a1, .long a2, .null] (st) M Q = xW xSC 128 17 [.int a0, .int a1, .long a2, .null] (.long a2 :: st) M Q) ∧
  (∀ (a0 : Int32) (a1 : Int32) (a2 : Int64) (st : List Value) (M : xM) (Q : Option Value → xM → Prop), xW xSC 128 17 [.int a0, .int a1, .long a2, .null] (st) M Q = xW xSC 128 18 [.int a0, .int a1, .long a2, .null] (.long a2 :: st) M Q) ∧
  (∀ (a0 : Int32) (a1 : Int32) (a2 : Int64) (y0 : Int64) (y1 : Int64) (st : List Value) (M : xM) (Q : Option Value → xM → Prop), xW xSC 128 18 [.int a0, .int a1, .long a2, .null] (.long y0 :: .long y1 :: st) M Q = xW xSC 128 19 [.int a0, .int a1, .long a2, .null] (.long (y1 * y0) :: st) M Q) ∧
  (∀ (a0 : Int32) (a1 : Int32) (a2 : Int64) (st : List Value) (M : xM) (Q : Option Value → xM → Prop), xW xSC 128 19 [.int a0, .int a1, .long a2, .null] (st) M Q = xW xSC 128 22 [.int a0, .int a1, .long a2, .null] (.long (lN 65521) :: st) M Q) ∧
  (∀ (a0 : Int32) (a1 : Int32) (a2 : Int64) (y0 : Nat) (y1 : Int64) (st : List Value) (M : xM) (Q : Option Value → xM → Prop), 0 < y0 → y0 < 2 ^ 31 → xW xSC 128 22 [.int a0, .int a1, .long a2, .null] (.long (lN y0) :: .long y1 :: st) M Q = xW xSC 128 23 [.int a0, .int a1, .long a2, .null] (.long (y1 - y1 / lN y0 * lN y0) :: st) M Q) ∧
  (∀ (a0 : Int32) (a1 : Int32) (a2 : Int64) (st : List Value) (M : xM) (Q : Option Value → xM → Prop), xW xSC 128 23 [.int a0, .int a1, .long a2, .null] (st) M Q = xW xSC 128 26 [.int a0, .int a1, .long a2, .null] (.long (lN 16) :: st) M Q) ∧
  (∀ (a0 : Int32) (a1 : Int32) (a2 : Int64) (y0 : Nat) (y1 : Int64) (st : List Value) (M : xM) (Q : Option Value → xM → Prop), 0 < y0 → y0 < 2 ^ 31 → xW xSC 128 26 [.int a0, .int a1, .long a2, .null] (.long (lN y0) :: .long y1 :: st) M Q = xW xSC 128 27 [.int a0, .int a1, .long a2, .null] (.long (y1 / lN y0) :: st) M Q) ∧
  (∀ (a0 : Int32) (a1 : Int32) (a2 : Int64) (y0 : Int64) (st : List Value) (M : xM) (Q : Option Value → xM → Prop), xW xSC 128 27 [.int a0, .int a1, .long a2, .null] (.long y0 :: st) M Q = xW xSC 128 28 [.int a0, .int a1, .long a2, .null] (.int y0.toInt32 :: st) M Q) ∧
  (∀ (a0 : Int32) (a1 : Int32) (a2 : Int64) (y0 : Int32) (M : xM) (Q : Option Value → xM → Prop), xW xSC 128 28 [.int a0, .int a1, .long a2, .null] ([.int y0]) M Q = Q (some (.int y0)) M) :=
  ⟨fun a0 a1 a2 a3 st M Q => xw_s rfl rfl,
  fun a0 a1 a2 a3 st M Q => xw_s rfl rfl,
  fun a0 a1 a2 a3 y0 st M Q => xw_s rfl rfl,
  fun a0 a1 a2 a3 y0 y1 st M Q => xw_s rfl rfl,
  fun a0 a1 a2 a3 st M Q => xw_s rfl rfl,
  fun a0 a1 a2 a3 st M Q => xw_s rfl rfl,
  fun a0 a1 a2 a3 y0 st M Q => xw_s rfl rfl,
  fun a0 a1 a2 a3 y0 y1 st M Q => xw_s rfl rfl,
  fun a0 a1 a2 a3 y0 y1 st M Q => xw_s rfl rfl,
  fun a0 a1 a2 a3 st M Q => xw_s rfl rfl,
  fun a0 a1 a2 a3 y0 y1 st M Q => xw_s rfl rfl,
  fun a0 a1 a2 a3 y0 st M Q => xw_s rfl rfl,
  fun a0 a1 a2 st M Q => xw_s rfl rfl,
  fun a0 a1 a2 st M Q => xw_s rfl rfl,
  fun a0 a1 a2 y0 y1 st M Q => xw_s rfl rfl,
  fun a0 a1 a2 st M Q => xw_s rfl rfl,
  fun a0 a1 a2 y0 y1 st M Q h0 h1 => xw_ldiv (f := fun x y => x - x / y * y) rfl rfl (lN_ne0 h0 h1),
  fun a0 a1 a2 st M Q => xw_s rfl rfl,
  fun a0 a1 a2 y0 y1 st M Q h0 h1 => xw_ldiv (f := fun x y => x / y) rfl rfl (lN_ne0 h0 h1),
  fun a0 a1 a2 y0 st M Q => xw_s rfl rfl,
  fun a0 a1 a2 y0 M Q => xw_ret rfl rfl⟩
theorem j128 : True := trivial

set_option maxRecDepth 20000 in
theorem s129 :
  (∀ (a0 : Nat) (a1 : Value) (st : List Value) (M : xM) (Q : Option Value → xM → Prop), xW xSC 129 0 [.ref a0, a1] (st) M Q = xW xSC 129 1 [.ref a0, a1] (.ref a0 :: st) M Q) ∧
  (∀ (a0 : Nat) (a1 : Value) (st : List Value) (M : xM) (Q : Option Value → xM → Prop), xW xSC 129 1 [.ref a0, a1] (.ref 0 :: st) M Q = xW xSC 129 4 [.ref a0, a1] (.int (M 0 4) :: st) M Q) ∧
  (∀ (a0 : Nat) (a1 : Value) (st : List Value) (M : xM) (Q : Option Value → xM → Prop), xW xSC 129 4 [.ref a0, a1] (st) M Q = xW xSC 129 5 [.ref a0, a1] (.int (nI 2) :: st) M Q) ∧
  (∀ (a0 : Nat) (a1 : Value) (y0 : Int32) (y1 : Int32) (st : List Value) (M : xM) (Q : Option Value → xM → Prop), xW xSC 129 5 [.ref a0, a1] (.int y0 :: .int y1 :: st) M Q = if y1 < y0 then xW xSC 129 11 [.ref a0, a1] (st) M Q else xW xSC 129 8 [.ref a0, a1] (st) M Q) ∧
  (∀ (a0 : Nat) (a1 : Value) (st : List Value) (M : xM) (Q : Option Value → xM → Prop), xW xSC 129 8 [.ref a0, a1] (st) M Q = xW xSC 129 10 [.ref a0, a1] (.int (-3) :: st) M Q) ∧
  (∀ (a0 : Nat) (a1 : Value) (y0 : Int32) (M : xM) (Q : Option Value → xM → Prop), xW xSC 129 10 [.ref a0, a1] ([.int y0]) M Q = Q (some (.int y0)) M) ∧
  (∀ (a0 : Nat) (a1 : Value) (st : List Value) (M : xM) (Q : Option Value → xM → Prop), xW xSC 129 11 [.ref a0, a1] (st) M Q = xW xSC 129 12 [.ref a0, a1] (.ref a0 :: st) M Q) ∧
  (∀ (a0 : Nat) (a1 : Value) (st : List Value) (M : xM) (Q : Option Value → xM → Prop), xW xSC 129 12 [.ref a0, a1] (.ref 0 :: st) M Q = xW xSC 129 15 [.ref a0, a1] (.int (M 0 4) :: st) M Q) ∧
  (∀ (a0 : Nat) (a1 : Value) (y0 : Int32) (st : List Value) (M : xM) (Q : Option Value → xM → Prop), xW xSC 129 15 [.ref a0, a1] (.int y0 :: st) M Q = if y0 = nI 0 then xW xSC 129 18 [.ref a0, a1] (st) M Q else xW xSC 129 25 [.ref a0, a1] (st) M Q) ∧
  (∀ (a0 : Nat) (a1 : Value) (st : List Value) (M : xM) (Q : Option Value → xM → Prop), xW xSC 129 18 [.ref a0, a1] (st) M Q = xW xSC 129 19 [.ref a0, a1] (.ref a0 :: st) M Q) ∧
  (∀ (a0 : Nat) (a1 : Value) (st : List Value) (M : xM) (Q : Option Value → xM → Prop), xW xSC 129 19 [.ref a0, a1] (.ref 0 :: st) M Q = xW xSC 129 22 [.ref a0, a1] (.ref 14 :: st) M Q) ∧
  (∀ (a0 : Nat) (a1 : Value) (st : List Value) (M : xM) (Q : Option Value → xM → Prop), xW xSC 129 22 [.ref a0, a1] (st) M Q = xW xSC 129 29 [.ref a0, a1] (st) M Q) ∧
  (∀ (a0 : Nat) (a1 : Value) (st : List Value) (M : xM) (Q : Option Value → xM → Prop), xW xSC 129 25 [.ref a0, a1] (st) M Q = xW xSC 129 26 [.ref a0, a1] (.ref a0 :: st) M Q) ∧
  (∀ (a0 : Nat) (a1 : Value) (st : List Value) (M : xM) (Q : Option Value → xM → Prop), xW xSC 129 26 [.ref a0, a1] (.ref 0 :: st) M Q = xW xSC 129 29 [.ref a0, a1] (.ref 19 :: st) M Q) ∧
  (∀ (a0 : Nat) (a1 : Nat) (st : List Value) (M : xM) (Q : Option Value → xM → Prop), xW xSC 129 30 [.ref a0, .ref a1] (st) M Q = xW xSC 129 31 [.ref a0, .ref a1] (.ref a1 :: st) M Q) ∧
  (∀ (a0 : Nat) (a1 : Nat) (st : List Value) (M : xM) (Q : Option Value → xM → Prop), xW xSC 129 31 [.ref a0, .ref a1] (st) M Q = xW xSC 129 32 [.ref a0, .ref a1] (.ref a0 :: st) M Q) ∧
  (∀ (a0 : Nat) (a1 : Nat) (st : List Value) (M : xM) (Q : Option Value → xM → Prop), xW xSC 129 32 [.ref a0, .ref a1] (.ref 0 :: st) M Q = xW xSC 129 35 [.ref a0, .ref a1] (.ref 9 :: st) M Q) ∧
  (∀ (a0 : Nat) (a1 : Nat) (y0 : Nat) (M : xM) (Q : Option Value → xM → Prop), xW xSC 129 35 [.ref a0, .ref a1] (.ref y0 :: .ref 14 :: []) M Q = xW xSC 22 0 [.ref 14, .ref y0] [] M (fun v M' => xW xSC 129 38 [.ref a0, .ref a1] (xpush v []) M' Q)) ∧
  (∀ (a0 : Nat) (a1 : Nat) (y0 : Nat) (M : xM) (Q : Option Value → xM → Prop), xW xSC 129 35 [.ref a0, .ref a1] (.ref y0 :: .ref 19 :: []) M Q = xW xSC 22 0 [.ref 19, .ref y0] [] M (fun v M' => xW xSC 129 38 [.ref a0, .ref a1] (xpush v []) M' Q)) ∧
  (∀ (a0 : Nat) (a1 : Nat) (st : List Value) (M : xM) (Q : Option Value → xM → Prop), xW xSC 129 38 [.ref a0, .ref a1] (st) M Q = xW xSC 129 39 [.ref a0, .ref a1] (.ref a0 :: st) M Q) ∧
  (∀ (a0 : Nat) (a1 : Nat) (y0 : Nat) (st : List Value) (M : xM) (Q : Option Value → xM → Prop), xW xSC 129 39 [.ref a0, .ref a1] (.ref y0 :: st) M Q = xW xSC 129 40 [.ref a0, .ref a1] (.ref y0 :: .ref y0 :: st) M Q) ∧
  (∀ (a0 : Nat) (a1 : Nat) (st : List Value) (M : xM) (Q : Option Value → xM → Prop), xW xSC 129 40 [.ref a0, .ref a1] (.ref 0 :: st) M Q = xW xSC 129 43 [.ref a0, .ref a1] (.int (M 0 4) :: st) M Q) ∧
  (∀ (a0 : Nat) (a1 : Nat) (st : List Value) (M : xM) (Q : Option Value → xM → Prop), xW xSC 129 43 [.ref a0, .ref a1] (st) M Q = xW xSC 129 44 [.ref a0, .ref a1] (.int (nI 1) :: st) M Q) ∧
  (∀ (a0 : Nat) (a1 : Nat) (y0 : Int32) (y1 : Int32) (st : List Value) (M : xM) (Q : Option Value → xM → Prop), xW xSC 129 44 [.ref a0, .ref a1] (.int y0 :: .int y1 :: st) M Q = xW xSC 129 45 [.ref a0, .ref a1] (.int (y1 + y0) :: st) M Q) ∧
  (∀ (a0 : Nat) (a1 : Nat) (y0 : Int32) (st : List Value) (M : xM) (Q : Option Value → xM → Prop), xW xSC 129 45 [.ref a0, .ref a1] (.int y0 :: .ref 0 :: st) M Q = xW xSC 129 48 [.ref a0, .ref a1] (st) (xup M 0 4 y0) Q) ∧
  (∀ (a0 : Nat) (a1 : Nat) (st : List Value) (M : xM) (Q : Option Value → xM → Prop), xW xSC 129 48 [.ref a0, .ref a1] (st) M Q = xW xSC 129 49 [.ref a0, .ref a1] (.ref a0 :: st) M Q) ∧
  (∀ (a0 : Nat) (a1 : Nat) (st : List Value) (M : xM) (Q : Option Value → xM → Prop), xW xSC 129 49 [.ref a0, .ref a1] (.ref 0 :: st) M Q = xW xSC 129 52 [.ref a0, .ref a1] (.int (M 0 4) :: st) M Q) ∧
  (∀ (a0 : Nat) (a1 : Nat) (y0 : Int32) (M : xM) (Q : Option Value → xM → Prop), xW xSC 129 52 [.ref a0, .ref a1] ([.int y0]) M Q = Q (some (.int y0)) M) :=
  ⟨fun a0 a1 st M Q => xw_s rfl rfl,
  fun a0 a1 st M Q => xw_s rfl rfl,
  fun a0 a1 st M Q => xw_s rfl rfl,
  fun a0 a1 y0 y1 st M Q => xw_br (c0 := y1 < y0) rfl rfl,
  fun a0 a1 st M Q => xw_s rfl rfl,
  fun a0 a1 y0 M Q => xw_ret rfl rfl,
  fun a0 a1 st M Q => xw_s rfl rfl,
  fun a0 a1 st M Q => xw_s rfl rfl,
  fun a0 a1 y0 st M Q => xw_brn (c0 := y0 ≠ nI 0) (c1 := y0 = nI 0) rfl rfl (Iff.rfl),
  fun a0 a1 st M Q => xw_s rfl rfl,
  fun a0 a1 st M Q => xw_s rfl rfl,
  fun a0 a1 st M Q => xw_s rfl rfl,
  fun a0 a1 st M Q => xw_s rfl rfl,
  fun a0 a1 st M Q => xw_s rfl rfl,
  fun a0 a1 st M Q => xw_s rfl rfl,
  fun a0 a1 st M Q => xw_s rfl rfl,
  fun a0 a1 st M Q => xw_s rfl rfl,
  fun a0 a1 y0 M Q => xw_call rfl rfl rfl,
  fun a0 a1 y0 M Q => xw_call rfl rfl rfl,
  fun a0 a1 st M Q => xw_s rfl rfl,
  fun a0 a1 y0 st M Q => xw_s rfl rfl,
  fun a0 a1 st M Q => xw_s rfl rfl,
  fun a0 a1 st M Q => xw_s rfl rfl,
  fun a0 a1 y0 y1 st M Q => xw_s rfl rfl,
  fun a0 a1 y0 st M Q => xw_s rfl rfl,
  fun a0 a1 st M Q => xw_s rfl rfl,
  fun a0 a1 st M Q => xw_s rfl rfl,
  fun a0 a1 y0 M Q => xw_ret rfl rfl⟩
set_option maxRecDepth 20000 in
theorem h129_29 :
  (∀ (a0 : Nat) (a1 : Value) (y0 : Nat) (st : List Value) (M : xM) (Q : Option Value → xM → Prop), xW xSC 129 29 [.ref a0, a1] (.ref y0 :: st) M Q = xW xSC 129 30 [.ref a0, .ref y0] (st) M Q) :=
  fun a0 a1 y0 st M Q => xw_s rfl rfl
set_option maxRecDepth 20000 in
theorem j129 :
  (∀ (a0 : Nat) (a1 : Value) (y0 : Nat) (st : List Value) (M : xM) (Q : Option Value → xM → Prop), xW xSC 129 29 [.ref a0, a1] (.ref y0 :: st) M Q = xW xSC 129 30 [.ref a0, .ref y0] (st) M Q) :=
  fun a0 a1 y0 st M Q => xw_s rfl rfl

set_option maxRecDepth 20000 in
theorem s130 :
  (∀ (a0 : Nat) (st : List Value) (M : xM) (Q : Option Value → xM → Prop), xW xSC 130 0 [.ref a0] (st) M Q = xW xSC 130 1 [.ref a0] (.ref a0 :: st) M Q) ∧
  (∀ (a0 : Nat) (st : List Value) (M : xM) (Q : Option Value → xM → Prop), xW xSC 130 1 [.ref a0] (.ref 0 :: st) M Q = xW xSC 130 4 [.ref a0] (.int (M 0 4) :: st) M Q) ∧
  (∀ (a0 : Nat) (st : List Value) (M : xM) (Q : Option Value → xM → Prop), xW xSC 130 4 [.ref a0] (st) M Q = xW xSC 130 5 [.ref a0] (.int (nI 1) :: st) M Q) ∧
  (∀ (a0 : Nat) (y0 : Int32) (y1 : Int32) (st : List Value) (M : xM) (Q : Option Value → xM → Prop), xW xSC 130 5 [.ref a0] (.int y0 :: .int y1 :: st) M Q = if y1 < y0 then xW xSC 130 8 [.ref a0] (st) M Q else xW xSC 130 11 [.ref a0] (st) M Q) ∧
  (∀ (a0 : Nat) (st : List Value) (M : xM) (Q : Option Value → xM → Prop), xW xSC 130 8 [.ref a0] (st) M Q = xW xSC 130 10 [.ref a0] (.int (-2) :: st) M Q) ∧
  (∀ (a0 : Nat) (y0 : Int32) (M : xM) (Q : Option Value → xM → Prop), xW xSC 130 10 [.ref a0] ([.int y0]) M Q = Q (some (.int y0)) M) ∧
  (∀ (a0 : Nat) (st : List Value) (M : xM) (Q : Option Value → xM → Prop), xW xSC 130 11 [.ref a0] (st) M Q = xW xSC 130 12 [.ref a0] (.ref a0 :: st) M Q) ∧
  (∀ (a0 : Nat) (y0 : Nat) (st : List Value) (M : xM) (Q : Option Value → xM → Prop), xW xSC 130 12 [.ref a0] (.ref y0 :: st) M Q = xW xSC 130 13 [.ref a0] (.ref y0 :: .ref y0 :: st) M Q) ∧
  (∀ (a0 : Nat) (st : List Value) (M : xM) (Q : Option Value → xM → Prop), xW xSC 130 13 [.ref a0] (.ref 0 :: st) M Q = xW xSC 130 16 [.ref a0] (.int (M 0 4) :: st) M Q) ∧
  (∀ (a0 : Nat) (st : List Value) (M : xM) (Q : Option Value → xM → Prop), xW xSC 130 16 [.ref a0] (st) M Q = xW xSC 130 17 [.ref a0] (.int (nI 1) :: st) M Q) ∧
  (∀ (a0 : Nat) (y0 : Int32) (y1 : Int32) (st : List Value) (M : xM) (Q : Option Value → xM → Prop), xW xSC 130 17 [.ref a0] (.int y0 :: .int y1 :: st) M Q = xW xSC 130 18 [.ref a0] (.int (y1 - y0) :: st) M Q) ∧
  (∀ (a0 : Nat) (y0 : Int32) (st : List Value) (M : xM) (Q : Option Value → xM → Prop), xW xSC 130 18 [.ref a0] (.int y0 :: .ref 0 :: st) M Q = xW xSC 130 21 [.ref a0] (st) (xup M 0 4 y0) Q) ∧
  (∀ (a0 : Nat) (st : List Value) (M : xM) (Q : Option Value → xM → Prop), xW xSC 130 21 [.ref a0] (st) M Q = xW xSC 130 22 [.ref a0] (.ref a0 :: st) M Q) ∧
  (∀ (a0 : Nat) (st : List Value) (M : xM) (Q : Option Value → xM → Prop), xW xSC 130 22 [.ref a0] (.ref 0 :: st) M Q = xW xSC 130 25 [.ref a0] (.ref 9 :: st) M Q) ∧
  (∀ (a0 : Nat) (st : List Value) (M : xM) (Q : Option Value → xM → Prop), xW xSC 130 25 [.ref a0] (st) M Q = xW xSC 130 26 [.ref a0] (.ref a0 :: st) M Q) ∧
  (∀ (a0 : Nat) (st : List Value) (M : xM) (Q : Option Value → xM → Prop), xW xSC 130 26 [.ref a0] (.ref 0 :: st) M Q = xW xSC 130 29 [.ref a0] (.int (M 0 4) :: st) M Q) ∧
  (∀ (a0 : Nat) (y0 : Int32) (st : List Value) (M : xM) (Q : Option Value → xM → Prop), xW xSC 130 29 [.ref a0] (.int y0 :: st) M Q = if y0 = nI 0 then xW xSC 130 32 [.ref a0] (st) M Q else xW xSC 130 39 [.ref a0] (st) M Q) ∧
  (∀ (a0 : Nat) (st : List Value) (M : xM) (Q : Option Value → xM → Prop), xW xSC 130 32 [.ref a0] (st) M Q = xW xSC 130 33 [.ref a0] (.ref a0 :: st) M Q) ∧
  (∀ (a0 : Nat) (st : List Value) (M : xM) (Q : Option Value → xM → Prop), xW xSC 130 33 [.ref a0] (.ref 0 :: st) M Q = xW xSC 130 36 [.ref a0] (.ref 14 :: st) M Q) ∧
  (∀ (a0 : Nat) (st : List Value) (M : xM) (Q : Option Value → xM → Prop), xW xSC 130 36 [.ref a0] (st) M Q = xW xSC 130 43 [.ref a0] (st) M Q) ∧
  (∀ (a0 : Nat) (st : List Value) (M : xM) (Q : Option Value → xM → Prop), xW xSC 130 39 [.ref a0] (st) M Q = xW xSC 130 40 [.ref a0] (.ref a0 :: st) M Q) ∧
  (∀ (a0 : Nat) (st : List Value) (M : xM) (Q : Option Value → xM → Prop), xW xSC 130 40 [.ref a0] (.ref 0 :: st) M Q = xW xSC 130 43 [.ref a0] (.ref 19 :: st) M Q) ∧
  (∀ (a0 : Nat) (st : List Value) (M : xM) (Q : Option Value → xM → Prop), xW xSC 130 46 [.ref a0] (st) M Q = xW xSC 130 47 [.ref a0] (.ref a0 :: st) M Q) ∧
  (∀ (a0 : Nat) (st : List Value) (M : xM) (Q : Option Value → xM → Prop), xW xSC 130 47 [.ref a0] (.ref 0 :: st) M Q = xW xSC 130 50 [.ref a0] (.ref 24 :: st) M Q) ∧
  (∀ (a0 : Nat) (M : xM) (Q : Option Value → xM → Prop), xW xSC 130 50 [.ref a0] (.ref 24 :: []) M Q = xW xSC 5 0 [.ref 24] [] M (fun v M' => xW xSC 130 53 [.ref a0] (xpush v []) M' Q)) ∧
  (∀ (a0 : Nat) (st : List Value) (M : xM) (Q : Option Value → xM → Prop), xW xSC 130 53 [.ref a0] (st) M Q = xW xSC 130 54 [.ref a0] (.ref a0 :: st) M Q) ∧
  (∀ (a0 : Nat) (st : List Value) (M : xM) (Q : Option Value → xM → Prop), xW xSC 130 54 [.ref a0] (.ref 0 :: st) M Q = xW xSC 130 57 [.ref a0] (.int (M 0 4) :: st) M Q) ∧
  (∀ (a0 : Nat) (y0 : Int32) (M : xM) (Q : Option Value → xM → Prop), xW xSC 130 57 [.ref a0] ([.int y0]) M Q = Q (some (.int y0)) M) :=
  ⟨fun a0 st M Q => xw_s rfl rfl,
  fun a0 st M Q => xw_s rfl rfl,
  fun a0 st M Q => xw_s rfl rfl,
  fun a0 y0 y1 st M Q => xw_brn (c0 := y0 ≤ y1) (c1 := y1 < y0) rfl rfl (xge _ _),
  fun a0 st M Q => xw_s rfl rfl,
  fun a0 y0 M Q => xw_ret rfl rfl,
  fun a0 st M Q => xw_s rfl rfl,
  fun a0 y0 st M Q => xw_s rfl rfl,
  fun a0 st M Q => xw_s rfl rfl,
  fun a0 st M Q => xw_s rfl rfl,
  fun a0 y0 y1 st M Q => xw_s rfl rfl,
  fun a0 y0 st M Q => xw_s rfl rfl,
  fun a0 st M Q => xw_s rfl rfl,
  fun a0 st M Q => xw_s rfl rfl,
  fun a0 st M Q => xw_s rfl rfl,
  fun a0 st M Q => xw_s rfl rfl,
  fun a0 y0 st M Q => xw_brn (c0 := y0 ≠ nI 0) (c1 := y0 = nI 0) rfl rfl (Iff.rfl),
  fun a0 st M Q => xw_s rfl rfl,
  fun a0 st M Q => xw_s rfl rfl,
  fun a0 st M Q => xw_s rfl rfl,
  fun a0 st M Q => xw_s rfl rfl,
  fun a0 st M Q => xw_s rfl rfl,
  fun a0 st M Q => xw_s rfl rfl,
  fun a0 st M Q => xw_s rfl rfl,
  fun a0 M Q => xw_call rfl rfl rfl,
  fun a0 st M Q => xw_s rfl rfl,
  fun a0 st M Q => xw_s rfl rfl,
  fun a0 y0 M Q => xw_ret rfl rfl⟩
set_option maxRecDepth 20000 in
theorem h130_43 :
  (∀ (a0 : Nat) (y0 : Nat) (M : xM) (Q : Option Value → xM → Prop), xW xSC 130 43 [.ref a0] (.ref y0 :: .ref 9 :: []) M Q = xW xSC 22 0 [.ref 9, .ref y0] [] M (fun v M' => xW xSC 130 46 [.ref a0] (xpush v []) M' Q)) :=
  fun a0 y0 M Q => xw_call rfl rfl rfl
set_option maxRecDepth 20000 in
theorem j130 :
  (∀ (a0 : Nat) (y0 : Nat) (M : xM) (Q : Option Value → xM → Prop), xW xSC 130 43 [.ref a0] (.ref y0 :: .ref 9 :: []) M Q = xW xSC 22 0 [.ref 9, .ref y0] [] M (fun v M' => xW xSC 130 46 [.ref a0] (xpush v []) M' Q)) :=
  fun a0 y0 M Q => xw_call rfl rfl rfl

set_option maxRecDepth 20000 in
theorem s131 :
  (∀ (a0 : Nat) (a1 : Int32) (st : List Value) (M : xM) (Q : Option Value → xM → Prop), xW xSC 131 0 [.ref a0, .int a1] (st) M Q = xW xSC 131 1 [.ref a0, .int a1] (.int a1 :: st) M Q) ∧
  (∀ (a0 : Nat) (a1 : Int32) (st : List Value) (M : xM) (Q : Option Value → xM → Prop), xW xSC 131 1 [.ref a0, .int a1] (.int (nI 0) :: st) M Q = xW xSC 131 48 [.ref a0, .int a1] (st) M Q) ∧
  (∀ (a0 : Nat) (a1 : Int32) (st : List Value) (M : xM) (Q : Option Value → xM → Prop), xW xSC 131 1 [.ref a0, .int a1] (.int (nI 1) :: st) M Q = xW xSC 131 56 [.ref a0, .int a1] (st) M Q) ∧
  (∀ (a0 : Nat) (a1 : Int32) (st : List Value) (M : xM) (Q : Option Value → xM → Prop), xW xSC 131 1 [.ref a0, .int a1] (.int (nI 2) :: st) M Q = xW xSC 131 64 [.ref a0, .int a1] (st) M Q) ∧
  (∀ (a0 : Nat) (a1 : Int32) (st : List Value) (M : xM) (Q : Option Value → xM → Prop), xW xSC 131 1 [.ref a0, .int a1] (.int (nI 3) :: st) M Q = xW xSC 131 72 [.ref a0, .int a1] (st) M Q) ∧
  (∀ (a0 : Nat) (a1 : Int32) (st : List Value) (M : xM) (Q : Option Value → xM → Prop), xW xSC 131 1 [.ref a0, .int a1] (.int (nI 4) :: st) M Q = xW xSC 131 77 [.ref a0, .int a1] (st) M Q) ∧
  (∀ (a0 : Nat) (a1 : Int32) (st : List Value) (M : xM) (Q : Option Value → xM → Prop), xW xSC 131 1 [.ref a0, .int a1] (.int (nI 5) :: st) M Q = xW xSC 131 85 [.ref a0, .int a1] (st) M Q) ∧
  (∀ (a0 : Nat) (a1 : Int32) (st : List Value) (M : xM) (Q : Option Value → xM → Prop), xW xSC 131 1 [.ref a0, .int a1] (.int (nI 6) :: st) M Q = xW xSC 131 93 [.ref a0, .int a1] (st) M Q) ∧
  (∀ (a0 : Nat) (a1 : Int32) (st : List Value) (M : xM) (Q : Option Value → xM → Prop), xW xSC 131 1 [.ref a0, .int a1] (.int (nI 7) :: st) M Q = xW xSC 131 98 [.ref a0, .int a1] (st) M Q) ∧
  (∀ (a0 : Nat) (a1 : Int32) (st : List Value) (M : xM) (Q : Option Value → xM → Prop), xW xSC 131 48 [.ref a0, .int a1] (st) M Q = xW xSC 131 49 [.ref a0, .int a1] (.ref a0 :: st) M Q) ∧
  (∀ (a0 : Nat) (a1 : Int32) (st : List Value) (M : xM) (Q : Option Value → xM → Prop), xW xSC 131 49 [.ref a0, .int a1] (.ref 0 :: st) M Q = xW xSC 131 52 [.ref a0, .int a1] (.ref 9 :: st) M Q) ∧
  (∀ (a0 : Nat) (a1 : Int32) (st : List Value) (M : xM) (Q : Option Value → xM → Prop), xW xSC 131 52 [.ref a0, .int a1] (.ref 9 :: st) M Q = xW xSC 131 55 [.ref a0, .int a1] (.int (M 9 0) :: st) M Q) ∧
  (∀ (a0 : Nat) (a1 : Int32) (y0 : Int32) (M : xM) (Q : Option Value → xM → Prop), xW xSC 131 55 [.ref a0, .int a1] ([.int y0]) M Q = Q (some (.int y0)) M) ∧
  (∀ (a0 : Nat) (a1 : Int32) (st : List Value) (M : xM) (Q : Option Value → xM → Prop), xW xSC 131 56 [.ref a0, .int a1] (st) M Q = xW xSC 131 57 [.ref a0, .int a1] (.ref a0 :: st) M Q) ∧
  (∀ (a0 : Nat) (a1 : Int32) (st : List Value) (M : xM) (Q : Option Value → xM → Prop), xW xSC 131 57 [.ref a0, .int a1] (.ref 0 :: st) M Q = xW xSC 131 60 [.ref a0, .int a1] (.ref 9 :: st) M Q) ∧
  (∀ (a0 : Nat) (a1 : Int32) (st : List Value) (M : xM) (Q : Option Value → xM → Prop), xW xSC 131 60 [.ref a0, .int a1] (.ref 9 :: st) M Q = xW xSC 131 63 [.ref a0, .int a1] (.int (M 9 1) :: st) M Q) ∧
  (∀ (a0 : Nat) (a1 : Int32) (y0 : Int32) (M : xM) (Q : Option Value → xM → Prop), xW xSC 131 63 [.ref a0, .int a1] ([.int y0]) M Q = Q (some (.int y0)) M) ∧
  (∀ (a0 : Nat) (a1 : Int32) (st : List Value) (M : xM) (Q : Option Value → xM → Prop), xW xSC 131 64 [.ref a0, .int a1] (st) M Q = xW xSC 131 65 [.ref a0, .int a1] (.ref a0 :: st) M Q) ∧
  (∀ (a0 : Nat) (a1 : Int32) (st : List Value) (M : xM) (Q : Option Value → xM → Prop), xW xSC 131 65 [.ref a0, .int a1] (.ref 0 :: st) M Q = xW xSC 131 68 [.ref a0, .int a1] (.ref 9 :: st) M Q) ∧
  (∀ (a0 : Nat) (a1 : Int32) (st : List Value) (M : xM) (Q : Option Value → xM → Prop), xW xSC 131 68 [.ref a0, .int a1] (.ref 9 :: st) M Q = xW xSC 131 71 [.ref a0, .int a1] (.int (M 9 2) :: st) M Q) ∧
  (∀ (a0 : Nat) (a1 : Int32) (y0 : Int32) (M : xM) (Q : Option Value → xM → Prop), xW xSC 131 71 [.ref a0, .int a1] ([.int y0]) M Q = Q (some (.int y0)) M) ∧
  (∀ (a0 : Nat) (a1 : Int32) (st : List Value) (M : xM) (Q : Option Value → xM → Prop), xW xSC 131 72 [.ref a0, .int a1] (st) M Q = xW xSC 131 73 [.ref a0, .int a1] (.ref a0 :: st) M Q) ∧
  (∀ (a0 : Nat) (a1 : Int32) (st : List Value) (M : xM) (Q : Option Value → xM → Prop), xW xSC 131 73 [.ref a0, .int a1] (.ref 0 :: st) M Q = xW xSC 131 76 [.ref a0, .int a1] (.int (M 0 7) :: st) M Q) ∧
  (∀ (a0 : Nat) (a1 : Int32) (y0 : Int32) (M : xM) (Q : Option Value → xM → Prop), xW xSC 131 76 [.ref a0, .int a1] ([.int y0]) M Q = Q (some (.int y0)) M) ∧
  (∀ (a0 : Nat) (a1 : Int32) (st : List Value) (M : xM) (Q : Option Value → xM → Prop), xW xSC 131 77 [.ref a0, .int a1] (st) M Q = xW xSC 131 78 [.ref a0, .int a1] (.ref a0 :: st) M Q) ∧
  (∀ (a0 : Nat) (a1 : Int32) (st : List Value) (M : xM) (Q : Option Value → xM → Prop), xW xSC 131 78 [.ref a0, .int a1] (.ref 0 :: st) M Q = xW xSC 131 81 [.ref a0, .int a1] (.ref 27 :: st) M Q) ∧
  (∀ (a0 : Nat) (a1 : Int32) (st : List Value) (M : xM) (Q : Option Value → xM → Prop), xW xSC 131 81 [.ref a0, .int a1] (.ref 27 :: st) M Q = xW xSC 131 84 [.ref a0, .int a1] (.int (M 27 3) :: st) M Q) ∧
  (∀ (a0 : Nat) (a1 : Int32) (y0 : Int32) (M : xM) (Q : Option Value → xM → Prop), xW xSC 131 84 [.ref a0, .int a1] ([.int y0]) M Q = Q (some (.int y0)) M) ∧
  (∀ (a0 : Nat) (a1 : Int32) (st : List Value) (M : xM) (Q : Option Value → xM → Prop), xW xSC 131 85 [.ref a0, .int a1] (st) M Q = xW xSC 131 86 [.ref a0, .int a1] (.ref a0 :: st) M Q) ∧
  (∀ (a0 : Nat) (a1 : Int32) (st : List Value) (M : xM) (Q : Option Value → xM → Prop), xW xSC 131 86 [.ref a0, .int a1] (.ref 0 :: st) M Q = xW xSC 131 89 [.ref a0, .int a1] (.ref 24 :: st) M Q) ∧
  (∀ (a0 : Nat) (a1 : Int32) (st : List Value) (M : xM) (Q : Option Value → xM → Prop), xW xSC 131 89 [.ref a0, .int a1] (.ref 24 :: st) M Q = xW xSC 131 92 [.ref a0, .int a1] (.int (M 24 2) :: st) M Q) ∧
  (∀ (a0 : Nat) (a1 : Int32) (y0 : Int32) (M : xM) (Q : Option Value → xM → Prop), xW xSC 131 92 [.ref a0, .int a1] ([.int y0]) M Q = Q (some (.int y0)) M) ∧
  (∀ (a0 : Nat) (a1 : Int32) (st : List Value) (M : xM) (Q : Option Value → xM → Prop), xW xSC 131 93 [.ref a0, .int a1] (st) M Q = xW xSC 131 94 [.ref a0, .int a1] (.ref a0 :: st) M Q) ∧
  (∀ (a0 : Nat) (a1 : Int32) (st : List Value) (M : xM) (Q : Option Value → xM → Prop), xW xSC 131 94 [.ref a0, .int a1] (.ref 0 :: st) M Q = xW xSC 131 97 [.ref a0, .int a1] (.int (M 0 4) :: st) M Q) ∧
  (∀ (a0 : Nat) (a1 : Int32) (y0 : Int32) (M : xM) (Q : Option Value → xM → Prop), xW xSC 131 97 [.ref a0, .int a1] ([.int y0]) M Q = Q (some (.int y0)) M) ∧
  (∀ (a0 : Nat) (a1 : Int32) (st : List Value) (M : xM) (Q : Option Value → xM → Prop), xW xSC 131 98 [.ref a0, .int a1] (st) M Q = xW xSC 131 99 [.ref a0, .int a1] (.ref a0 :: st) M Q) ∧
  (∀ (a0 : Nat) (a1 : Int32) (st : List Value) (M : xM) (Q : Option Value → xM → Prop), xW xSC 131 99 [.ref a0, .int a1] (.ref 0 :: st) M Q = xW xSC 131 102 [.ref a0, .int a1] (.ref 1 :: st) M Q) ∧
  (∀ (a0 : Nat) (a1 : Int32) (st : List Value) (M : xM) (Q : Option Value → xM → Prop), xW xSC 131 102 [.ref a0, .int a1] (.ref 1 :: st) M Q = xW xSC 131 105 [.ref a0, .int a1] (.int (M 1 4) :: st) M Q) ∧
  (∀ (a0 : Nat) (a1 : Int32) (y0 : Int32) (M : xM) (Q : Option Value → xM → Prop), xW xSC 131 105 [.ref a0, .int a1] ([.int y0]) M Q = Q (some (.int y0)) M) ∧
  (∀ (a0 : Nat) (a1 : Int32) (st : List Value) (M : xM) (Q : Option Value → xM → Prop), xW xSC 131 106 [.ref a0, .int a1] (st) M Q = xW xSC 131 107 [.ref a0, .int a1] (.int (-1) :: st) M Q) ∧
  (∀ (a0 : Nat) (a1 : Int32) (y0 : Int32) (M : xM) (Q : Option Value → xM → Prop), xW xSC 131 107 [.ref a0, .int a1] ([.int y0]) M Q = Q (some (.int y0)) M) :=
  ⟨fun a0 a1 st M Q => xw_s rfl rfl,
  fun a0 a1 st M Q => xw_s rfl (by simp only [xdo]; rfl),
  fun a0 a1 st M Q => xw_s rfl (by simp only [xdo]; rfl),
  fun a0 a1 st M Q => xw_s rfl (by simp only [xdo]; rfl),
  fun a0 a1 st M Q => xw_s rfl (by simp only [xdo]; rfl),
  fun a0 a1 st M Q => xw_s rfl (by simp only [xdo]; rfl),
  fun a0 a1 st M Q => xw_s rfl (by simp only [xdo]; rfl),
  fun a0 a1 st M Q => xw_s rfl (by simp only [xdo]; rfl),
  fun a0 a1 st M Q => xw_s rfl (by simp only [xdo]; rfl),
  fun a0 a1 st M Q => xw_s rfl rfl,
  fun a0 a1 st M Q => xw_s rfl rfl,
  fun a0 a1 st M Q => xw_s rfl rfl,
  fun a0 a1 y0 M Q => xw_ret rfl rfl,
  fun a0 a1 st M Q => xw_s rfl rfl,
  fun a0 a1 st M Q => xw_s rfl rfl,
  fun a0 a1 st M Q => xw_s rfl rfl,
  fun a0 a1 y0 M Q => xw_ret rfl rfl,
  fun a0 a1 st M Q => xw_s rfl rfl,
  fun a0 a1 st M Q => xw_s rfl rfl,
  fun a0 a1 st M Q => xw_s rfl rfl,
  fun a0 a1 y0 M Q => xw_ret rfl rfl,
  fun a0 a1 st M Q => xw_s rfl rfl,
  fun a0 a1 st M Q => xw_s rfl rfl,
  fun a0 a1 y0 M Q => xw_ret rfl rfl,
  fun a0 a1 st M Q => xw_s rfl rfl,
  fun a0 a1 st M Q => xw_s rfl rfl,
  fun a0 a1 st M Q => xw_s rfl rfl,
  fun a0 a1 y0 M Q => xw_ret rfl rfl,
  fun a0 a1 st M Q => xw_s rfl rfl,
  fun a0 a1 st M Q => xw_s rfl rfl,
  fun a0 a1 st M Q => xw_s rfl rfl,
  fun a0 a1 y0 M Q => xw_ret rfl rfl,
  fun a0 a1 st M Q => xw_s rfl rfl,
  fun a0 a1 st M Q => xw_s rfl rfl,
  fun a0 a1 y0 M Q => xw_ret rfl rfl,
  fun a0 a1 st M Q => xw_s rfl rfl,
  fun a0 a1 st M Q => xw_s rfl rfl,
  fun a0 a1 st M Q => xw_s rfl rfl,
  fun a0 a1 y0 M Q => xw_ret rfl rfl,
  fun a0 a1 st M Q => xw_s rfl rfl,
  fun a0 a1 y0 M Q => xw_ret rfl rfl⟩
theorem j131 : True := trivial

set_option maxRecDepth 20000 in
theorem s132 :
  (∀ (a0 : Int32) (a1 : Int32) (a2 : Int32) (st : List Value) (M : xM) (Q : Option Value → xM → Prop), xW xSC 132 0 [.int a0, .int a1, .int a2] (st) M Q = xW xSC 132 1 [.int a0, .int a1, .int a2] (.int a0 :: st) M Q) ∧
  (∀ (a0 : Int32) (a1 : Int32) (a2 : Int32) (st : List Value) (M : xM) (Q : Option Value → xM → Prop), xW xSC 132 1 [.int a0, .int a1, .int a2] (st) M Q = xW xSC 132 2 [.int a0, .int a1, .int a2] (.int a1 :: st) M Q) ∧
  (∀ (a0 : Int32) (a1 : Int32) (a2 : Int32) (y0 : Int32) (y1 : Int32) (st : List Value) (M : xM) (Q : Option Value → xM → Prop), xW xSC 132 2 [.int a0, .int a1, .int a2] (.int y0 :: .int y1 :: st) M Q = if y1 < y0 then xW xSC 132 14 [.int a0, .int a1, .int a2] (st) M Q else xW xSC 132 5 [.int a0, .int a1, .int a2] (st) M Q) ∧
  (∀ (a0 : Int32) (a1 : Int32) (a2 : Int32) (st : List Value) (M : xM) (Q : Option Value → xM → Prop), xW xSC 132 5 [.int a0, .int a1, .int a2] (st) M Q = xW xSC 132 6 [.int a0, .int a1, .int a2] (.int a0 :: st) M Q) ∧
  (∀ (a0 : Int32) (a1 : Int32) (a2 : Int32) (st : List Value) (M : xM) (Q : Option Value → xM → Prop), xW xSC 132 6 [.int a0, .int a1, .int a2] (st) M Q = xW xSC 132 7 [.int a0, .int a1, .int a2] (.int a2 :: st) M Q) ∧
  (∀ (a0 : Int32) (a1 : Int32) (a2 : Int32) (y0 : Int32) (y1 : Int32) (st : List Value) (M : xM) (Q : Option Value → xM → Prop), xW xSC 132 7 [.int a0, .int a1, .int a2] (.int y0 :: .int y1 :: st) M Q = if y0 < y1 then xW xSC 132 14 [.int a0, .int a1, .int a2] (st) M Q else xW xSC 132 10 [.int a0, .int a1, .int a2] (st) M Q) ∧
  (∀ (a0 : Int32) (a1 : Int32) (a2 : Int32) (st : List Value) (M : xM) (Q : Option Value → xM → Prop), xW xSC 132 10 [.int a0, .int a1, .int a2] (st) M Q = xW xSC 132 11 [.int a0, .int a1, .int a2] (.int (nI 1) :: st) M Q) ∧
  (∀ (a0 : Int32) (a1 : Int32) (a2 : Int32) (st : List Value) (M : xM) (Q : Option Value → xM → Prop), xW xSC 132 11 [.int a0, .int a1, .int a2] (st) M Q = xW xSC 132 15 [.int a0, .int a1, .int a2] (st) M Q) :=
  ⟨fun a0 a1 a2 st M Q => xw_s rfl rfl,
  fun a0 a1 a2 st M Q => xw_s rfl rfl,
  fun a0 a1 a2 y0 y1 st M Q => xw_br (c0 := y1 < y0) rfl rfl,
  fun a0 a1 a2 st M Q => xw_s rfl rfl,
  fun a0 a1 a2 st M Q => xw_s rfl rfl,
  fun a0 a1 a2 y0 y1 st M Q => xw_br (c0 := y0 < y1) rfl rfl,
  fun a0 a1 a2 st M Q => xw_s rfl rfl,
  fun a0 a1 a2 st M Q => xw_s rfl rfl⟩
set_option maxRecDepth 20000 in
theorem h132_14 :
  (∀ (a0 : Int32) (a1 : Int32) (a2 : Int32) (st : List Value) (M : xM) (Q : Option Value → xM → Prop), xW xSC 132 14 [.int a0, .int a1, .int a2] (st) M Q = xW xSC 132 15 [.int a0, .int a1, .int a2] (.int (nI 0) :: st) M Q) :=
  fun a0 a1 a2 st M Q => xw_s rfl rfl
set_option maxRecDepth 20000 in
theorem h132_15 :
  (∀ (a0 : Int32) (a1 : Int32) (a2 : Int32) (y0 : Int32) (M : xM) (Q : Option Value → xM → Prop), y0 = 0 ∨ y0 = 1 → xW xSC 132 15 [.int a0, .int a1, .int a2] ([.int y0]) M Q = Q (some (.int y0)) M) :=
  fun a0 a1 a2 y0 M Q h0 => xw_retz rfl rfl h0
set_option maxRecDepth 20000 in
theorem j132 :
  (∀ (a0 : Int32) (a1 : Int32) (a2 : Int32) (st : List Value) (M : xM) (Q : Option Value → xM → Prop), xW xSC 132 14 [.int a0, .int a1, .int a2] (st) M Q = xW xSC 132 15 [.int a0, .int a1, .int a2] (.int (nI 0) :: st) M Q) ∧
  (∀ (a0 : Int32) (a1 : Int32) (a2 : Int32) (y0 : Int32) (M : xM) (Q : Option Value → xM → Prop), y0 = 0 ∨ y0 = 1 → xW xSC 132 15 [.int a0, .int a1, .int a2] ([.int y0]) M Q = Q (some (.int y0)) M) :=
  ⟨fun a0 a1 a2 st M Q => xw_s rfl rfl,
  fun a0 a1 a2 y0 M Q h0 => xw_retz rfl rfl h0⟩

set_option maxRecDepth 20000 in
theorem s133 :
  (∀ (a0 : Nat) (a1 : Int32) (a2 : Int32) (st : List Value) (M : xM) (Q : Option Value → xM → Prop), xW xSC 133 0 [.ref a0, .int a1, .int a2] (st) M Q = xW xSC 133 1 [.ref a0, .int a1, .int a2] (.ref a0 :: st) M Q) ∧
  (∀ (a0 : Nat) (a1 : Int32) (a2 : Int32) (st : List Value) (M : xM) (Q : Option Value → xM → Prop), xW xSC 133 1 [.ref a0, .int a1, .int a2] (.ref 0 :: st) M Q = xW xSC 133 4 [.ref a0, .int a1, .int a2] (.ref 9 :: st) M Q) ∧
  (∀ (a0 : Nat) (a1 : Int32) (a2 : Int32) (st : List Value) (M : xM) (Q : Option Value → xM → Prop), xW xSC 133 4 [.ref a0, .int a1, .int a2] (st) M Q = xW xSC 133 5 [.ref a0, .int a1, .int a2] (.int a1 :: st) M Q) ∧
  (∀ (a0 : Nat) (a1 : Int32) (a2 : Int32) (y0 : Int32) (M : xM) (Q : Option Value → xM → Prop), xW xSC 133 5 [.ref a0, .int a1, .int a2] (.int y0 :: .ref 9 :: []) M Q = xW xSC 24 0 [.ref 9, .int y0] [] M (fun v M' => xW xSC 133 8 [.ref a0, .int a1, .int a2] (xpush v []) M' Q)) ∧
  (∀ (a0 : Nat) (a1 : Int32) (a2 : Int32) (y0 : Int32) (st : List Value) (M : xM) (Q : Option Value → xM → Prop), xW xSC 133 8 [.ref a0, .int a1, .int a2] (.int y0 :: st) M Q = if y0 = nI 0 then xW xSC 133 24 [.ref a0, .int a1, .int a2] (st) M Q else xW xSC 133 11 [.ref a0, .int a1, .int a2] (st) M Q) ∧
  (∀ (a0 : Nat) (a1 : Int32) (a2 : Int32) (st : List Value) (M : xM) (Q : Option Value → xM → Prop), xW xSC 133 11 [.ref a0, .int a1, .int a2] (st) M Q = xW xSC 133 12 [.ref a0, .int a1, .int a2] (.int a2 :: st) M Q) ∧
  (∀ (a0 : Nat) (a1 : Int32) (a2 : Int32) (st : List Value) (M : xM) (Q : Option Value → xM → Prop), xW xSC 133 12 [.ref a0, .int a1, .int a2] (st) M Q = xW xSC 133 13 [.ref a0, .int a1, .int a2] (.int (nI 0) :: st) M Q) ∧
  (∀ (a0 : Nat) (a1 : Int32) (a2 : Int32) (st : List Value) (M : xM) (Q : Option Value → xM → Prop), xW xSC 133 13 [.ref a0, .int a1, .int a2] (st) M Q = xW xSC 133 14 [.ref a0, .int a1, .int a2] (.int (nI 1) :: st) M Q) ∧
  (∀ (a0 : Nat) (a1 : Int32) (a2 : Int32) (y0 : Int32) (y1 : Int32) (y2 : Int32) (M : xM) (Q : Option Value → xM → Prop), xW xSC 133 14 [.ref a0, .int a1, .int a2] (.int y0 :: .int y1 :: .int y2 :: []) M Q = xW xSC 132 0 [.int y2, .int y1, .int y0] [] M (fun v M' => xW xSC 133 17 [.ref a0, .int a1, .int a2] (xpush v []) M' Q)) ∧
  (∀ (a0 : Nat) (a1 : Int32) (a2 : Int32) (y0 : Int32) (st : List Value) (M : xM) (Q : Option Value → xM → Prop), xW xSC 133 17 [.ref a0, .int a1, .int a2] (.int y0 :: st) M Q = if y0 = nI 0 then xW xSC 133 24 [.ref a0, .int a1, .int a2] (st) M Q else xW xSC 133 20 [.ref a0, .int a1, .int a2] (st) M Q) ∧
  (∀ (a0 : Nat) (a1 : Int32) (a2 : Int32) (st : List Value) (M : xM) (Q : Option Value → xM → Prop), xW xSC 133 20 [.ref a0, .int a1, .int a2] (st) M Q = xW xSC 133 21 [.ref a0, .int a1, .int a2] (.int (nI 1) :: st) M Q) ∧
  (∀ (a0 : Nat) (a1 : Int32) (a2 : Int32) (st : List Value) (M : xM) (Q : Option Value → xM → Prop), xW xSC 133 21 [.ref a0, .int a1, .int a2] (st) M Q = xW xSC 133 25 [.ref a0, .int a1, .int a2] (st) M Q) :=
  ⟨fun a0 a1 a2 st M Q => xw_s rfl rfl,
  fun a0 a1 a2 st M Q => xw_s rfl rfl,
  fun a0 a1 a2 st M Q => xw_s rfl rfl,
  fun a0 a1 a2 y0 M Q => xw_call rfl rfl rfl,
  fun a0 a1 a2 y0 st M Q => xw_br (c0 := y0 = nI 0) rfl rfl,
  fun a0 a1 a2 st M Q => xw_s rfl rfl,
  fun a0 a1 a2 st M Q => xw_s rfl rfl,
  fun a0 a1 a2 st M Q => xw_s rfl rfl,
  fun a0 a1 a2 y0 y1 y2 M Q => xw_call rfl rfl rfl,
  fun a0 a1 a2 y0 st M Q => xw_br (c0 := y0 = nI 0) rfl rfl,
  fun a0 a1 a2 st M Q => xw_s rfl rfl,
  fun a0 a1 a2 st M Q => xw_s rfl rfl⟩
set_option maxRecDepth 20000 in
theorem h133_24 :
  (∀ (a0 : Nat) (a1 : Int32) (a2 : Int32) (st : List Value) (M : xM) (Q : Option Value → xM → Prop), xW xSC 133 24 [.ref a0, .int a1, .int a2] (st) M Q = xW xSC 133 25 [.ref a0, .int a1, .int a2] (.int (nI 0) :: st) M Q) :=
  fun a0 a1 a2 st M Q => xw_s rfl rfl
set_option maxRecDepth 20000 in
theorem h133_25 :
  (∀ (a0 : Nat) (a1 : Int32) (a2 : Int32) (y0 : Int32) (M : xM) (Q : Option Value → xM → Prop), y0 = 0 ∨ y0 = 1 → xW xSC 133 25 [.ref a0, .int a1, .int a2] ([.int y0]) M Q = Q (some (.int y0)) M) :=
  fun a0 a1 a2 y0 M Q h0 => xw_retz rfl rfl h0
set_option maxRecDepth 20000 in
theorem j133 :
  (∀ (a0 : Nat) (a1 : Int32) (a2 : Int32) (st : List Value) (M : xM) (Q : Option Value → xM → Prop), xW xSC 133 24 [.ref a0, .int a1, .int a2] (st) M Q = xW xSC 133 25 [.ref a0, .int a1, .int a2] (.int (nI 0) :: st) M Q) ∧
  (∀ (a0 : Nat) (a1 : Int32) (a2 : Int32) (y0 : Int32) (M : xM) (Q : Option Value → xM → Prop), y0 = 0 ∨ y0 = 1 → xW xSC 133 25 [.ref a0, .int a1, .int a2] ([.int y0]) M Q = Q (some (.int y0)) M) :=
  ⟨fun a0 a1 a2 st M Q => xw_s rfl rfl,
  fun a0 a1 a2 y0 M Q h0 => xw_retz rfl rfl h0⟩
