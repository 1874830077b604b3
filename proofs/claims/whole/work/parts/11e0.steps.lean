set_option maxRecDepth 20000 in
theorem s135 :
  (∀ (a0 : Int64) (a2 : Int64) (a4 : Int64) (st : List Value) (M : xM) (Q : Option Value → xM → Prop), xW xSR 135 0 [.long a0, .null, .long a2, .null, .long a4, .null] (st) M Q = xW xSR 135 1 [.long a0, .null, .long a2, .null, .long a4, .null] (.long a0 :: st) M Q) ∧
  (∀ (a0 : Int64) (a2 : Int64) (a4 : Int64) (st : List Value) (M : xM) (Q : Option Value → xM → Prop), xW xSR 135 1 [.long a0, .null, .long a2, .null, .long a4, .null] (st) M Q = xW xSR 135 2 [.long a0, .null, .long a2, .null, .long a4, .null] (.long a2 :: st) M Q) ∧
  (∀ (a0 : Int64) (a2 : Int64) (a4 : Int64) (y0 : Int64) (y1 : Int64) (st : List Value) (M : xM) (Q : Option Value → xM → Prop), xW xSR 135 2 [.long a0, .null, .long a2, .null, .long a4, .null] (.long y0 :: .long y1 :: st) M Q = xW xSR 135 3 [.long a0, .null, .long a2, .null, .long a4, .null] (.int (lg_cmp y1 y0) :: st) M Q) ∧
  (∀ (a0 : Int64) (a2 : Int64) (a4 : Int64) (y0 : Int32) (st : List Value) (M : xM) (Q : Option Value → xM → Prop), xW xSR 135 3 [.long a0, .null, .long a2, .null, .long a4, .null] (.int y0 :: st) M Q = if y0 < nI 0 then xW xSR 135 17 [.long a0, .null, .long a2, .null, .long a4, .null] (st) M Q else xW xSR 135 6 [.long a0, .null, .long a2, .null, .long a4, .null] (st) M Q) ∧
  (∀ (a0 : Int64) (a2 : Int64) (a4 : Int64) (st : List Value) (M : xM) (Q : Option Value → xM → Prop), xW xSR 135 6 [.long a0, .null, .long a2, .null, .long a4, .null] (st) M Q = xW xSR 135 7 [.long a0, .null, .long a2, .null, .long a4, .null] (.long a0 :: st) M Q) ∧
  (∀ (a0 : Int64) (a2 : Int64) (a4 : Int64) (st : List Value) (M : xM) (Q : Option Value → xM → Prop), xW xSR 135 7 [.long a0, .null, .long a2, .null, .long a4, .null] (st) M Q = xW xSR 135 9 [.long a0, .null, .long a2, .null, .long a4, .null] (.long a4 :: st) M Q) ∧
  (∀ (a0 : Int64) (a2 : Int64) (a4 : Int64) (y0 : Int64) (y1 : Int64) (st : List Value) (M : xM) (Q : Option Value → xM → Prop), xW xSR 135 9 [.long a0, .null, .long a2, .null, .long a4, .null] (.long y0 :: .long y1 :: st) M Q = xW xSR 135 10 [.long a0, .null, .long a2, .null, .long a4, .null] (.int (lg_cmp y1 y0) :: st) M Q) ∧
  (∀ (a0 : Int64) (a2 : Int64) (a4 : Int64) (y0 : Int32) (st : List Value) (M : xM) (Q : Option Value → xM → Prop), xW xSR 135 10 [.long a0, .null, .long a2, .null, .long a4, .null] (.int y0 :: st) M Q = if nI 0 < y0 then xW xSR 135 17 [.long a0, .null, .long a2, .null, .long a4, .null] (st) M Q else xW xSR 135 13 [.long a0, .null, .long a2, .null, .long a4, .null] (st) M Q) ∧
  (∀ (a0 : Int64) (a2 : Int64) (a4 : Int64) (st : List Value) (M : xM) (Q : Option Value → xM → Prop), xW xSR 135 13 [.long a0, .null, .long a2, .null, .long a4, .null] (st) M Q = xW xSR 135 14 [.long a0, .null, .long a2, .null, .long a4, .null] (.int (nI 1) :: st) M Q) ∧
  (∀ (a0 : Int64) (a2 : Int64) (a4 : Int64) (st : List Value) (M : xM) (Q : Option Value → xM → Prop), xW xSR 135 14 [.long a0, .null, .long a2, .null, .long a4, .null] (st) M Q = xW xSR 135 18 [.long a0, .null, .long a2, .null, .long a4, .null] (st) M Q) :=
  ⟨fun a0 a2 a4 st M Q => xw_s rfl rfl,
  fun a0 a2 a4 st M Q => xw_s rfl rfl,
  fun a0 a2 a4 y0 y1 st M Q => xw_s rfl rfl,
  fun a0 a2 a4 y0 st M Q => xw_br (c0 := y0 < nI 0) rfl rfl,
  fun a0 a2 a4 st M Q => xw_s rfl rfl,
  fun a0 a2 a4 st M Q => xw_s rfl rfl,
  fun a0 a2 a4 y0 y1 st M Q => xw_s rfl rfl,
  fun a0 a2 a4 y0 st M Q => xw_br (c0 := nI 0 < y0) rfl rfl,
  fun a0 a2 a4 st M Q => xw_s rfl rfl,
  fun a0 a2 a4 st M Q => xw_s rfl rfl⟩
set_option maxRecDepth 20000 in
theorem h135_17 :
  (∀ (a0 : Int64) (a2 : Int64) (a4 : Int64) (st : List Value) (M : xM) (Q : Option Value → xM → Prop), xW xSR 135 17 [.long a0, .null, .long a2, .null, .long a4, .null] (st) M Q = xW xSR 135 18 [.long a0, .null, .long a2, .null, .long a4, .null] (.int (nI 0) :: st) M Q) :=
  fun a0 a2 a4 st M Q => xw_s rfl rfl
set_option maxRecDepth 20000 in
theorem h135_18 :
  (∀ (a0 : Int64) (a2 : Int64) (a4 : Int64) (y0 : Int32) (M : xM) (Q : Option Value → xM → Prop), y0 = 0 ∨ y0 = 1 → xW xSR 135 18 [.long a0, .null, .long a2, .null, .long a4, .null] ([.int y0]) M Q = Q (some (.int y0)) M) :=
  fun a0 a2 a4 y0 M Q h0 => xw_retz rfl rfl h0
set_option maxRecDepth 20000 in
theorem j135 :
  (∀ (a0 : Int64) (a2 : Int64) (a4 : Int64) (st : List Value) (M : xM) (Q : Option Value → xM → Prop), xW xSR 135 17 [.long a0, .null, .long a2, .null, .long a4, .null] (st) M Q = xW xSR 135 18 [.long a0, .null, .long a2, .null, .long a4, .null] (.int (nI 0) :: st) M Q) ∧
  (∀ (a0 : Int64) (a2 : Int64) (a4 : Int64) (y0 : Int32) (M : xM) (Q : Option Value → xM → Prop), y0 = 0 ∨ y0 = 1 → xW xSR 135 18 [.long a0, .null, .long a2, .null, .long a4, .null] ([.int y0]) M Q = Q (some (.int y0)) M) :=
  ⟨fun a0 a2 a4 st M Q => xw_s rfl rfl,
  fun a0 a2 a4 y0 M Q h0 => xw_retz rfl rfl h0⟩

set_option maxRecDepth 20000 in
theorem s137 :
  (∀ (a0 : Nat) (a1 : Value) (st : List Value) (M : xM) (Q : Option Value → xM → Prop), xW xSR 137 0 [.ref a0, a1] (st) M Q = xW xSR 137 1 [.ref a0, a1] (.int (nI 0) :: st) M Q) ∧
  (∀ (a0 : Nat) (a1 : Value) (y0 : Int32) (st : List Value) (M : xM) (Q : Option Value → xM → Prop), xW xSR 137 1 [.ref a0, a1] (.int y0 :: st) M Q = xW xSR 137 2 [.ref a0, .int y0] (st) M Q) ∧
  (∀ (a0 : Nat) (a1 : Int32) (st : List Value) (M : xM) (Q : Option Value → xM → Prop), xW xSR 137 3 [.ref a0, .int a1] (st) M Q = xW xSR 137 6 [.ref a0, .int a1] (.int (nI 156) :: st) M Q) ∧
  (∀ (a0 : Nat) (a1 : Int32) (y0 : Int32) (y1 : Int32) (st : List Value) (M : xM) (Q : Option Value → xM → Prop), xW xSR 137 6 [.ref a0, .int a1] (.int y0 :: .int y1 :: st) M Q = if y1 < y0 then xW xSR 137 9 [.ref a0, .int a1] (st) M Q else xW xSR 137 19 [.ref a0, .int a1] (st) M Q) ∧
  (∀ (a0 : Nat) (a1 : Int32) (st : List Value) (M : xM) (Q : Option Value → xM → Prop), xW xSR 137 9 [.ref a0, .int a1] (st) M Q = xW xSR 137 10 [.ref a0, .int a1] (.ref a0 :: st) M Q) ∧
  (∀ (a0 : Nat) (a1 : Int32) (st : List Value) (M : xM) (Q : Option Value → xM → Prop), xW xSR 137 10 [.ref a0, .int a1] (st) M Q = xW xSR 137 11 [.ref a0, .int a1] (.int a1 :: st) M Q) ∧
  (∀ (a0 : Nat) (a1 : Int32) (st : List Value) (M : xM) (Q : Option Value → xM → Prop), xW xSR 137 11 [.ref a0, .int a1] (st) M Q = xW xSR 137 12 [.ref a0, .int a1] (.int (nI 0) :: st) M Q) ∧
  (∀ (a0 : Nat) (a1 : Int32) (y0 : Int32) (y1 : Nat) (st : List Value) (M : xM) (Q : Option Value → xM → Prop), y1 < 156 → xW xSR 137 12 [.ref a0, .int a1] (.int y0 :: .int (nI y1) :: .ref 1 :: st) M Q = xW xSR 137 13 [.ref a0, .int a1] (st) (xup M 1 y1 y0) Q) ∧
  (∀ (a0 : Nat) (a1 : Int32) (st : List Value) (M : xM) (Q : Option Value → xM → Prop), xW xSR 137 13 [.ref a0, .int a1] (st) M Q = xW xSR 137 16 [.ref a0, .int (a1 + nI 1)] (st) M Q) ∧
  (∀ (a0 : Nat) (a1 : Int32) (st : List Value) (M : xM) (Q : Option Value → xM → Prop), xW xSR 137 16 [.ref a0, .int a1] (st) M Q = xW xSR 137 2 [.ref a0, .int a1] (st) M Q) ∧
  (∀ (a0 : Nat) (a1 : Int32) (st : List Value) (M : xM) (Q : Option Value → xM → Prop), xW xSR 137 19 [.ref a0, .int a1] (st) M Q = xW xSR 137 20 [.ref a0, .int a1] (.ref a0 :: st) M Q) ∧
  (∀ (a0 : Nat) (a1 : Int32) (st : List Value) (M : xM) (Q : Option Value → xM → Prop), xW xSR 137 20 [.ref a0, .int a1] (st) M Q = xW xSR 137 21 [.ref a0, .int a1] (.int (nI 0) :: st) M Q) ∧
  (∀ (a0 : Nat) (a1 : Int32) (st : List Value) (M : xM) (Q : Option Value → xM → Prop), xW xSR 137 21 [.ref a0, .int a1] (st) M Q = xW xSR 137 22 [.ref a0, .int a1] (.int (nI 3) :: st) M Q) ∧
  (∀ (a0 : Nat) (a1 : Int32) (y0 : Int32) (y1 : Nat) (st : List Value) (M : xM) (Q : Option Value → xM → Prop), y1 < 156 → xW xSR 137 22 [.ref a0, .int a1] (.int y0 :: .int (nI y1) :: .ref 1 :: st) M Q = xW xSR 137 23 [.ref a0, .int a1] (st) (xup M 1 y1 y0) Q) ∧
  (∀ (a0 : Nat) (a1 : Int32) (st : List Value) (M : xM) (Q : Option Value → xM → Prop), xW xSR 137 23 [.ref a0, .int a1] (st) M Q = xW xSR 137 24 [.ref a0, .int a1] (.int (nI 0) :: st) M Q) ∧
  (∀ (a0 : Nat) (a1 : Int32) (y0 : Int32) (st : List Value) (M : xM) (Q : Option Value → xM → Prop), xW xSR 137 24 [.ref a0, .int a1] (.int y0 :: st) M Q = xW xSR 137 25 [.ref a0, .int y0] (st) M Q) ∧
  (∀ (a0 : Nat) (a1 : Int32) (st : List Value) (M : xM) (Q : Option Value → xM → Prop), xW xSR 137 26 [.ref a0, .int a1] (st) M Q = xW xSR 137 27 [.ref a0, .int a1] (.int (nI 5) :: st) M Q) ∧
  (∀ (a0 : Nat) (a1 : Int32) (y0 : Int32) (y1 : Int32) (st : List Value) (M : xM) (Q : Option Value → xM → Prop), xW xSR 137 27 [.ref a0, .int a1] (.int y0 :: .int y1 :: st) M Q = if y1 < y0 then xW xSR 137 30 [.ref a0, .int a1] (st) M Q else xW xSR 137 48 [.ref a0, .int a1] (st) M Q) ∧
  (∀ (a0 : Nat) (a1 : Int32) (st : List Value) (M : xM) (Q : Option Value → xM → Prop), xW xSR 137 30 [.ref a0, .int a1] (st) M Q = xW xSR 137 31 [.ref a0, .int a1] (.ref a0 :: st) M Q) ∧
  (∀ (a0 : Nat) (a1 : Int32) (st : List Value) (M : xM) (Q : Option Value → xM → Prop), xW xSR 137 31 [.ref a0, .int a1] (st) M Q = xW xSR 137 33 [.ref a0, .int a1] (.int (nI 51) :: st) M Q) ∧
  (∀ (a0 : Nat) (a1 : Int32) (st : List Value) (M : xM) (Q : Option Value → xM → Prop), xW xSR 137 33 [.ref a0, .int a1] (st) M Q = xW xSR 137 34 [.ref a0, .int a1] (.int (nI 3) :: st) M Q) ∧
  (∀ (a0 : Nat) (a1 : Int32) (st : List Value) (M : xM) (Q : Option Value → xM → Prop), xW xSR 137 34 [.ref a0, .int a1] (st) M Q = xW xSR 137 35 [.ref a0, .int a1] (.int a1 :: st) M Q) ∧
  (∀ (a0 : Nat) (a1 : Int32) (y0 : Int32) (y1 : Int32) (st : List Value) (M : xM) (Q : Option Value → xM → Prop), xW xSR 137 35 [.ref a0, .int a1] (.int y0 :: .int y1 :: st) M Q = xW xSR 137 36 [.ref a0, .int a1] (.int (y1 * y0) :: st) M Q) ∧
  (∀ (a0 : Nat) (a1 : Int32) (y0 : Int32) (y1 : Int32) (st : List Value) (M : xM) (Q : Option Value → xM → Prop), xW xSR 137 36 [.ref a0, .int a1] (.int y0 :: .int y1 :: st) M Q = xW xSR 137 37 [.ref a0, .int a1] (.int (y1 + y0) :: st) M Q) ∧
  (∀ (a0 : Nat) (a1 : Int32) (st : List Value) (M : xM) (Q : Option Value → xM → Prop), xW xSR 137 37 [.ref a0, .int a1] (st) M Q = xW xSR 137 38 [.ref a0, .int a1] (.int (nI 2) :: st) M Q) ∧
  (∀ (a0 : Nat) (a1 : Int32) (y0 : Int32) (y1 : Int32) (st : List Value) (M : xM) (Q : Option Value → xM → Prop), xW xSR 137 38 [.ref a0, .int a1] (.int y0 :: .int y1 :: st) M Q = xW xSR 137 39 [.ref a0, .int a1] (.int (y1 + y0) :: st) M Q) ∧
  (∀ (a0 : Nat) (a1 : Int32) (st : List Value) (M : xM) (Q : Option Value → xM → Prop), xW xSR 137 39 [.ref a0, .int a1] (st) M Q = xW xSR 137 41 [.ref a0, .int a1] (.int (-4) :: st) M Q) ∧
  (∀ (a0 : Nat) (a1 : Int32) (y0 : Int32) (y1 : Nat) (st : List Value) (M : xM) (Q : Option Value → xM → Prop), y1 < 156 → xW xSR 137 41 [.ref a0, .int a1] (.int y0 :: .int (nI y1) :: .ref 1 :: st) M Q = xW xSR 137 42 [.ref a0, .int a1] (st) (xup M 1 y1 y0) Q) ∧
  (∀ (a0 : Nat) (a1 : Int32) (st : List Value) (M : xM) (Q : Option Value → xM → Prop), xW xSR 137 42 [.ref a0, .int a1] (st) M Q = xW xSR 137 45 [.ref a0, .int (a1 + nI 1)] (st) M Q) ∧
  (∀ (a0 : Nat) (a1 : Int32) (st : List Value) (M : xM) (Q : Option Value → xM → Prop), xW xSR 137 45 [.ref a0, .int a1] (st) M Q = xW xSR 137 25 [.ref a0, .int a1] (st) M Q) ∧
  (∀ (a0 : Nat) (a1 : Int32) (st : List Value) (M : xM) (Q : Option Value → xM → Prop), xW xSR 137 48 [.ref a0, .int a1] (st) M Q = xW xSR 137 49 [.ref a0, .int a1] (.ref a0 :: st) M Q) ∧
  (∀ (a0 : Nat) (a1 : Int32) (st : List Value) (M : xM) (Q : Option Value → xM → Prop), xW xSR 137 49 [.ref a0, .int a1] (st) M Q = xW xSR 137 52 [.ref a0, .int a1] (.int (nI 146) :: st) M Q) ∧
  (∀ (a0 : Nat) (a1 : Int32) (st : List Value) (M : xM) (Q : Option Value → xM → Prop), xW xSR 137 52 [.ref a0, .int a1] (st) M Q = xW xSR 137 54 [.ref a0, .int a1] (.int (nI 6) :: st) M Q) ∧
  (∀ (a0 : Nat) (a1 : Int32) (y0 : Int32) (y1 : Nat) (st : List Value) (M : xM) (Q : Option Value → xM → Prop), y1 < 156 → xW xSR 137 54 [.ref a0, .int a1] (.int y0 :: .int (nI y1) :: .ref 1 :: st) M Q = xW xSR 137 55 [.ref a0, .int a1] (st) (xup M 1 y1 y0) Q) ∧
  (∀ (a0 : Nat) (a1 : Int32) (st : List Value) (M : xM) (Q : Option Value → xM → Prop), xW xSR 137 55 [.ref a0, .int a1] (st) M Q = xW xSR 137 56 [.ref a0, .int a1] (.ref a0 :: st) M Q) ∧
  (∀ (a0 : Nat) (a1 : Int32) (st : List Value) (M : xM) (Q : Option Value → xM → Prop), xW xSR 137 56 [.ref a0, .int a1] (st) M Q = xW xSR 137 59 [.ref a0, .int a1] (.int (nI 147) :: st) M Q) ∧
  (∀ (a0 : Nat) (a1 : Int32) (st : List Value) (M : xM) (Q : Option Value → xM → Prop), xW xSR 137 59 [.ref a0, .int a1] (st) M Q = xW xSR 137 61 [.ref a0, .int a1] (.int (nI 6) :: st) M Q) ∧
  (∀ (a0 : Nat) (a1 : Int32) (y0 : Int32) (y1 : Nat) (st : List Value) (M : xM) (Q : Option Value → xM → Prop), y1 < 156 → xW xSR 137 61 [.ref a0, .int a1] (.int y0 :: .int (nI y1) :: .ref 1 :: st) M Q = xW xSR 137 62 [.ref a0, .int a1] (st) (xup M 1 y1 y0) Q) ∧
  (∀ (a0 : Nat) (a1 : Int32) (st : List Value) (M : xM) (Q : Option Value → xM → Prop), xW xSR 137 62 [.ref a0, .int a1] (st) M Q = xW xSR 137 63 [.ref a0, .int a1] (.ref a0 :: st) M Q) ∧
  (∀ (a0 : Nat) (a1 : Int32) (st : List Value) (M : xM) (Q : Option Value → xM → Prop), xW xSR 137 63 [.ref a0, .int a1] (st) M Q = xW xSR 137 66 [.ref a0, .int a1] (.int (nI 148) :: st) M Q) ∧
  (∀ (a0 : Nat) (a1 : Int32) (st : List Value) (M : xM) (Q : Option Value → xM → Prop), xW xSR 137 66 [.ref a0, .int a1] (st) M Q = xW xSR 137 67 [.ref a0, .int a1] (.int (nI 4) :: st) M Q) ∧
  (∀ (a0 : Nat) (a1 : Int32) (y0 : Int32) (y1 : Nat) (st : List Value) (M : xM) (Q : Option Value → xM → Prop), y1 < 156 → xW xSR 137 67 [.ref a0, .int a1] (.int y0 :: .int (nI y1) :: .ref 1 :: st) M Q = xW xSR 137 68 [.ref a0, .int a1] (st) (xup M 1 y1 y0) Q) ∧
  (∀ (a0 : Nat) (a1 : Int32) (st : List Value) (M : xM) (Q : Option Value → xM → Prop), xW xSR 137 68 [.ref a0, .int a1] (st) M Q = xW xSR 137 69 [.ref a0, .int a1] (.ref a0 :: st) M Q) ∧
  (∀ (a0 : Nat) (a1 : Int32) (st : List Value) (M : xM) (Q : Option Value → xM → Prop), xW xSR 137 69 [.ref a0, .int a1] (st) M Q = xW xSR 137 72 [.ref a0, .int a1] (.int (nI 149) :: st) M Q) ∧
  (∀ (a0 : Nat) (a1 : Int32) (st : List Value) (M : xM) (Q : Option Value → xM → Prop), xW xSR 137 72 [.ref a0, .int a1] (st) M Q = xW xSR 137 73 [.ref a0, .int a1] (.int (nI 3) :: st) M Q) ∧
  (∀ (a0 : Nat) (a1 : Int32) (y0 : Int32) (y1 : Nat) (st : List Value) (M : xM) (Q : Option Value → xM → Prop), y1 < 156 → xW xSR 137 73 [.ref a0, .int a1] (.int y0 :: .int (nI y1) :: .ref 1 :: st) M Q = xW xSR 137 74 [.ref a0, .int a1] (st) (xup M 1 y1 y0) Q) ∧
  (∀ (a0 : Nat) (a1 : Int32) (st : List Value) (M : xM) (Q : Option Value → xM → Prop), xW xSR 137 74 [.ref a0, .int a1] (st) M Q = xW xSR 137 75 [.ref a0, .int a1] (.ref a0 :: st) M Q) ∧
  (∀ (a0 : Nat) (a1 : Int32) (st : List Value) (M : xM) (Q : Option Value → xM → Prop), xW xSR 137 75 [.ref a0, .int a1] (st) M Q = xW xSR 137 78 [.ref a0, .int a1] (.int (nI 150) :: st) M Q) ∧
  (∀ (a0 : Nat) (a1 : Int32) (st : List Value) (M : xM) (Q : Option Value → xM → Prop), xW xSR 137 78 [.ref a0, .int a1] (st) M Q = xW xSR 137 79 [.ref a0, .int a1] (.int (nI 2) :: st) M Q) ∧
  (∀ (a0 : Nat) (a1 : Int32) (y0 : Int32) (y1 : Nat) (st : List Value) (M : xM) (Q : Option Value → xM → Prop), y1 < 156 → xW xSR 137 79 [.ref a0, .int a1] (.int y0 :: .int (nI y1) :: .ref 1 :: st) M Q = xW xSR 137 80 [.ref a0, .int a1] (st) (xup M 1 y1 y0) Q) ∧
  (∀ (a0 : Nat) (a1 : Int32) (st : List Value) (M : xM) (Q : Option Value → xM → Prop), xW xSR 137 80 [.ref a0, .int a1] (st) M Q = xW xSR 137 81 [.ref a0, .int a1] (.ref a0 :: st) M Q) ∧
  (∀ (a0 : Nat) (a1 : Int32) (st : List Value) (M : xM) (Q : Option Value → xM → Prop), xW xSR 137 81 [.ref a0, .int a1] (st) M Q = xW xSR 137 84 [.ref a0, .int a1] (.int (nI 151) :: st) M Q) ∧
  (∀ (a0 : Nat) (a1 : Int32) (st : List Value) (M : xM) (Q : Option Value → xM → Prop), xW xSR 137 84 [.ref a0, .int a1] (st) M Q = xW xSR 137 85 [.ref a0, .int a1] (.int (nI 2) :: st) M Q) ∧
  (∀ (a0 : Nat) (a1 : Int32) (y0 : Int32) (y1 : Nat) (st : List Value) (M : xM) (Q : Option Value → xM → Prop), y1 < 156 → xW xSR 137 85 [.ref a0, .int a1] (.int y0 :: .int (nI y1) :: .ref 1 :: st) M Q = xW xSR 137 86 [.ref a0, .int a1] (st) (xup M 1 y1 y0) Q) ∧
  (∀ (a0 : Nat) (a1 : Int32) (st : List Value) (M : xM) (Q : Option Value → xM → Prop), xW xSR 137 86 [.ref a0, .int a1] (st) M Q = xW xSR 137 87 [.ref a0, .int a1] (.int (nI 0) :: st) M Q) ∧
  (∀ (a0 : Nat) (a1 : Int32) (y0 : Int32) (st : List Value) (M : xM) (Q : Option Value → xM → Prop), xW xSR 137 87 [.ref a0, .int a1] (.int y0 :: st) M Q = xW xSR 137 88 [.ref a0, .int y0] (st) M Q) ∧
  (∀ (a0 : Nat) (a1 : Int32) (st : List Value) (M : xM) (Q : Option Value → xM → Prop), xW xSR 137 89 [.ref a0, .int a1] (st) M Q = xW xSR 137 90 [.ref a0, .int a1] (.int (nI 4) :: st) M Q) ∧
  (∀ (a0 : Nat) (a1 : Int32) (y0 : Int32) (y1 : Int32) (st : List Value) (M : xM) (Q : Option Value → xM → Prop), xW xSR 137 90 [.ref a0, .int a1] (.int y0 :: .int y1 :: st) M Q = if y1 < y0 then xW xSR 137 93 [.ref a0, .int a1] (st) M Q else xW xSR 137 107 [.ref a0, .int a1] (st) M Q) ∧
  (∀ (a0 : Nat) (a1 : Int32) (st : List Value) (M : xM) (Q : Option Value → xM → Prop), xW xSR 137 93 [.ref a0, .int a1] (st) M Q = xW xSR 137 94 [.ref a0, .int a1] (.ref a0 :: st) M Q) ∧
  (∀ (a0 : Nat) (a1 : Int32) (st : List Value) (M : xM) (Q : Option Value → xM → Prop), xW xSR 137 94 [.ref a0, .int a1] (st) M Q = xW xSR 137 97 [.ref a0, .int a1] (.int (nI 152) :: st) M Q) ∧
  (∀ (a0 : Nat) (a1 : Int32) (st : List Value) (M : xM) (Q : Option Value → xM → Prop), xW xSR 137 97 [.ref a0, .int a1] (st) M Q = xW xSR 137 98 [.ref a0, .int a1] (.int a1 :: st) M Q) ∧
  (∀ (a0 : Nat) (a1 : Int32) (y0 : Int32) (y1 : Int32) (st : List Value) (M : xM) (Q : Option Value → xM → Prop), xW xSR 137 98 [.ref a0, .int a1] (.int y0 :: .int y1 :: st) M Q = xW xSR 137 99 [.ref a0, .int a1] (.int (y1 + y0) :: st) M Q) ∧
  (∀ (a0 : Nat) (a1 : Int32) (st : List Value) (M : xM) (Q : Option Value → xM → Prop), xW xSR 137 99 [.ref a0, .int a1] (st) M Q = xW xSR 137 100 [.ref a0, .int a1] (.int (nI 3) :: st) M Q) ∧
  (∀ (a0 : Nat) (a1 : Int32) (y0 : Int32) (y1 : Nat) (st : List Value) (M : xM) (Q : Option Value → xM → Prop), y1 < 156 → xW xSR 137 100 [.ref a0, .int a1] (.int y0 :: .int (nI y1) :: .ref 1 :: st) M Q = xW xSR 137 101 [.ref a0, .int a1] (st) (xup M 1 y1 y0) Q) ∧
  (∀ (a0 : Nat) (a1 : Int32) (st : List Value) (M : xM) (Q : Option Value → xM → Prop), xW xSR 137 101 [.ref a0, .int a1] (st) M Q = xW xSR 137 104 [.ref a0, .int (a1 + nI 1)] (st) M Q) ∧
  (∀ (a0 : Nat) (a1 : Int32) (st : List Value) (M : xM) (Q : Option Value → xM → Prop), xW xSR 137 104 [.ref a0, .int a1] (st) M Q = xW xSR 137 88 [.ref a0, .int a1] (st) M Q) ∧
  (∀ (a0 : Nat) (a1 : Int32) (M : xM) (Q : Option Value → xM → Prop), xW xSR 137 107 [.ref a0, .int a1] ([]) M Q = Q none M) ∧
  (∀ (a0 : Nat) (a1 : Int32) (y0 : Int32) (y1 : Nat) (st : List Value) (M : xM) (Q : Option Value → xM → Prop), y1 < 156 → xW xSR 137 12 [.ref a0, .int a1] (.int y0 :: .int (nI y1) :: .ref 3 :: st) M Q = xW xSR 137 13 [.ref a0, .int a1] (st) (xup M 3 y1 y0) Q) ∧
  (∀ (a0 : Nat) (a1 : Int32) (y0 : Int32) (y1 : Nat) (st : List Value) (M : xM) (Q : Option Value → xM → Prop), y1 < 156 → xW xSR 137 22 [.ref a0, .int a1] (.int y0 :: .int (nI y1) :: .ref 3 :: st) M Q = xW xSR 137 23 [.ref a0, .int a1] (st) (xup M 3 y1 y0) Q) ∧
  (∀ (a0 : Nat) (a1 : Int32) (y0 : Int32) (y1 : Nat) (st : List Value) (M : xM) (Q : Option Value → xM → Prop), y1 < 156 → xW xSR 137 41 [.ref a0, .int a1] (.int y0 :: .int (nI y1) :: .ref 3 :: st) M Q = xW xSR 137 42 [.ref a0, .int a1] (st) (xup M 3 y1 y0) Q) ∧
  (∀ (a0 : Nat) (a1 : Int32) (y0 : Int32) (y1 : Nat) (st : List Value) (M : xM) (Q : Option Value → xM → Prop), y1 < 156 → xW xSR 137 54 [.ref a0, .int a1] (.int y0 :: .int (nI y1) :: .ref 3 :: st) M Q = xW xSR 137 55 [.ref a0, .int a1] (st) (xup M 3 y1 y0) Q) ∧
  (∀ (a0 : Nat) (a1 : Int32) (y0 : Int32) (y1 : Nat) (st : List Value) (M : xM) (Q : Option Value → xM → Prop), y1 < 156 → xW xSR 137 61 [.ref a0, .int a1] (.int y0 :: .int (nI y1) :: .ref 3 :: st) M Q = xW xSR 137 62 [.ref a0, .int a1] (st) (xup M 3 y1 y0) Q) ∧
  (∀ (a0 : Nat) (a1 : Int32) (y0 : Int32) (y1 : Nat) (st : List Value) (M : xM) (Q : Option Value → xM → Prop), y1 < 156 → xW xSR 137 67 [.ref a0, .int a1] (.int y0 :: .int (nI y1) :: .ref 3 :: st) M Q = xW xSR 137 68 [.ref a0, .int a1] (st) (xup M 3 y1 y0) Q) ∧
  (∀ (a0 : Nat) (a1 : Int32) (y0 : Int32) (y1 : Nat) (st : List Value) (M : xM) (Q : Option Value → xM → Prop), y1 < 156 → xW xSR 137 73 [.ref a0, .int a1] (.int y0 :: .int (nI y1) :: .ref 3 :: st) M Q = xW xSR 137 74 [.ref a0, .int a1] (st) (xup M 3 y1 y0) Q) ∧
  (∀ (a0 : Nat) (a1 : Int32) (y0 : Int32) (y1 : Nat) (st : List Value) (M : xM) (Q : Option Value → xM → Prop), y1 < 156 → xW xSR 137 79 [.ref a0, .int a1] (.int y0 :: .int (nI y1) :: .ref 3 :: st) M Q = xW xSR 137 80 [.ref a0, .int a1] (st) (xup M 3 y1 y0) Q) ∧
  (∀ (a0 : Nat) (a1 : Int32) (y0 : Int32) (y1 : Nat) (st : List Value) (M : xM) (Q : Option Value → xM → Prop), y1 < 156 → xW xSR 137 85 [.ref a0, .int a1] (.int y0 :: .int (nI y1) :: .ref 3 :: st) M Q = xW xSR 137 86 [.ref a0, .int a1] (st) (xup M 3 y1 y0) Q) ∧
  (∀ (a0 : Nat) (a1 : Int32) (y0 : Int32) (y1 : Nat) (st : List Value) (M : xM) (Q : Option Value → xM → Prop), y1 < 156 → xW xSR 137 100 [.ref a0, .int a1] (.int y0 :: .int (nI y1) :: .ref 3 :: st) M Q = xW xSR 137 101 [.ref a0, .int a1] (st) (xup M 3 y1 y0) Q) :=
  ⟨fun a0 a1 st M Q => xw_s rfl rfl,
  fun a0 a1 y0 st M Q => xw_s rfl rfl,
  fun a0 a1 st M Q => xw_s rfl rfl,
  fun a0 a1 y0 y1 st M Q => xw_brn (c0 := y0 ≤ y1) (c1 := y1 < y0) rfl rfl (xge _ _),
  fun a0 a1 st M Q => xw_s rfl rfl,
  fun a0 a1 st M Q => xw_s rfl rfl,
  fun a0 a1 st M Q => xw_s rfl rfl,
  fun a0 a1 y0 y1 st M Q h0 => xw_ast (f := fun x => x) rfl rfl rfl (by decide) h0,
  fun a0 a1 st M Q => xw_s rfl rfl,
  fun a0 a1 st M Q => xw_s rfl rfl,
  fun a0 a1 st M Q => xw_s rfl rfl,
  fun a0 a1 st M Q => xw_s rfl rfl,
  fun a0 a1 st M Q => xw_s rfl rfl,
  fun a0 a1 y0 y1 st M Q h0 => xw_ast (f := fun x => x) rfl rfl rfl (by decide) h0,
  fun a0 a1 st M Q => xw_s rfl rfl,
  fun a0 a1 y0 st M Q => xw_s rfl rfl,
  fun a0 a1 st M Q => xw_s rfl rfl,
  fun a0 a1 y0 y1 st M Q => xw_brn (c0 := y0 ≤ y1) (c1 := y1 < y0) rfl rfl (xge _ _),
  fun a0 a1 st M Q => xw_s rfl rfl,
  fun a0 a1 st M Q => xw_s rfl rfl,
  fun a0 a1 st M Q => xw_s rfl rfl,
  fun a0 a1 st M Q => xw_s rfl rfl,
  fun a0 a1 y0 y1 st M Q => xw_s rfl rfl,
  fun a0 a1 y0 y1 st M Q => xw_s rfl rfl,
  fun a0 a1 st M Q => xw_s rfl rfl,
  fun a0 a1 y0 y1 st M Q => xw_s rfl rfl,
  fun a0 a1 st M Q => xw_s rfl rfl,
  fun a0 a1 y0 y1 st M Q h0 => xw_ast (f := fun x => x) rfl rfl rfl (by decide) h0,
  fun a0 a1 st M Q => xw_s rfl rfl,
  fun a0 a1 st M Q => xw_s rfl rfl,
  fun a0 a1 st M Q => xw_s rfl rfl,
  fun a0 a1 st M Q => xw_s rfl rfl,
  fun a0 a1 st M Q => xw_s rfl rfl,
  fun a0 a1 y0 y1 st M Q h0 => xw_ast (f := fun x => x) rfl rfl rfl (by decide) h0,
  fun a0 a1 st M Q => xw_s rfl rfl,
  fun a0 a1 st M Q => xw_s rfl rfl,
  fun a0 a1 st M Q => xw_s rfl rfl,
  fun a0 a1 y0 y1 st M Q h0 => xw_ast (f := fun x => x) rfl rfl rfl (by decide) h0,
  fun a0 a1 st M Q => xw_s rfl rfl,
  fun a0 a1 st M Q => xw_s rfl rfl,
  fun a0 a1 st M Q => xw_s rfl rfl,
  fun a0 a1 y0 y1 st M Q h0 => xw_ast (f := fun x => x) rfl rfl rfl (by decide) h0,
  fun a0 a1 st M Q => xw_s rfl rfl,
  fun a0 a1 st M Q => xw_s rfl rfl,
  fun a0 a1 st M Q => xw_s rfl rfl,
  fun a0 a1 y0 y1 st M Q h0 => xw_ast (f := fun x => x) rfl rfl rfl (by decide) h0,
  fun a0 a1 st M Q => xw_s rfl rfl,
  fun a0 a1 st M Q => xw_s rfl rfl,
  fun a0 a1 st M Q => xw_s rfl rfl,
  fun a0 a1 y0 y1 st M Q h0 => xw_ast (f := fun x => x) rfl rfl rfl (by decide) h0,
  fun a0 a1 st M Q => xw_s rfl rfl,
  fun a0 a1 st M Q => xw_s rfl rfl,
  fun a0 a1 st M Q => xw_s rfl rfl,
  fun a0 a1 y0 y1 st M Q h0 => xw_ast (f := fun x => x) rfl rfl rfl (by decide) h0,
  fun a0 a1 st M Q => xw_s rfl rfl,
  fun a0 a1 y0 st M Q => xw_s rfl rfl,
  fun a0 a1 st M Q => xw_s rfl rfl,
  fun a0 a1 y0 y1 st M Q => xw_brn (c0 := y0 ≤ y1) (c1 := y1 < y0) rfl rfl (xge _ _),
  fun a0 a1 st M Q => xw_s rfl rfl,
  fun a0 a1 st M Q => xw_s rfl rfl,
  fun a0 a1 st M Q => xw_s rfl rfl,
  fun a0 a1 y0 y1 st M Q => xw_s rfl rfl,
  fun a0 a1 st M Q => xw_s rfl rfl,
  fun a0 a1 y0 y1 st M Q h0 => xw_ast (f := fun x => x) rfl rfl rfl (by decide) h0,
  fun a0 a1 st M Q => xw_s rfl rfl,
  fun a0 a1 st M Q => xw_s rfl rfl,
  fun a0 a1 M Q => xw_retv rfl rfl,
  fun a0 a1 y0 y1 st M Q h0 => xw_ast (f := fun x => x) rfl rfl rfl (by decide) h0,
  fun a0 a1 y0 y1 st M Q h0 => xw_ast (f := fun x => x) rfl rfl rfl (by decide) h0,
  fun a0 a1 y0 y1 st M Q h0 => xw_ast (f := fun x => x) rfl rfl rfl (by decide) h0,
  fun a0 a1 y0 y1 st M Q h0 => xw_ast (f := fun x => x) rfl rfl rfl (by decide) h0,
  fun a0 a1 y0 y1 st M Q h0 => xw_ast (f := fun x => x) rfl rfl rfl (by decide) h0,
  fun a0 a1 y0 y1 st M Q h0 => xw_ast (f := fun x => x) rfl rfl rfl (by decide) h0,
  fun a0 a1 y0 y1 st M Q h0 => xw_ast (f := fun x => x) rfl rfl rfl (by decide) h0,
  fun a0 a1 y0 y1 st M Q h0 => xw_ast (f := fun x => x) rfl rfl rfl (by decide) h0,
  fun a0 a1 y0 y1 st M Q h0 => xw_ast (f := fun x => x) rfl rfl rfl (by decide) h0,
  fun a0 a1 y0 y1 st M Q h0 => xw_ast (f := fun x => x) rfl rfl rfl (by decide) h0⟩
set_option maxRecDepth 20000 in
theorem h137_2 :
  (∀ (a0 : Nat) (a1 : Int32) (st : List Value) (M : xM) (Q : Option Value → xM → Prop), xW xSR 137 2 [.ref a0, .int a1] (st) M Q = xW xSR 137 3 [.ref a0, .int a1] (.int a1 :: st) M Q) :=
  fun a0 a1 st M Q => xw_s rfl rfl
set_option maxRecDepth 20000 in
theorem h137_25 :
  (∀ (a0 : Nat) (a1 : Int32) (st : List Value) (M : xM) (Q : Option Value → xM → Prop), xW xSR 137 25 [.ref a0, .int a1] (st) M Q = xW xSR 137 26 [.ref a0, .int a1] (.int a1 :: st) M Q) :=
  fun a0 a1 st M Q => xw_s rfl rfl
set_option maxRecDepth 20000 in
theorem h137_88 :
  (∀ (a0 : Nat) (a1 : Int32) (st : List Value) (M : xM) (Q : Option Value → xM → Prop), xW xSR 137 88 [.ref a0, .int a1] (st) M Q = xW xSR 137 89 [.ref a0, .int a1] (.int a1 :: st) M Q) :=
  fun a0 a1 st M Q => xw_s rfl rfl
theorem j137 : True := trivial

set_option maxRecDepth 20000 in
theorem s138 :
  (∀ (a0 : Nat) (a1 : Int32) (a2 : Int32) (a3 : Int32) (a4 : Int32) (a5 : Int32) (a6 : Value) (st : List Value) (M : xM) (Q : Option Value → xM → Prop), xW xSR 138 0 [.ref a0, .int a1, .int a2, .int a3, .int a4, .int a5, a6] (st) M Q = xW xSR 138 1 [.ref a0, .int a1, .int a2, .int a3, .int a4, .int a5, a6] (.int (nI 3) :: st) M Q) ∧
  (∀ (a0 : Nat) (a1 : Int32) (a2 : Int32) (a3 : Int32) (a4 : Int32) (a5 : Int32) (a6 : Value) (st : List Value) (M : xM) (Q : Option Value → xM → Prop), xW xSR 138 1 [.ref a0, .int a1, .int a2, .int a3, .int a4, .int a5, a6] (st) M Q = xW xSR 138 3 [.ref a0, .int a1, .int a2, .int a3, .int a4, .int a5, a6] (.int (nI 6) :: st) M Q) ∧
  (∀ (a0 : Nat) (a1 : Int32) (a2 : Int32) (a3 : Int32) (a4 : Int32) (a5 : Int32) (a6 : Value) (st : List Value) (M : xM) (Q : Option Value → xM → Prop), xW xSR 138 3 [.ref a0, .int a1, .int a2, .int a3, .int a4, .int a5, a6] (st) M Q = xW xSR 138 4 [.ref a0, .int a1, .int a2, .int a3, .int a4, .int a5, a6] (.int a1 :: st) M Q) ∧
  (∀ (a0 : Nat) (a1 : Int32) (a2 : Int32) (a3 : Int32) (a4 : Int32) (a5 : Int32) (a6 : Value) (y0 : Int32) (y1 : Int32) (st : List Value) (M : xM) (Q : Option Value → xM → Prop), xW xSR 138 4 [.ref a0, .int a1, .int a2, .int a3, .int a4, .int a5, a6] (.int y0 :: .int y1 :: st) M Q = xW xSR 138 5 [.ref a0, .int a1, .int a2, .int a3, .int a4, .int a5, a6] (.int (y1 * y0) :: st) M Q) ∧
  (∀ (a0 : Nat) (a1 : Int32) (a2 : Int32) (a3 : Int32) (a4 : Int32) (a5 : Int32) (a6 : Value) (y0 : Int32) (y1 : Int32) (st : List Value) (M : xM) (Q : Option Value → xM → Prop), xW xSR 138 5 [.ref a0, .int a1, .int a2, .int a3, .int a4, .int a5, a6] (.int y0 :: .int y1 :: st) M Q = xW xSR 138 6 [.ref a0, .int a1, .int a2, .int a3, .int a4, .int a5, a6] (.int (y1 + y0) :: st) M Q) ∧
  (∀ (a0 : Nat) (a1 : Int32) (a2 : Int32) (a3 : Int32) (a4 : Int32) (a5 : Int32) (a6 : Value) (y0 : Int32) (st : List Value) (M : xM) (Q : Option Value → xM → Prop), xW xSR 138 6 [.ref a0, .int a1, .int a2, .int a3, .int a4, .int a5, a6] (.int y0 :: st) M Q = xW xSR 138 8 [.ref a0, .int a1, .int a2, .int a3, .int a4, .int a5, .int y0] (st) M Q) ∧
  (∀ (a0 : Nat) (a1 : Int32) (a2 : Int32) (a3 : Int32) (a4 : Int32) (a5 : Int32) (a6 : Int32) (st : List Value) (M : xM) (Q : Option Value → xM → Prop), xW xSR 138 8 [.ref a0, .int a1, .int a2, .int a3, .int a4, .int a5, .int a6] (st) M Q = xW xSR 138 9 [.ref a0, .int a1, .int a2, .int a3, .int a4, .int a5, .int a6] (.ref a0 :: st) M Q) ∧
  (∀ (a0 : Nat) (a1 : Int32) (a2 : Int32) (a3 : Int32) (a4 : Int32) (a5 : Int32) (a6 : Int32) (st : List Value) (M : xM) (Q : Option Value → xM → Prop), xW xSR 138 9 [.ref a0, .int a1, .int a2, .int a3, .int a4, .int a5, .int a6] (st) M Q = xW xSR 138 11 [.ref a0, .int a1, .int a2, .int a3, .int a4, .int a5, .int a6] (.int a6 :: st) M Q) ∧
  (∀ (a0 : Nat) (a1 : Int32) (a2 : Int32) (a3 : Int32) (a4 : Int32) (a5 : Int32) (a6 : Int32) (st : List Value) (M : xM) (Q : Option Value → xM → Prop), xW xSR 138 11 [.ref a0, .int a1, .int a2, .int a3, .int a4, .int a5, .int a6] (st) M Q = xW xSR 138 12 [.ref a0, .int a1, .int a2, .int a3, .int a4, .int a5, .int a6] (.int a2 :: st) M Q) ∧
  (∀ (a0 : Nat) (a1 : Int32) (a2 : Int32) (a3 : Int32) (a4 : Int32) (a5 : Int32) (a6 : Int32) (y0 : Int32) (y1 : Nat) (st : List Value) (M : xM) (Q : Option Value → xM → Prop), y1 < 156 → xW xSR 138 12 [.ref a0, .int a1, .int a2, .int a3, .int a4, .int a5, .int a6] (.int y0 :: .int (nI y1) :: .ref 1 :: st) M Q = xW xSR 138 13 [.ref a0, .int a1, .int a2, .int a3, .int a4, .int a5, .int a6] (st) (xup M 1 y1 y0) Q) ∧
  (∀ (a0 : Nat) (a1 : Int32) (a2 : Int32) (a3 : Int32) (a4 : Int32) (a5 : Int32) (a6 : Int32) (st : List Value) (M : xM) (Q : Option Value → xM → Prop), xW xSR 138 13 [.ref a0, .int a1, .int a2, .int a3, .int a4, .int a5, .int a6] (st) M Q = xW xSR 138 14 [.ref a0, .int a1, .int a2, .int a3, .int a4, .int a5, .int a6] (.ref a0 :: st) M Q) ∧
  (∀ (a0 : Nat) (a1 : Int32) (a2 : Int32) (a3 : Int32) (a4 : Int32) (a5 : Int32) (a6 : Int32) (st : List Value) (M : xM) (Q : Option Value → xM → Prop), xW xSR 138 14 [.ref a0, .int a1, .int a2, .int a3, .int a4, .int a5, .int a6] (st) M Q = xW xSR 138 16 [.ref a0, .int a1, .int a2, .int a3, .int a4, .int a5, .int a6] (.int a6 :: st) M Q) ∧
  (∀ (a0 : Nat) (a1 : Int32) (a2 : Int32) (a3 : Int32) (a4 : Int32) (a5 : Int32) (a6 : Int32) (st : List Value) (M : xM) (Q : Option Value → xM → Prop), xW xSR 138 16 [.ref a0, .int a1, .int a2, .int a3, .int a4, .int a5, .int a6] (st) M Q = xW xSR 138 17 [.ref a0, .int a1, .int a2, .int a3, .int a4, .int a5, .int a6] (.int (nI 1) :: st) M Q) ∧
  (∀ (a0 : Nat) (a1 : Int32) (a2 : Int32) (a3 : Int32) (a4 : Int32) (a5 : Int32) (a6 : Int32) (y0 : Int32) (y1 : Int32) (st : List Value) (M : xM) (Q : Option Value → xM → Prop), xW xSR 138 17 [.ref a0, .int a1, .int a2, .int a3, .int a4, .int a5, .int a6] (.int y0 :: .int y1 :: st) M Q = xW xSR 138 18 [.ref a0, .int a1, .int a2, .int a3, .int a4, .int a5, .int a6] (.int (y1 + y0) :: st) M Q) ∧
  (∀ (a0 : Nat) (a1 : Int32) (a2 : Int32) (a3 : Int32) (a4 : Int32) (a5 : Int32) (a6 : Int32) (st : List Value) (M : xM) (Q : Option Value → xM → Prop), xW xSR 138 18 [.ref a0, .int a1, .int a2, .int a3, .int a4, .int a5, .int a6] (st) M Q = xW xSR 138 19 [.ref a0, .int a1, .int a2, .int a3, .int a4, .int a5, .int a6] (.int a3 :: st) M Q) ∧
  (∀ (a0 : Nat) (a1 : Int32) (a2 : Int32) (a3 : Int32) (a4 : Int32) (a5 : Int32) (a6 : Int32) (y0 : Int32) (y1 : Nat) (st : List Value) (M : xM) (Q : Option Value → xM → Prop), y1 < 156 → xW xSR 138 19 [.ref a0, .int a1, .int a2, .int a3, .int a4, .int a5, .int a6] (.int y0 :: .int (nI y1) :: .ref 1 :: st) M Q = xW xSR 138 20 [.ref a0, .int a1, .int a2, .int a3, .int a4, .int a5, .int a6] (st) (xup M 1 y1 y0) Q) ∧
  (∀ (a0 : Nat) (a1 : Int32) (a2 : Int32) (a3 : Int32) (a4 : Int32) (a5 : Int32) (a6 : Int32) (st : List Value) (M : xM) (Q : Option Value → xM → Prop), xW xSR 138 20 [.ref a0, .int a1, .int a2, .int a3, .int a4, .int a5, .int a6] (st) M Q = xW xSR 138 21 [.ref a0, .int a1, .int a2, .int a3, .int a4, .int a5, .int a6] (.ref a0 :: st) M Q) ∧
  (∀ (a0 : Nat) (a1 : Int32) (a2 : Int32) (a3 : Int32) (a4 : Int32) (a5 : Int32) (a6 : Int32) (st : List Value) (M : xM) (Q : Option Value → xM → Prop), xW xSR 138 21 [.ref a0, .int a1, .int a2, .int a3, .int a4, .int a5, .int a6] (st) M Q = xW xSR 138 23 [.ref a0, .int a1, .int a2, .int a3, .int a4, .int a5, .int a6] (.int a6 :: st) M Q) ∧
  (∀ (a0 : Nat) (a1 : Int32) (a2 : Int32) (a3 : Int32) (a4 : Int32) (a5 : Int32) (a6 : Int32) (st : List Value) (M : xM) (Q : Option Value → xM → Prop), xW xSR 138 23 [.ref a0, .int a1, .int a2, .int a3, .int a4, .int a5, .int a6] (st) M Q = xW xSR 138 24 [.ref a0, .int a1, .int a2, .int a3, .int a4, .int a5, .int a6] (.int (nI 2) :: st) M Q) ∧
  (∀ (a0 : Nat) (a1 : Int32) (a2 : Int32) (a3 : Int32) (a4 : Int32) (a5 : Int32) (a6 : Int32) (y0 : Int32) (y1 : Int32) (st : List Value) (M : xM) (Q : Option Value → xM → Prop), xW xSR 138 24 [.ref a0, .int a1, .int a2, .int a3, .int a4, .int a5, .int a6] (.int y0 :: .int y1 :: st) M Q = xW xSR 138 25 [.ref a0, .int a1, .int a2, .int a3, .int a4, .int a5, .int a6] (.int (y1 + y0) :: st) M Q) ∧
  (∀ (a0 : Nat) (a1 : Int32) (a2 : Int32) (a3 : Int32) (a4 : Int32) (a5 : Int32) (a6 : Int32) (st : List Value) (M : xM) (Q : Option Value → xM → Prop), xW xSR 138 25 [.ref a0, .int a1, .int a2, .int a3, .int a4, .int a5, .int a6] (st) M Q = xW xSR 138 27 [.ref a0, .int a1, .int a2, .int a3, .int a4, .int a5, .int a6] (.int a4 :: st) M Q) ∧
  (∀ (a0 : Nat) (a1 : Int32) (a2 : Int32) (a3 : Int32) (a4 : Int32) (a5 : Int32) (a6 : Int32) (y0 : Int32) (y1 : Nat) (st : List Value) (M : xM) (Q : Option Value → xM → Prop), y1 < 156 → xW xSR 138 27 [.ref a0, .int a1, .int a2, .int a3, .int a4, .int a5, .int a6] (.int y0 :: .int (nI y1) :: .ref 1 :: st) M Q = xW xSR 138 28 [.ref a0, .int a1, .int a2, .int a3, .int a4, .int a5, .int a6] (st) (xup M 1 y1 y0) Q) ∧
  (∀ (a0 : Nat) (a1 : Int32) (a2 : Int32) (a3 : Int32) (a4 : Int32) (a5 : Int32) (a6 : Int32) (st : List Value) (M : xM) (Q : Option Value → xM → Prop), xW xSR 138 28 [.ref a0, .int a1, .int a2, .int a3, .int a4, .int a5, .int a6] (st) M Q = xW xSR 138 29 [.ref a0, .int a1, .int a2, .int a3, .int a4, .int a5, .int a6] (.ref a0 :: st) M Q) ∧
  (∀ (a0 : Nat) (a1 : Int32) (a2 : Int32) (a3 : Int32) (a4 : Int32) (a5 : Int32) (a6 : Int32) (st : List Value) (M : xM) (Q : Option Value → xM → Prop), xW xSR 138 29 [.ref a0, .int a1, .int a2, .int a3, .int a4, .int a5, .int a6] (st) M Q = xW xSR 138 31 [.ref a0, .int a1, .int a2, .int a3, .int a4, .int a5, .int a6] (.int a6 :: st) M Q) ∧
  (∀ (a0 : Nat) (a1 : Int32) (a2 : Int32) (a3 : Int32) (a4 : Int32) (a5 : Int32) (a6 : Int32) (st : List Value) (M : xM) (Q : Option Value → xM → Prop), xW xSR 138 31 [.ref a0, .int a1, .int a2, .int a3, .int a4, .int a5, .int a6] (st) M Q = xW xSR 138 32 [.ref a0, .int a1, .int a2, .int a3, .int a4, .int a5, .int a6] (.int (nI 3) :: st) M Q) ∧
  (∀ (a0 : Nat) (a1 : Int32) (a2 : Int32) (a3 : Int32) (a4 : Int32) (a5 : Int32) (a6 : Int32) (y0 : Int32) (y1 : Int32) (st : List Value) (M : xM) (Q : Option Value → xM → Prop), xW xSR 138 32 [.ref a0, .int a1, .int a2, .int a3, .int a4, .int a5, .int a6] (.int y0 :: .int y1 :: st) M Q = xW xSR 138 33 [.ref a0, .int a1, .int a2, .int a3, .int a4, .int a5, .int a6] (.int (y1 + y0) :: st) M Q) ∧
  (∀ (a0 : Nat) (a1 : Int32) (a2 : Int32) (a3 : Int32) (a4 : Int32) (a5 : Int32) (a6 : Int32) (st : List Value) (M : xM) (Q : Option Value → xM → Prop), xW xSR 138 33 [.ref a0, .int a1, .int a2, .int a3, .int a4, .int a5, .int a6] (st) M Q = xW xSR 138 35 [.ref a0, .int a1, .int a2, .int a3, .int a4, .int a5, .int a6] (.int a5 :: st) M Q) ∧
  (∀ (a0 : Nat) (a1 : Int32) (a2 : Int32) (a3 : Int32) (a4 : Int32) (a5 : Int32) (a6 : Int32) (y0 : Int32) (y1 : Nat) (st : List Value) (M : xM) (Q : Option Value → xM → Prop), y1 < 156 → xW xSR 138 35 [.ref a0, .int a1, .int a2, .int a3, .int a4, .int a5, .int a6] (.int y0 :: .int (nI y1) :: .ref 1 :: st) M Q = xW xSR 138 36 [.ref a0, .int a1, .int a2, .int a3, .int a4, .int a5, .int a6] (st) (xup M 1 y1 y0) Q) ∧
  (∀ (a0 : Nat) (a1 : Int32) (a2 : Int32) (a3 : Int32) (a4 : Int32) (a5 : Int32) (a6 : Int32) (st : List Value) (M : xM) (Q : Option Value → xM → Prop), xW xSR 138 36 [.ref a0, .int a1, .int a2, .int a3, .int a4, .int a5, .int a6] (st) M Q = xW xSR 138 37 [.ref a0, .int a1, .int a2, .int a3, .int a4, .int a5, .int a6] (.ref a0 :: st) M Q) ∧
  (∀ (a0 : Nat) (a1 : Int32) (a2 : Int32) (a3 : Int32) (a4 : Int32) (a5 : Int32) (a6 : Int32) (st : List Value) (M : xM) (Q : Option Value → xM → Prop), xW xSR 138 37 [.ref a0, .int a1, .int a2, .int a3, .int a4, .int a5, .int a6] (st) M Q = xW xSR 138 39 [.ref a0, .int a1, .int a2, .int a3, .int a4, .int a5, .int a6] (.int a6 :: st) M Q) ∧
  (∀ (a0 : Nat) (a1 : Int32) (a2 : Int32) (a3 : Int32) (a4 : Int32) (a5 : Int32) (a6 : Int32) (st : List Value) (M : xM) (Q : Option Value → xM → Prop), xW xSR 138 39 [.ref a0, .int a1, .int a2, .int a3, .int a4, .int a5, .int a6] (st) M Q = xW xSR 138 40 [.ref a0, .int a1, .int a2, .int a3, .int a4, .int a5, .int a6] (.int (nI 4) :: st) M Q) ∧
  (∀ (a0 : Nat) (a1 : Int32) (a2 : Int32) (a3 : Int32) (a4 : Int32) (a5 : Int32) (a6 : Int32) (y0 : Int32) (y1 : Int32) (st : List Value) (M : xM) (Q : Option Value → xM → Prop), xW xSR 138 40 [.ref a0, .int a1, .int a2, .int a3, .int a4, .int a5, .int a6] (.int y0 :: .int y1 :: st) M Q = xW xSR 138 41 [.ref a0, .int a1, .int a2, .int a3, .int a4, .int a5, .int a6] (.int (y1 + y0) :: st) M Q) ∧
  (∀ (a0 : Nat) (a1 : Int32) (a2 : Int32) (a3 : Int32) (a4 : Int32) (a5 : Int32) (a6 : Int32) (st : List Value) (M : xM) (Q : Option Value → xM → Prop), xW xSR 138 41 [.ref a0, .int a1, .int a2, .int a3, .int a4, .int a5, .int a6] (st) M Q = xW xSR 138 42 [.ref a0, .int a1, .int a2, .int a3, .int a4, .int a5, .int a6] (.int (nI 0) :: st) M Q) ∧
  (∀ (a0 : Nat) (a1 : Int32) (a2 : Int32) (a3 : Int32) (a4 : Int32) (a5 : Int32) (a6 : Int32) (y0 : Int32) (y1 : Nat) (st : List Value) (M : xM) (Q : Option Value → xM → Prop), y1 < 156 → xW xSR 138 42 [.ref a0, .int a1, .int a2, .int a3, .int a4, .int a5, .int a6] (.int y0 :: .int (nI y1) :: .ref 1 :: st) M Q = xW xSR 138 43 [.ref a0, .int a1, .int a2, .int a3, .int a4, .int a5, .int a6] (st) (xup M 1 y1 y0) Q) ∧
  (∀ (a0 : Nat) (a1 : Int32) (a2 : Int32) (a3 : Int32) (a4 : Int32) (a5 : Int32) (a6 : Int32) (st : List Value) (M : xM) (Q : Option Value → xM → Prop), xW xSR 138 43 [.ref a0, .int a1, .int a2, .int a3, .int a4, .int a5, .int a6] (st) M Q = xW xSR 138 44 [.ref a0, .int a1, .int a2, .int a3, .int a4, .int a5, .int a6] (.ref a0 :: st) M Q) ∧
  (∀ (a0 : Nat) (a1 : Int32) (a2 : Int32) (a3 : Int32) (a4 : Int32) (a5 : Int32) (a6 : Int32) (st : List Value) (M : xM) (Q : Option Value → xM → Prop), xW xSR 138 44 [.ref a0, .int a1, .int a2, .int a3, .int a4, .int a5, .int a6] (st) M Q = xW xSR 138 46 [.ref a0, .int a1, .int a2, .int a3, .int a4, .int a5, .int a6] (.int a6 :: st) M Q) ∧
  (∀ (a0 : Nat) (a1 : Int32) (a2 : Int32) (a3 : Int32) (a4 : Int32) (a5 : Int32) (a6 : Int32) (st : List Value) (M : xM) (Q : Option Value → xM → Prop), xW xSR 138 46 [.ref a0, .int a1, .int a2, .int a3, .int a4, .int a5, .int a6] (st) M Q = xW xSR 138 47 [.ref a0, .int a1, .int a2, .int a3, .int a4, .int a5, .int a6] (.int (nI 5) :: st) M Q) ∧
  (∀ (a0 : Nat) (a1 : Int32) (a2 : Int32) (a3 : Int32) (a4 : Int32) (a5 : Int32) (a6 : Int32) (y0 : Int32) (y1 : Int32) (st : List Value) (M : xM) (Q : Option Value → xM → Prop), xW xSR 138 47 [.ref a0, .int a1, .int a2, .int a3, .int a4, .int a5, .int a6] (.int y0 :: .int y1 :: st) M Q = xW xSR 138 48 [.ref a0, .int a1, .int a2, .int a3, .int a4, .int a5, .int a6] (.int (y1 + y0) :: st) M Q) ∧
  (∀ (a0 : Nat) (a1 : Int32) (a2 : Int32) (a3 : Int32) (a4 : Int32) (a5 : Int32) (a6 : Int32) (st : List Value) (M : xM) (Q : Option Value → xM → Prop), xW xSR 138 48 [.ref a0, .int a1, .int a2, .int a3, .int a4, .int a5, .int a6] (st) M Q = xW xSR 138 49 [.ref a0, .int a1, .int a2, .int a3, .int a4, .int a5, .int a6] (.int (nI 0) :: st) M Q) ∧
  (∀ (a0 : Nat) (a1 : Int32) (a2 : Int32) (a3 : Int32) (a4 : Int32) (a5 : Int32) (a6 : Int32) (y0 : Int32) (y1 : Nat) (st : List Value) (M : xM) (Q : Option Value → xM → Prop), y1 < 156 → xW xSR 138 49 [.ref a0, .int a1, .int a2, .int a3, .int a4, .int a5, .int a6] (.int y0 :: .int (nI y1) :: .ref 1 :: st) M Q = xW xSR 138 50 [.ref a0, .int a1, .int a2, .int a3, .int a4, .int a5, .int a6] (st) (xup M 1 y1 y0) Q) ∧
  (∀ (a0 : Nat) (a1 : Int32) (a2 : Int32) (a3 : Int32) (a4 : Int32) (a5 : Int32) (a6 : Int32) (M : xM) (Q : Option Value → xM → Prop), xW xSR 138 50 [.ref a0, .int a1, .int a2, .int a3, .int a4, .int a5, .int a6] ([]) M Q = Q none M) ∧
  (∀ (a0 : Nat) (a1 : Int32) (a2 : Int32) (a3 : Int32) (a4 : Int32) (a5 : Int32) (a6 : Int32) (y0 : Int32) (y1 : Nat) (st : List Value) (M : xM) (Q : Option Value → xM → Prop), y1 < 156 → xW xSR 138 12 [.ref a0, .int a1, .int a2, .int a3, .int a4, .int a5, .int a6] (.int y0 :: .int (nI y1) :: .ref 3 :: st) M Q = xW xSR 138 13 [.ref a0, .int a1, .int a2, .int a3, .int a4, .int a5, .int a6] (st) (xup M 3 y1 y0) Q) ∧
  (∀ (a0 : Nat) (a1 : Int32) (a2 : Int32) (a3 : Int32) (a4 : Int32) (a5 : Int32) (a6 : Int32) (y0 : Int32) (y1 : Nat) (st : List Value) (M : xM) (Q : Option Value → xM → Prop), y1 < 156 → xW xSR 138 19 [.ref a0, .int a1, .int a2, .int a3, .int a4, .int a5, .int a6] (.int y0 :: .int (nI y1) :: .ref 3 :: st) M Q = xW xSR 138 20 [.ref a0, .int a1, .int a2, .int a3, .int a4, .int a5, .int a6] (st) (xup M 3 y1 y0) Q) ∧
  (∀ (a0 : Nat) (a1 : Int32) (a2 : Int32) (a3 : Int32) (a4 : Int32) (a5 : Int32) (a6 : Int32) (y0 : Int32) (y1 : Nat) (st : List Value) (M : xM) (Q : Option Value → xM → Prop), y1 < 156 → xW xSR 138 27 [.ref a0, .int a1, .int a2, .int a3, .int a4, .int a5, .int a6] (.int y0 :: .int (nI y1) :: .ref 3 :: st) M Q = xW xSR 138 28 [.ref a0, .int a1, .int a2, .int a3, .int a4, .int a5, .int a6] (st) (xup M 3 y1 y0) Q) ∧
  (∀ (a0 : Nat) (a1 : Int32) (a2 : Int32) (a3 : Int32) (a4 : Int32) (a5 : Int32) (a6 : Int32) (y0 : Int32) (y1 : Nat) (st : List Value) (M : xM) (Q : Option Value → xM → Prop), y1 < 156 → xW xSR 138 35 [.ref a0, .int a1, .int a2, .int a3, .int a4, .int a5, .int a6] (.int y0 :: .int (nI y1) :: .ref 3 :: st) M Q = xW xSR 138 36 [.ref a0, .int a1, .int a2, .int a3, .int a4, .int a5, .int a6] (st) (xup M 3 y1 y0) Q) ∧
  (∀ (a0 : Nat) (a1 : Int32) (a2 : Int32) (a3 : Int32) (a4 : Int32) (a5 : Int32) (a6 : Int32) (y0 : Int32) (y1 : Nat) (st : List Value) (M : xM) (Q : Option Value → xM → Prop), y1 < 156 → xW xSR 138 42 [.ref a0, .int a1, .int a2, .int a3, .int a4, .int a5, .int a6] (.int y0 :: .int (nI y1) :: .ref 3 :: st) M Q = xW xSR 138 43 [.ref a0, .int a1, .int a2, .int a3, .int a4, .int a5, .int a6] (st) (xup M 3 y1 y0) Q) ∧
  (∀ (a0 : Nat) (a1 : Int32) (a2 : Int32) (a3 : Int32) (a4 : Int32) (a5 : Int32) (a6 : Int32) (y0 : Int32) (y1 : Nat) (st : List Value) (M : xM) (Q : Option Value → xM → Prop), y1 < 156 → xW xSR 138 49 [.ref a0, .int a1, .int a2, .int a3, .int a4, .int a5, .int a6] (.int y0 :: .int (nI y1) :: .ref 3 :: st) M Q = xW xSR 138 50 [.ref a0, .int a1, .int a2, .int a3, .int a4, .int a5, .int a6] (st) (xup M 3 y1 y0) Q) :=
  ⟨fun a0 a1 a2 a3 a4 a5 a6 st M Q => xw_s rfl rfl,
  fun a0 a1 a2 a3 a4 a5 a6 st M Q => xw_s rfl rfl,
  fun a0 a1 a2 a3 a4 a5 a6 st M Q => xw_s rfl rfl,
  fun a0 a1 a2 a3 a4 a5 a6 y0 y1 st M Q => xw_s rfl rfl,
  fun a0 a1 a2 a3 a4 a5 a6 y0 y1 st M Q => xw_s rfl rfl,
  fun a0 a1 a2 a3 a4 a5 a6 y0 st M Q => xw_s rfl rfl,
  fun a0 a1 a2 a3 a4 a5 a6 st M Q => xw_s rfl rfl,
  fun a0 a1 a2 a3 a4 a5 a6 st M Q => xw_s rfl rfl,
  fun a0 a1 a2 a3 a4 a5 a6 st M Q => xw_s rfl rfl,
  fun a0 a1 a2 a3 a4 a5 a6 y0 y1 st M Q h0 => xw_ast (f := fun x => x) rfl rfl rfl (by decide) h0,
  fun a0 a1 a2 a3 a4 a5 a6 st M Q => xw_s rfl rfl,
  fun a0 a1 a2 a3 a4 a5 a6 st M Q => xw_s rfl rfl,
  fun a0 a1 a2 a3 a4 a5 a6 st M Q => xw_s rfl rfl,
  fun a0 a1 a2 a3 a4 a5 a6 y0 y1 st M Q => xw_s rfl rfl,
  fun a0 a1 a2 a3 a4 a5 a6 st M Q => xw_s rfl rfl,
  fun a0 a1 a2 a3 a4 a5 a6 y0 y1 st M Q h0 => xw_ast (f := fun x => x) rfl rfl rfl (by decide) h0,
  fun a0 a1 a2 a3 a4 a5 a6 st M Q => xw_s rfl rfl,
  fun a0 a1 a2 a3 a4 a5 a6 st M Q => xw_s rfl rfl,
  fun a0 a1 a2 a3 a4 a5 a6 st M Q => xw_s rfl rfl,
  fun a0 a1 a2 a3 a4 a5 a6 y0 y1 st M Q => xw_s rfl rfl,
  fun a0 a1 a2 a3 a4 a5 a6 st M Q => xw_s rfl rfl,
  fun a0 a1 a2 a3 a4 a5 a6 y0 y1 st M Q h0 => xw_ast (f := fun x => x) rfl rfl rfl (by decide) h0,
  fun a0 a1 a2 a3 a4 a5 a6 st M Q => xw_s rfl rfl,
  fun a0 a1 a2 a3 a4 a5 a6 st M Q => xw_s rfl rfl,
  fun a0 a1 a2 a3 a4 a5 a6 st M Q => xw_s rfl rfl,
  fun a0 a1 a2 a3 a4 a5 a6 y0 y1 st M Q => xw_s rfl rfl,
  fun a0 a1 a2 a3 a4 a5 a6 st M Q => xw_s rfl rfl,
  fun a0 a1 a2 a3 a4 a5 a6 y0 y1 st M Q h0 => xw_ast (f := fun x => x) rfl rfl rfl (by decide) h0,
  fun a0 a1 a2 a3 a4 a5 a6 st M Q => xw_s rfl rfl,
  fun a0 a1 a2 a3 a4 a5 a6 st M Q => xw_s rfl rfl,
  fun a0 a1 a2 a3 a4 a5 a6 st M Q => xw_s rfl rfl,
  fun a0 a1 a2 a3 a4 a5 a6 y0 y1 st M Q => xw_s rfl rfl,
  fun a0 a1 a2 a3 a4 a5 a6 st M Q => xw_s rfl rfl,
  fun a0 a1 a2 a3 a4 a5 a6 y0 y1 st M Q h0 => xw_ast (f := fun x => x) rfl rfl rfl (by decide) h0,
  fun a0 a1 a2 a3 a4 a5 a6 st M Q => xw_s rfl rfl,
  fun a0 a1 a2 a3 a4 a5 a6 st M Q => xw_s rfl rfl,
  fun a0 a1 a2 a3 a4 a5 a6 st M Q => xw_s rfl rfl,
  fun a0 a1 a2 a3 a4 a5 a6 y0 y1 st M Q => xw_s rfl rfl,
  fun a0 a1 a2 a3 a4 a5 a6 st M Q => xw_s rfl rfl,
  fun a0 a1 a2 a3 a4 a5 a6 y0 y1 st M Q h0 => xw_ast (f := fun x => x) rfl rfl rfl (by decide) h0,
  fun a0 a1 a2 a3 a4 a5 a6 M Q => xw_retv rfl rfl,
  fun a0 a1 a2 a3 a4 a5 a6 y0 y1 st M Q h0 => xw_ast (f := fun x => x) rfl rfl rfl (by decide) h0,
  fun a0 a1 a2 a3 a4 a5 a6 y0 y1 st M Q h0 => xw_ast (f := fun x => x) rfl rfl rfl (by decide) h0,
  fun a0 a1 a2 a3 a4 a5 a6 y0 y1 st M Q h0 => xw_ast (f := fun x => x) rfl rfl rfl (by decide) h0,
  fun a0 a1 a2 a3 a4 a5 a6 y0 y1 st M Q h0 => xw_ast (f := fun x => x) rfl rfl rfl (by decide) h0,
  fun a0 a1 a2 a3 a4 a5 a6 y0 y1 st M Q h0 => xw_ast (f := fun x => x) rfl rfl rfl (by decide) h0,
  fun a0 a1 a2 a3 a4 a5 a6 y0 y1 st M Q h0 => xw_ast (f := fun x => x) rfl rfl rfl (by decide) h0⟩
theorem j138 : True := trivial

set_option maxRecDepth 20000 in
theorem s139 :
  (∀ (a0 : Nat) (a1 : Int32) (st : List Value) (M : xM) (Q : Option Value → xM → Prop), xW xSR 139 0 [.ref a0, .int a1] (st) M Q = xW xSR 139 1 [.ref a0, .int a1] (.int a1 :: st) M Q) ∧
  (∀ (a0 : Nat) (a1 : Int32) (y0 : Int32) (st : List Value) (M : xM) (Q : Option Value → xM → Prop), xW xSR 139 1 [.ref a0, .int a1] (.int y0 :: st) M Q = xW xSR 139 2 [.ref a0, .int a1] (.long y0.toInt64 :: st) M Q) ∧
  (∀ (a0 : Nat) (a1 : Int32) (st : List Value) (M : xM) (Q : Option Value → xM → Prop), xW xSR 139 2 [.ref a0, .int a1] (st) M Q = xW xSR 139 3 [.ref a0, .int a1] (.long (lN 0) :: st) M Q) ∧
  (∀ (a0 : Nat) (a1 : Int32) (st : List Value) (M : xM) (Q : Option Value → xM → Prop), xW xSR 139 3 [.ref a0, .int a1] (st) M Q = xW xSR 139 4 [.ref a0, .int a1] (.ref a0 :: st) M Q) ∧
  (∀ (a0 : Nat) (a1 : Int32) (st : List Value) (M : xM) (Q : Option Value → xM → Prop), xW xSR 139 4 [.ref a0, .int a1] (.ref 0 :: st) M Q = xW xSR 139 7 [.ref a0, .int a1] (.ref 1 :: st) M Q) ∧
  (∀ (a0 : Nat) (a1 : Int32) (st : List Value) (M : xM) (Q : Option Value → xM → Prop), xW xSR 139 7 [.ref a0, .int a1] (st) M Q = xW xSR 139 8 [.ref a0, .int a1] (.int (nI 0) :: st) M Q) ∧
  (∀ (a0 : Nat) (a1 : Int32) (y0 : Nat) (st : List Value) (M : xM) (Q : Option Value → xM → Prop), y0 < 156 → xW xSR 139 8 [.ref a0, .int a1] (.int (nI y0) :: .ref 1 :: st) M Q = xW xSR 139 9 [.ref a0, .int a1] (.int (M 1 y0) :: st) M Q) ∧
  (∀ (a0 : Nat) (a1 : Int32) (st : List Value) (M : xM) (Q : Option Value → xM → Prop), xW xSR 139 9 [.ref a0, .int a1] (st) M Q = xW xSR 139 10 [.ref a0, .int a1] (.int (nI 1) :: st) M Q) ∧
  (∀ (a0 : Nat) (a1 : Int32) (y0 : Int32) (y1 : Int32) (st : List Value) (M : xM) (Q : Option Value → xM → Prop), xW xSR 139 10 [.ref a0, .int a1] (.int y0 :: .int y1 :: st) M Q = xW xSR 139 11 [.ref a0, .int a1] (.int (y1 - y0) :: st) M Q) ∧
  (∀ (a0 : Nat) (a1 : Int32) (y0 : Int32) (st : List Value) (M : xM) (Q : Option Value → xM → Prop), xW xSR 139 11 [.ref a0, .int a1] (.int y0 :: st) M Q = xW xSR 139 12 [.ref a0, .int a1] (.long y0.toInt64 :: st) M Q) ∧
  (∀ (a0 : Nat) (a1 : Int32) (y0 : Int64) (y1 : Int64) (y2 : Int64) (M : xM) (Q : Option Value → xM → Prop), xW xSR 139 12 [.ref a0, .int a1] (.long y0 :: .long y1 :: .long y2 :: []) M Q = xW xSR 135 0 [.long y2, .null, .long y1, .null, .long y0, .null] [] M (fun v M' => xW xSR 139 15 [.ref a0, .int a1] (xpush v []) M' Q)) ∧
  (∀ (a0 : Nat) (a1 : Int32) (y0 : Int32) (M : xM) (Q : Option Value → xM → Prop), y0 = 0 ∨ y0 = 1 → xW xSR 139 15 [.ref a0, .int a1] ([.int y0]) M Q = Q (some (.int y0)) M) :=
  ⟨fun a0 a1 st M Q => xw_s rfl rfl,
  fun a0 a1 y0 st M Q => xw_s rfl rfl,
  fun a0 a1 st M Q => xw_s rfl rfl,
  fun a0 a1 st M Q => xw_s rfl rfl,
  fun a0 a1 st M Q => xw_s rfl rfl,
  fun a0 a1 st M Q => xw_s rfl rfl,
  fun a0 a1 y0 st M Q h0 => xw_ald rfl rfl rfl (by decide) h0,
  fun a0 a1 st M Q => xw_s rfl rfl,
  fun a0 a1 y0 y1 st M Q => xw_s rfl rfl,
  fun a0 a1 y0 st M Q => xw_s rfl rfl,
  fun a0 a1 y0 y1 y2 M Q => xw_call rfl rfl rfl,
  fun a0 a1 y0 M Q h0 => xw_retz rfl rfl h0⟩
theorem j139 : True := trivial

set_option maxRecDepth 20000 in
theorem s140 :
  (∀ (a0 : Nat) (a1 : Int32) (st : List Value) (M : xM) (Q : Option Value → xM → Prop), xW xSR 140 0 [.ref a0, .int a1] (st) M Q = xW xSR 140 1 [.ref a0, .int a1] (.int a1 :: st) M Q) ∧
  (∀ (a0 : Nat) (a1 : Int32) (y0 : Int32) (st : List Value) (M : xM) (Q : Option Value → xM → Prop), xW xSR 140 1 [.ref a0, .int a1] (.int y0 :: st) M Q = xW xSR 140 2 [.ref a0, .int a1] (.long y0.toInt64 :: st) M Q) ∧
  (∀ (a0 : Nat) (a1 : Int32) (st : List Value) (M : xM) (Q : Option Value → xM → Prop), xW xSR 140 2 [.ref a0, .int a1] (st) M Q = xW xSR 140 3 [.ref a0, .int a1] (.long (lN 0) :: st) M Q) ∧
  (∀ (a0 : Nat) (a1 : Int32) (st : List Value) (M : xM) (Q : Option Value → xM → Prop), xW xSR 140 3 [.ref a0, .int a1] (st) M Q = xW xSR 140 4 [.ref a0, .int a1] (.ref a0 :: st) M Q) ∧
  (∀ (a0 : Nat) (a1 : Int32) (st : List Value) (M : xM) (Q : Option Value → xM → Prop), xW xSR 140 4 [.ref a0, .int a1] (.ref 0 :: st) M Q = xW xSR 140 7 [.ref a0, .int a1] (.ref 1 :: st) M Q) ∧
  (∀ (a0 : Nat) (a1 : Int32) (st : List Value) (M : xM) (Q : Option Value → xM → Prop), xW xSR 140 7 [.ref a0, .int a1] (st) M Q = xW xSR 140 8 [.ref a0, .int a1] (.int (nI 1) :: st) M Q) ∧
  (∀ (a0 : Nat) (a1 : Int32) (y0 : Nat) (st : List Value) (M : xM) (Q : Option Value → xM → Prop), y0 < 156 → xW xSR 140 8 [.ref a0, .int a1] (.int (nI y0) :: .ref 1 :: st) M Q = xW xSR 140 9 [.ref a0, .int a1] (.int (M 1 y0) :: st) M Q) ∧
  (∀ (a0 : Nat) (a1 : Int32) (st : List Value) (M : xM) (Q : Option Value → xM → Prop), xW xSR 140 9 [.ref a0, .int a1] (st) M Q = xW xSR 140 10 [.ref a0, .int a1] (.int (nI 1) :: st) M Q) ∧
  (∀ (a0 : Nat) (a1 : Int32) (y0 : Int32) (y1 : Int32) (st : List Value) (M : xM) (Q : Option Value → xM → Prop), xW xSR 140 10 [.ref a0, .int a1] (.int y0 :: .int y1 :: st) M Q = xW xSR 140 11 [.ref a0, .int a1] (.int (y1 - y0) :: st) M Q) ∧
  (∀ (a0 : Nat) (a1 : Int32) (y0 : Int32) (st : List Value) (M : xM) (Q : Option Value → xM → Prop), xW xSR 140 11 [.ref a0, .int a1] (.int y0 :: st) M Q = xW xSR 140 12 [.ref a0, .int a1] (.long y0.toInt64 :: st) M Q) ∧
  (∀ (a0 : Nat) (a1 : Int32) (y0 : Int64) (y1 : Int64) (y2 : Int64) (M : xM) (Q : Option Value → xM → Prop), xW xSR 140 12 [.ref a0, .int a1] (.long y0 :: .long y1 :: .long y2 :: []) M Q = xW xSR 135 0 [.long y2, .null, .long y1, .null, .long y0, .null] [] M (fun v M' => xW xSR 140 15 [.ref a0, .int a1] (xpush v []) M' Q)) ∧
  (∀ (a0 : Nat) (a1 : Int32) (y0 : Int32) (M : xM) (Q : Option Value → xM → Prop), y0 = 0 ∨ y0 = 1 → xW xSR 140 15 [.ref a0, .int a1] ([.int y0]) M Q = Q (some (.int y0)) M) :=
  ⟨fun a0 a1 st M Q => xw_s rfl rfl,
  fun a0 a1 y0 st M Q => xw_s rfl rfl,
  fun a0 a1 st M Q => xw_s rfl rfl,
  fun a0 a1 st M Q => xw_s rfl rfl,
  fun a0 a1 st M Q => xw_s rfl rfl,
  fun a0 a1 st M Q => xw_s rfl rfl,
  fun a0 a1 y0 st M Q h0 => xw_ald rfl rfl rfl (by decide) h0,
  fun a0 a1 st M Q => xw_s rfl rfl,
  fun a0 a1 y0 y1 st M Q => xw_s rfl rfl,
  fun a0 a1 y0 st M Q => xw_s rfl rfl,
  fun a0 a1 y0 y1 y2 M Q => xw_call rfl rfl rfl,
  fun a0 a1 y0 M Q h0 => xw_retz rfl rfl h0⟩
theorem j140 : True := trivial

set_option maxRecDepth 20000 in
theorem s141 :
  (∀ (a0 : Nat) (a1 : Int32) (st : List Value) (M : xM) (Q : Option Value → xM → Prop), xW xSR 141 0 [.ref a0, .int a1] (st) M Q = xW xSR 141 1 [.ref a0, .int a1] (.int a1 :: st) M Q) ∧
  (∀ (a0 : Nat) (a1 : Int32) (y0 : Int32) (st : List Value) (M : xM) (Q : Option Value → xM → Prop), xW xSR 141 1 [.ref a0, .int a1] (.int y0 :: st) M Q = xW xSR 141 2 [.ref a0, .int a1] (.long y0.toInt64 :: st) M Q) ∧
  (∀ (a0 : Nat) (a1 : Int32) (st : List Value) (M : xM) (Q : Option Value → xM → Prop), xW xSR 141 2 [.ref a0, .int a1] (st) M Q = xW xSR 141 3 [.ref a0, .int a1] (.long (lN 0) :: st) M Q) ∧
  (∀ (a0 : Nat) (a1 : Int32) (st : List Value) (M : xM) (Q : Option Value → xM → Prop), xW xSR 141 3 [.ref a0, .int a1] (st) M Q = xW xSR 141 4 [.ref a0, .int a1] (.ref a0 :: st) M Q) ∧
  (∀ (a0 : Nat) (a1 : Int32) (st : List Value) (M : xM) (Q : Option Value → xM → Prop), xW xSR 141 4 [.ref a0, .int a1] (.ref 0 :: st) M Q = xW xSR 141 7 [.ref a0, .int a1] (.ref 1 :: st) M Q) ∧
  (∀ (a0 : Nat) (a1 : Int32) (st : List Value) (M : xM) (Q : Option Value → xM → Prop), xW xSR 141 7 [.ref a0, .int a1] (st) M Q = xW xSR 141 8 [.ref a0, .int a1] (.int (nI 2) :: st) M Q) ∧
  (∀ (a0 : Nat) (a1 : Int32) (y0 : Nat) (st : List Value) (M : xM) (Q : Option Value → xM → Prop), y0 < 156 → xW xSR 141 8 [.ref a0, .int a1] (.int (nI y0) :: .ref 1 :: st) M Q = xW xSR 141 9 [.ref a0, .int a1] (.int (M 1 y0) :: st) M Q) ∧
  (∀ (a0 : Nat) (a1 : Int32) (st : List Value) (M : xM) (Q : Option Value → xM → Prop), xW xSR 141 9 [.ref a0, .int a1] (st) M Q = xW xSR 141 10 [.ref a0, .int a1] (.int (nI 1) :: st) M Q) ∧
  (∀ (a0 : Nat) (a1 : Int32) (y0 : Int32) (y1 : Int32) (st : List Value) (M : xM) (Q : Option Value → xM → Prop), xW xSR 141 10 [.ref a0, .int a1] (.int y0 :: .int y1 :: st) M Q = xW xSR 141 11 [.ref a0, .int a1] (.int (y1 - y0) :: st) M Q) ∧
  (∀ (a0 : Nat) (a1 : Int32) (y0 : Int32) (st : List Value) (M : xM) (Q : Option Value → xM → Prop), xW xSR 141 11 [.ref a0, .int a1] (.int y0 :: st) M Q = xW xSR 141 12 [.ref a0, .int a1] (.long y0.toInt64 :: st) M Q) ∧
  (∀ (a0 : Nat) (a1 : Int32) (y0 : Int64) (y1 : Int64) (y2 : Int64) (M : xM) (Q : Option Value → xM → Prop), xW xSR 141 12 [.ref a0, .int a1] (.long y0 :: .long y1 :: .long y2 :: []) M Q = xW xSR 135 0 [.long y2, .null, .long y1, .null, .long y0, .null] [] M (fun v M' => xW xSR 141 15 [.ref a0, .int a1] (xpush v []) M' Q)) ∧
  (∀ (a0 : Nat) (a1 : Int32) (y0 : Int32) (M : xM) (Q : Option Value → xM → Prop), y0 = 0 ∨ y0 = 1 → xW xSR 141 15 [.ref a0, .int a1] ([.int y0]) M Q = Q (some (.int y0)) M) :=
  ⟨fun a0 a1 st M Q => xw_s rfl rfl,
  fun a0 a1 y0 st M Q => xw_s rfl rfl,
  fun a0 a1 st M Q => xw_s rfl rfl,
  fun a0 a1 st M Q => xw_s rfl rfl,
  fun a0 a1 st M Q => xw_s rfl rfl,
  fun a0 a1 st M Q => xw_s rfl rfl,
  fun a0 a1 y0 st M Q h0 => xw_ald rfl rfl rfl (by decide) h0,
  fun a0 a1 st M Q => xw_s rfl rfl,
  fun a0 a1 y0 y1 st M Q => xw_s rfl rfl,
  fun a0 a1 y0 st M Q => xw_s rfl rfl,
  fun a0 a1 y0 y1 y2 M Q => xw_call rfl rfl rfl,
  fun a0 a1 y0 M Q h0 => xw_retz rfl rfl h0⟩
theorem j141 : True := trivial

set_option maxRecDepth 20000 in
theorem s142 :
  (∀ (a0 : Int32) (st : List Value) (M : xM) (Q : Option Value → xM → Prop), xW xSR 142 0 [.int a0] (st) M Q = xW xSR 142 1 [.int a0] (.int a0 :: st) M Q) ∧
  (∀ (a0 : Int32) (y0 : Int32) (st : List Value) (M : xM) (Q : Option Value → xM → Prop), xW xSR 142 1 [.int a0] (.int y0 :: st) M Q = xW xSR 142 2 [.int a0] (.long y0.toInt64 :: st) M Q) ∧
  (∀ (a0 : Int32) (st : List Value) (M : xM) (Q : Option Value → xM → Prop), xW xSR 142 2 [.int a0] (st) M Q = xW xSR 142 3 [.int a0] (.long (lN 0) :: st) M Q) ∧
  (∀ (a0 : Int32) (st : List Value) (M : xM) (Q : Option Value → xM → Prop), xW xSR 142 3 [.int a0] (st) M Q = xW xSR 142 4 [.int a0] (.long (lN 1) :: st) M Q) ∧
  (∀ (a0 : Int32) (y0 : Int64) (y1 : Int64) (y2 : Int64) (M : xM) (Q : Option Value → xM → Prop), xW xSR 142 4 [.int a0] (.long y0 :: .long y1 :: .long y2 :: []) M Q = xW xSR 135 0 [.long y2, .null, .long y1, .null, .long y0, .null] [] M (fun v M' => xW xSR 142 7 [.int a0] (xpush v []) M' Q)) ∧
  (∀ (a0 : Int32) (y0 : Int32) (M : xM) (Q : Option Value → xM → Prop), y0 = 0 ∨ y0 = 1 → xW xSR 142 7 [.int a0] ([.int y0]) M Q = Q (some (.int y0)) M) :=
  ⟨fun a0 st M Q => xw_s rfl rfl,
  fun a0 y0 st M Q => xw_s rfl rfl,
  fun a0 st M Q => xw_s rfl rfl,
  fun a0 st M Q => xw_s rfl rfl,
  fun a0 y0 y1 y2 M Q => xw_call rfl rfl rfl,
  fun a0 y0 M Q h0 => xw_retz rfl rfl h0⟩
theorem j142 : True := trivial

set_option maxRecDepth 20000 in
theorem s143 :
  (∀ (a0 : Nat) (a1 : Int32) (st : List Value) (M : xM) (Q : Option Value → xM → Prop), xW xSR 143 0 [.ref a0, .int a1] (st) M Q = xW xSR 143 1 [.ref a0, .int a1] (.int a1 :: st) M Q) ∧
  (∀ (a0 : Nat) (a1 : Int32) (y0 : Int32) (st : List Value) (M : xM) (Q : Option Value → xM → Prop), xW xSR 143 1 [.ref a0, .int a1] (.int y0 :: st) M Q = xW xSR 143 2 [.ref a0, .int a1] (.long y0.toInt64 :: st) M Q) ∧
  (∀ (a0 : Nat) (a1 : Int32) (st : List Value) (M : xM) (Q : Option Value → xM → Prop), xW xSR 143 2 [.ref a0, .int a1] (st) M Q = xW xSR 143 5 [.ref a0, .int a1] (.long (lN 32) :: st) M Q) ∧
  (∀ (a0 : Nat) (a1 : Int32) (st : List Value) (M : xM) (Q : Option Value → xM → Prop), xW xSR 143 5 [.ref a0, .int a1] (st) M Q = xW xSR 143 8 [.ref a0, .int a1] (.long (lN 126) :: st) M Q) ∧
  (∀ (a0 : Nat) (a1 : Int32) (y0 : Int64) (y1 : Int64) (y2 : Int64) (M : xM) (Q : Option Value → xM → Prop), xW xSR 143 8 [.ref a0, .int a1] (.long y0 :: .long y1 :: .long y2 :: []) M Q = xW xSR 135 0 [.long y2, .null, .long y1, .null, .long y0, .null] [] M (fun v M' => xW xSR 143 11 [.ref a0, .int a1] (xpush v []) M' Q)) ∧
  (∀ (a0 : Nat) (a1 : Int32) (y0 : Int32) (st : List Value) (M : xM) (Q : Option Value → xM → Prop), xW xSR 143 11 [.ref a0, .int a1] (.int y0 :: st) M Q = if y0 = nI 0 then xW xSR 143 14 [.ref a0, .int a1] (st) M Q else xW xSR 143 16 [.ref a0, .int a1] (st) M Q) ∧
  (∀ (a0 : Nat) (a1 : Int32) (st : List Value) (M : xM) (Q : Option Value → xM → Prop), xW xSR 143 14 [.ref a0, .int a1] (st) M Q = xW xSR 143 15 [.ref a0, .int a1] (.int (-1) :: st) M Q) ∧
  (∀ (a0 : Nat) (a1 : Int32) (y0 : Int32) (M : xM) (Q : Option Value → xM → Prop), xW xSR 143 15 [.ref a0, .int a1] ([.int y0]) M Q = Q (some (.int y0)) M) ∧
  (∀ (a0 : Nat) (a1 : Int32) (st : List Value) (M : xM) (Q : Option Value → xM → Prop), xW xSR 143 16 [.ref a0, .int a1] (st) M Q = xW xSR 143 17 [.ref a0, .int a1] (.ref a0 :: st) M Q) ∧
  (∀ (a0 : Nat) (a1 : Int32) (st : List Value) (M : xM) (Q : Option Value → xM → Prop), xW xSR 143 17 [.ref a0, .int a1] (.ref 0 :: st) M Q = xW xSR 143 20 [.ref a0, .int a1] (.int (M 0 2) :: st) M Q) ∧
  (∀ (a0 : Nat) (a1 : Int32) (st : List Value) (M : xM) (Q : Option Value → xM → Prop), xW xSR 143 20 [.ref a0, .int a1] (st) M Q = xW xSR 143 23 [.ref a0, .int a1] (.int (nI 200) :: st) M Q) ∧
  (∀ (a0 : Nat) (a1 : Int32) (y0 : Int32) (y1 : Int32) (st : List Value) (M : xM) (Q : Option Value → xM → Prop), xW xSR 143 23 [.ref a0, .int a1] (.int y0 :: .int y1 :: st) M Q = if y1 = y0 then xW xSR 143 26 [.ref a0, .int a1] (st) M Q else xW xSR 143 29 [.ref a0, .int a1] (st) M Q) ∧
  (∀ (a0 : Nat) (a1 : Int32) (st : List Value) (M : xM) (Q : Option Value → xM → Prop), xW xSR 143 26 [.ref a0, .int a1] (st) M Q = xW xSR 143 28 [.ref a0, .int a1] (.int (-3) :: st) M Q) ∧
  (∀ (a0 : Nat) (a1 : Int32) (y0 : Int32) (M : xM) (Q : Option Value → xM → Prop), xW xSR 143 28 [.ref a0, .int a1] ([.int y0]) M Q = Q (some (.int y0)) M) ∧
  (∀ (a0 : Nat) (a1 : Int32) (st : List Value) (M : xM) (Q : Option Value → xM → Prop), xW xSR 143 29 [.ref a0, .int a1] (st) M Q = xW xSR 143 30 [.ref a0, .int a1] (.ref a0 :: st) M Q) ∧
  (∀ (a0 : Nat) (a1 : Int32) (st : List Value) (M : xM) (Q : Option Value → xM → Prop), xW xSR 143 30 [.ref a0, .int a1] (.ref 0 :: st) M Q = xW xSR 143 33 [.ref a0, .int a1] (.ref 2 :: st) M Q) ∧
  (∀ (a0 : Nat) (a1 : Int32) (st : List Value) (M : xM) (Q : Option Value → xM → Prop), xW xSR 143 33 [.ref a0, .int a1] (st) M Q = xW xSR 143 34 [.ref a0, .int a1] (.ref a0 :: st) M Q) ∧
  (∀ (a0 : Nat) (a1 : Int32) (st : List Value) (M : xM) (Q : Option Value → xM → Prop), xW xSR 143 34 [.ref a0, .int a1] (.ref 0 :: st) M Q = xW xSR 143 37 [.ref a0, .int a1] (.int (M 0 2) :: st) M Q) ∧
  (∀ (a0 : Nat) (a1 : Int32) (st : List Value) (M : xM) (Q : Option Value → xM → Prop), xW xSR 143 37 [.ref a0, .int a1] (st) M Q = xW xSR 143 38 [.ref a0, .int a1] (.int a1 :: st) M Q) ∧
  (∀ (a0 : Nat) (a1 : Int32) (y0 : Int32) (y1 : Nat) (st : List Value) (M : xM) (Q : Option Value → xM → Prop), y1 < 200 → xW xSR 143 38 [.ref a0, .int a1] (.int y0 :: .int (nI y1) :: .ref 2 :: st) M Q = xW xSR 143 39 [.ref a0, .int a1] (st) (xup M 2 y1 y0) Q) ∧
  (∀ (a0 : Nat) (a1 : Int32) (st : List Value) (M : xM) (Q : Option Value → xM → Prop), xW xSR 143 39 [.ref a0, .int a1] (st) M Q = xW xSR 143 40 [.ref a0, .int a1] (.ref a0 :: st) M Q) ∧
  (∀ (a0 : Nat) (a1 : Int32) (y0 : Nat) (st : List Value) (M : xM) (Q : Option Value → xM → Prop), xW xSR 143 40 [.ref a0, .int a1] (.ref y0 :: st) M Q = xW xSR 143 41 [.ref a0, .int a1] (.ref y0 :: .ref y0 :: st) M Q) ∧
  (∀ (a0 : Nat) (a1 : Int32) (st : List Value) (M : xM) (Q : Option Value → xM → Prop), xW xSR 143 41 [.ref a0, .int a1] (.ref 0 :: st) M Q = xW xSR 143 44 [.ref a0, .int a1] (.int (M 0 2) :: st) M Q) ∧
  (∀ (a0 : Nat) (a1 : Int32) (st : List Value) (M : xM) (Q : Option Value → xM → Prop), xW xSR 143 44 [.ref a0, .int a1] (st) M Q = xW xSR 143 45 [.ref a0, .int a1] (.int (nI 1) :: st) M Q) ∧
  (∀ (a0 : Nat) (a1 : Int32) (y0 : Int32) (y1 : Int32) (st : List Value) (M : xM) (Q : Option Value → xM → Prop), xW xSR 143 45 [.ref a0, .int a1] (.int y0 :: .int y1 :: st) M Q = xW xSR 143 46 [.ref a0, .int a1] (.int (y1 + y0) :: st) M Q) ∧
  (∀ (a0 : Nat) (a1 : Int32) (y0 : Int32) (st : List Value) (M : xM) (Q : Option Value → xM → Prop), xW xSR 143 46 [.ref a0, .int a1] (.int y0 :: .ref 0 :: st) M Q = xW xSR 143 49 [.ref a0, .int a1] (st) (xup M 0 2 y0) Q) ∧
  (∀ (a0 : Nat) (a1 : Int32) (st : List Value) (M : xM) (Q : Option Value → xM → Prop), xW xSR 143 49 [.ref a0, .int a1] (st) M Q = xW xSR 143 50 [.ref a0, .int a1] (.ref a0 :: st) M Q) ∧
  (∀ (a0 : Nat) (a1 : Int32) (st : List Value) (M : xM) (Q : Option Value → xM → Prop), xW xSR 143 50 [.ref a0, .int a1] (.ref 0 :: st) M Q = xW xSR 143 53 [.ref a0, .int a1] (.int (M 0 2) :: st) M Q) ∧
  (∀ (a0 : Nat) (a1 : Int32) (y0 : Int32) (M : xM) (Q : Option Value → xM → Prop), xW xSR 143 53 [.ref a0, .int a1] ([.int y0]) M Q = Q (some (.int y0)) M) :=
  ⟨fun a0 a1 st M Q => xw_s rfl rfl,
  fun a0 a1 y0 st M Q => xw_s rfl rfl,
  fun a0 a1 st M Q => xw_s rfl rfl,
  fun a0 a1 st M Q => xw_s rfl rfl,
  fun a0 a1 y0 y1 y2 M Q => xw_call rfl rfl rfl,
  fun a0 a1 y0 st M Q => xw_brn (c0 := y0 ≠ nI 0) (c1 := y0 = nI 0) rfl rfl (Iff.rfl),
  fun a0 a1 st M Q => xw_s rfl rfl,
  fun a0 a1 y0 M Q => xw_ret rfl rfl,
  fun a0 a1 st M Q => xw_s rfl rfl,
  fun a0 a1 st M Q => xw_s rfl rfl,
  fun a0 a1 st M Q => xw_s rfl rfl,
  fun a0 a1 y0 y1 st M Q => xw_brn (c0 := y1 ≠ y0) (c1 := y1 = y0) rfl rfl (Iff.rfl),
  fun a0 a1 st M Q => xw_s rfl rfl,
  fun a0 a1 y0 M Q => xw_ret rfl rfl,
  fun a0 a1 st M Q => xw_s rfl rfl,
  fun a0 a1 st M Q => xw_s rfl rfl,
  fun a0 a1 st M Q => xw_s rfl rfl,
  fun a0 a1 st M Q => xw_s rfl rfl,
  fun a0 a1 st M Q => xw_s rfl rfl,
  fun a0 a1 y0 y1 st M Q h0 => xw_ast (f := fun x => x) rfl rfl rfl (by decide) h0,
  fun a0 a1 st M Q => xw_s rfl rfl,
  fun a0 a1 y0 st M Q => xw_s rfl rfl,
  fun a0 a1 st M Q => xw_s rfl rfl,
  fun a0 a1 st M Q => xw_s rfl rfl,
  fun a0 a1 y0 y1 st M Q => xw_s rfl rfl,
  fun a0 a1 y0 st M Q => xw_s rfl rfl,
  fun a0 a1 st M Q => xw_s rfl rfl,
  fun a0 a1 st M Q => xw_s rfl rfl,
  fun a0 a1 y0 M Q => xw_ret rfl rfl⟩
theorem j143 : True := trivial

set_option maxRecDepth 20000 in
theorem s144 :
  (∀ (a0 : Nat) (a1 : Value) (st : List Value) (M : xM) (Q : Option Value → xM → Prop), xW xSR 144 0 [.ref a0, a1] (st) M Q = xW xSR 144 1 [.ref a0, a1] (.ref a0 :: st) M Q) ∧
  (∀ (a0 : Nat) (a1 : Value) (st : List Value) (M : xM) (Q : Option Value → xM → Prop), xW xSR 144 1 [.ref a0, a1] (.ref 0 :: st) M Q = xW xSR 144 4 [.ref a0, a1] (.int (M 0 2) :: st) M Q) ∧
  (∀ (a0 : Nat) (a1 : Value) (y0 : Int32) (st : List Value) (M : xM) (Q : Option Value → xM → Prop), xW xSR 144 4 [.ref a0, a1] (.int y0 :: st) M Q = xW xSR 144 5 [.ref a0, .int y0] (st) M Q) ∧
  (∀ (a0 : Nat) (a1 : Int32) (st : List Value) (M : xM) (Q : Option Value → xM → Prop), xW xSR 144 5 [.ref a0, .int a1] (st) M Q = xW xSR 144 6 [.ref a0, .int a1] (.ref a0 :: st) M Q) ∧
  (∀ (a0 : Nat) (a1 : Int32) (st : List Value) (M : xM) (Q : Option Value → xM → Prop), xW xSR 144 6 [.ref a0, .int a1] (st) M Q = xW xSR 144 7 [.ref a0, .int a1] (.int (nI 0) :: st) M Q) ∧
  (∀ (a0 : Nat) (a1 : Int32) (y0 : Int32) (st : List Value) (M : xM) (Q : Option Value → xM → Prop), xW xSR 144 7 [.ref a0, .int a1] (.int y0 :: .ref 0 :: st) M Q = xW xSR 144 10 [.ref a0, .int a1] (st) (xup M 0 2 y0) Q) ∧
  (∀ (a0 : Nat) (a1 : Int32) (st : List Value) (M : xM) (Q : Option Value → xM → Prop), xW xSR 144 10 [.ref a0, .int a1] (st) M Q = xW xSR 144 11 [.ref a0, .int a1] (.int a1 :: st) M Q) ∧
  (∀ (a0 : Nat) (a1 : Int32) (y0 : Int32) (M : xM) (Q : Option Value → xM → Prop), xW xSR 144 11 [.ref a0, .int a1] ([.int y0]) M Q = Q (some (.int y0)) M) :=
  ⟨fun a0 a1 st M Q => xw_s rfl rfl,
  fun a0 a1 st M Q => xw_s rfl rfl,
  fun a0 a1 y0 st M Q => xw_s rfl rfl,
  fun a0 a1 st M Q => xw_s rfl rfl,
  fun a0 a1 st M Q => xw_s rfl rfl,
  fun a0 a1 y0 st M Q => xw_s rfl rfl,
  fun a0 a1 st M Q => xw_s rfl rfl,
  fun a0 a1 y0 M Q => xw_ret rfl rfl⟩
theorem j144 : True := trivial

set_option maxRecDepth 20000 in
theorem s145 :
  (∀ (a0 : Nat) (a1 : Int32) (st : List Value) (M : xM) (Q : Option Value → xM → Prop), xW xSR 145 0 [.ref a0, .int a1] (st) M Q = xW xSR 145 1 [.ref a0, .int a1] (.int a1 :: st) M Q) ∧
  (∀ (a0 : Nat) (a1 : Int32) (st : List Value) (M : xM) (Q : Option Value → xM → Prop), xW xSR 145 1 [.ref a0, .int a1] (st) M Q = xW xSR 145 2 [.ref a0, .int a1] (.ref a0 :: st) M Q) ∧
  (∀ (a0 : Nat) (a1 : Int32) (st : List Value) (M : xM) (Q : Option Value → xM → Prop), xW xSR 145 2 [.ref a0, .int a1] (.ref 0 :: st) M Q = xW xSR 145 5 [.ref a0, .int a1] (.int (M 0 2) :: st) M Q) ∧
  (∀ (a0 : Nat) (a1 : Int32) (y0 : Int32) (y1 : Int32) (st : List Value) (M : xM) (Q : Option Value → xM → Prop), xW xSR 145 5 [.ref a0, .int a1] (.int y0 :: .int y1 :: st) M Q = if y1 < y0 then xW xSR 145 8 [.ref a0, .int a1] (st) M Q else xW xSR 145 31 [.ref a0, .int a1] (st) M Q) ∧
  (∀ (a0 : Nat) (a1 : Int32) (st : List Value) (M : xM) (Q : Option Value → xM → Prop), xW xSR 145 8 [.ref a0, .int a1] (st) M Q = xW xSR 145 9 [.ref a0, .int a1] (.ref a0 :: st) M Q) ∧
  (∀ (a0 : Nat) (a1 : Int32) (st : List Value) (M : xM) (Q : Option Value → xM → Prop), xW xSR 145 9 [.ref a0, .int a1] (.ref 0 :: st) M Q = xW xSR 145 12 [.ref a0, .int a1] (.ref 2 :: st) M Q) ∧
  (∀ (a0 : Nat) (a1 : Int32) (st : List Value) (M : xM) (Q : Option Value → xM → Prop), xW xSR 145 12 [.ref a0, .int a1] (st) M Q = xW xSR 145 13 [.ref a0, .int a1] (.int a1 :: st) M Q) ∧
  (∀ (a0 : Nat) (a1 : Int32) (y0 : Nat) (st : List Value) (M : xM) (Q : Option Value → xM → Prop), y0 < 200 → xW xSR 145 13 [.ref a0, .int a1] (.int (nI y0) :: .ref 2 :: st) M Q = xW xSR 145 14 [.ref a0, .int a1] (.int (M 2 y0) :: st) M Q) ∧
  (∀ (a0 : Nat) (a1 : Int32) (y0 : Int32) (st : List Value) (M : xM) (Q : Option Value → xM → Prop), xW xSR 145 14 [.ref a0, .int a1] (.int y0 :: st) M Q = xW xSR 145 15 [.ref a0, .int a1] (.long y0.toInt64 :: st) M Q) ∧
  (∀ (a0 : Nat) (a1 : Int32) (st : List Value) (M : xM) (Q : Option Value → xM → Prop), xW xSR 145 15 [.ref a0, .int a1] (st) M Q = xW xSR 145 18 [.ref a0, .int a1] (.long (lN 48) :: st) M Q) ∧
  (∀ (a0 : Nat) (a1 : Int32) (st : List Value) (M : xM) (Q : Option Value → xM → Prop), xW xSR 145 18 [.ref a0, .int a1] (st) M Q = xW xSR 145 21 [.ref a0, .int a1] (.long (lN 57) :: st) M Q) ∧
  (∀ (a0 : Nat) (a1 : Int32) (y0 : Int64) (y1 : Int64) (y2 : Int64) (M : xM) (Q : Option Value → xM → Prop), xW xSR 145 21 [.ref a0, .int a1] (.long y0 :: .long y1 :: .long y2 :: []) M Q = xW xSR 135 0 [.long y2, .null, .long y1, .null, .long y0, .null] [] M (fun v M' => xW xSR 145 24 [.ref a0, .int a1] (xpush v []) M' Q)) ∧
  (∀ (a0 : Nat) (a1 : Int32) (y0 : Int32) (st : List Value) (M : xM) (Q : Option Value → xM → Prop), xW xSR 145 24 [.ref a0, .int a1] (.int y0 :: st) M Q = if y0 = nI 0 then xW xSR 145 31 [.ref a0, .int a1] (st) M Q else xW xSR 145 27 [.ref a0, .int a1] (st) M Q) ∧
  (∀ (a0 : Nat) (a1 : Int32) (st : List Value) (M : xM) (Q : Option Value → xM → Prop), xW xSR 145 27 [.ref a0, .int a1] (st) M Q = xW xSR 145 28 [.ref a0, .int a1] (.int (nI 1) :: st) M Q) ∧
  (∀ (a0 : Nat) (a1 : Int32) (st : List Value) (M : xM) (Q : Option Value → xM → Prop), xW xSR 145 28 [.ref a0, .int a1] (st) M Q = xW xSR 145 32 [.ref a0, .int a1] (st) M Q) :=
  ⟨fun a0 a1 st M Q => xw_s rfl rfl,
  fun a0 a1 st M Q => xw_s rfl rfl,
  fun a0 a1 st M Q => xw_s rfl rfl,
  fun a0 a1 y0 y1 st M Q => xw_brn (c0 := y0 ≤ y1) (c1 := y1 < y0) rfl rfl (xge _ _),
  fun a0 a1 st M Q => xw_s rfl rfl,
  fun a0 a1 st M Q => xw_s rfl rfl,
  fun a0 a1 st M Q => xw_s rfl rfl,
  fun a0 a1 y0 st M Q h0 => xw_ald rfl rfl rfl (by decide) h0,
  fun a0 a1 y0 st M Q => xw_s rfl rfl,
  fun a0 a1 st M Q => xw_s rfl rfl,
  fun a0 a1 st M Q => xw_s rfl rfl,
  fun a0 a1 y0 y1 y2 M Q => xw_call rfl rfl rfl,
  fun a0 a1 y0 st M Q => xw_br (c0 := y0 = nI 0) rfl rfl,
  fun a0 a1 st M Q => xw_s rfl rfl,
  fun a0 a1 st M Q => xw_s rfl rfl⟩
set_option maxRecDepth 20000 in
theorem h145_31 :
  (∀ (a0 : Nat) (a1 : Int32) (st : List Value) (M : xM) (Q : Option Value → xM → Prop), xW xSR 145 31 [.ref a0, .int a1] (st) M Q = xW xSR 145 32 [.ref a0, .int a1] (.int (nI 0) :: st) M Q) :=
  fun a0 a1 st M Q => xw_s rfl rfl
set_option maxRecDepth 20000 in
theorem h145_32 :
  (∀ (a0 : Nat) (a1 : Int32) (y0 : Int32) (M : xM) (Q : Option Value → xM → Prop), y0 = 0 ∨ y0 = 1 → xW xSR 145 32 [.ref a0, .int a1] ([.int y0]) M Q = Q (some (.int y0)) M) :=
  fun a0 a1 y0 M Q h0 => xw_retz rfl rfl h0
set_option maxRecDepth 20000 in
theorem j145 :
  (∀ (a0 : Nat) (a1 : Int32) (st : List Value) (M : xM) (Q : Option Value → xM → Prop), xW xSR 145 31 [.ref a0, .int a1] (st) M Q = xW xSR 145 32 [.ref a0, .int a1] (.int (nI 0) :: st) M Q) ∧
  (∀ (a0 : Nat) (a1 : Int32) (y0 : Int32) (M : xM) (Q : Option Value → xM → Prop), y0 = 0 ∨ y0 = 1 → xW xSR 145 32 [.ref a0, .int a1] ([.int y0]) M Q = Q (some (.int y0)) M) :=
  ⟨fun a0 a1 st M Q => xw_s rfl rfl,
  fun a0 a1 y0 M Q h0 => xw_retz rfl rfl h0⟩

set_option maxRecDepth 20000 in
theorem s146 :
  (∀ (a0 : Nat) (a1 : Int32) (a2 : Value) (a3 : Value) (a4 : Value) (a5 : Value) (st : List Value) (M : xM) (Q : Option Value → xM → Prop), xW xSR 146 0 [.ref a0, .int a1, a2, a3, a4, a5] (st) M Q = xW xSR 146 1 [.ref a0, .int a1, a2, a3, a4, a5] (.int (nI 1) :: st) M Q) ∧
  (∀ (a0 : Nat) (a1 : Int32) (a2 : Value) (a3 : Value) (a4 : Value) (a5 : Value) (y0 : Int32) (st : List Value) (M : xM) (Q : Option Value → xM → Prop), xW xSR 146 1 [.ref a0, .int a1, a2, a3, a4, a5] (.int y0 :: st) M Q = xW xSR 146 2 [.ref a0, .int a1, .int y0, a3, a4, a5] (st) M Q) ∧
  (∀ (a0 : Nat) (a1 : Int32) (a2 : Int32) (a3 : Value) (a4 : Value) (a5 : Value) (st : List Value) (M : xM) (Q : Option Value → xM → Prop), xW xSR 146 2 [.ref a0, .int a1, .int a2, a3, a4, a5] (st) M Q = xW xSR 146 3 [.ref a0, .int a1, .int a2, a3, a4, a5] (.int (nI 0) :: st) M Q) ∧
  (∀ (a0 : Nat) (a1 : Int32) (a2 : Int32) (a3 : Value) (a4 : Value) (a5 : Value) (y0 : Int32) (st : List Value) (M : xM) (Q : Option Value → xM → Prop), xW xSR 146 3 [.ref a0, .int a1, .int a2, a3, a4, a5] (.int y0 :: st) M Q = xW xSR 146 4 [.ref a0, .int a1, .int a2, .int y0, a4, a5] (st) M Q) ∧
  (∀ (a0 : Nat) (a1 : Int32) (a2 : Int32) (a3 : Int32) (a4 : Value) (a5 : Value) (st : List Value) (M : xM) (Q : Option Value → xM → Prop), xW xSR 146 5 [.ref a0, .int a1, .int a2, .int a3, a4, a5] (st) M Q = xW xSR 146 6 [.ref a0, .int a1, .int a2, .int a3, a4, a5] (.int a1 :: st) M Q) ∧
  (∀ (a0 : Nat) (a1 : Int32) (a2 : Int32) (a3 : Int32) (a4 : Value) (a5 : Value) (y0 : Int32) (y1 : Int32) (st : List Value) (M : xM) (Q : Option Value → xM → Prop), xW xSR 146 6 [.ref a0, .int a1, .int a2, .int a3, a4, a5] (.int y0 :: .int y1 :: st) M Q = if y1 < y0 then xW xSR 146 9 [.ref a0, .int a1, .int a2, .int a3, a4, a5] (st) M Q else xW xSR 146 162 [.ref a0, .int a1, .int a2, .int a3, a4, a5] (st) M Q) ∧
  (∀ (a0 : Nat) (a1 : Int32) (a2 : Int32) (a3 : Int32) (a4 : Value) (a5 : Value) (st : List Value) (M : xM) (Q : Option Value → xM → Prop), xW xSR 146 9 [.ref a0, .int a1, .int a2, .int a3, a4, a5] (st) M Q = xW xSR 146 10 [.ref a0, .int a1, .int a2, .int a3, a4, a5] (.int a2 :: st) M Q) ∧
  (∀ (a0 : Nat) (a1 : Int32) (a2 : Int32) (a3 : Int32) (a4 : Value) (a5 : Value) (y0 : Int32) (st : List Value) (M : xM) (Q : Option Value → xM → Prop), xW xSR 146 10 [.ref a0, .int a1, .int a2, .int a3, a4, a5] (.int y0 :: st) M Q = if y0 = nI 0 then xW xSR 146 162 [.ref a0, .int a1, .int a2, .int a3, a4, a5] (st) M Q else xW xSR 146 13 [.ref a0, .int a1, .int a2, .int a3, a4, a5] (st) M Q) ∧
  (∀ (a0 : Nat) (a1 : Int32) (a2 : Int32) (a3 : Int32) (a4 : Value) (a5 : Value) (st : List Value) (M : xM) (Q : Option Value → xM → Prop), xW xSR 146 13 [.ref a0, .int a1, .int a2, .int a3, a4, a5] (st) M Q = xW xSR 146 14 [.ref a0, .int a1, .int a2, .int a3, a4, a5] (.ref a0 :: st) M Q) ∧
  (∀ (a0 : Nat) (a1 : Int32) (a2 : Int32) (a3 : Int32) (a4 : Value) (a5 : Value) (st : List Value) (M : xM) (Q : Option Value → xM → Prop), xW xSR 146 14 [.ref a0, .int a1, .int a2, .int a3, a4, a5] (.ref 0 :: st) M Q = xW xSR 146 17 [.ref a0, .int a1, .int a2, .int a3, a4, a5] (.int (M 0 4) :: st) M Q) ∧
  (∀ (a0 : Nat) (a1 : Int32) (a2 : Int32) (a3 : Int32) (a4 : Value) (a5 : Value) (y0 : Int32) (st : List Value) (M : xM) (Q : Option Value → xM → Prop), xW xSR 146 17 [.ref a0, .int a1, .int a2, .int a3, a4, a5] (.int y0 :: st) M Q = xW xSR 146 19 [.ref a0, .int a1, .int a2, .int a3, .int y0, a5] (st) M Q) ∧
  (∀ (a0 : Nat) (a1 : Int32) (a2 : Int32) (a3 : Int32) (a4 : Int32) (a5 : Value) (st : List Value) (M : xM) (Q : Option Value → xM → Prop), xW xSR 146 19 [.ref a0, .int a1, .int a2, .int a3, .int a4, a5] (st) M Q = xW xSR 146 20 [.ref a0, .int a1, .int a2, .int a3, .int a4, a5] (.int (nI 0) :: st) M Q) ∧
  (∀ (a0 : Nat) (a1 : Int32) (a2 : Int32) (a3 : Int32) (a4 : Int32) (a5 : Value) (y0 : Int32) (st : List Value) (M : xM) (Q : Option Value → xM → Prop), xW xSR 146 20 [.ref a0, .int a1, .int a2, .int a3, .int a4, a5] (.int y0 :: st) M Q = xW xSR 146 22 [.ref a0, .int a1, .int a2, .int a3, .int a4, .int y0] (st) M Q) ∧
  (∀ (a0 : Nat) (a1 : Int32) (a2 : Int32) (a3 : Int32) (a4 : Int32) (a5 : Int32) (st : List Value) (M : xM) (Q : Option Value → xM → Prop), xW xSR 146 23 [.ref a0, .int a1, .int a2, .int a3, .int a4, .int a5] (st) M Q = xW xSR 146 24 [.ref a0, .int a1, .int a2, .int a3, .int a4, .int a5] (.ref a0 :: st) M Q) ∧
  (∀ (a0 : Nat) (a1 : Int32) (a2 : Int32) (a3 : Int32) (a4 : Int32) (a5 : Int32) (st : List Value) (M : xM) (Q : Option Value → xM → Prop), xW xSR 146 24 [.ref a0, .int a1, .int a2, .int a3, .int a4, .int a5] (.ref 0 :: st) M Q = xW xSR 146 27 [.ref a0, .int a1, .int a2, .int a3, .int a4, .int a5] (.int (M 0 4) :: st) M Q) ∧
  (∀ (a0 : Nat) (a1 : Int32) (a2 : Int32) (a3 : Int32) (a4 : Int32) (a5 : Int32) (y0 : Int32) (M : xM) (Q : Option Value → xM → Prop), xW xSR 146 27 [.ref a0, .int a1, .int a2, .int a3, .int a4, .int a5] (.int y0 :: .ref 0 :: []) M Q = xW xSR 145 0 [.ref 0, .int y0] [] M (fun v M' => xW xSR 146 30 [.ref a0, .int a1, .int a2, .int a3, .int a4, .int a5] (xpush v []) M' Q)) ∧
  (∀ (a0 : Nat) (a1 : Int32) (a2 : Int32) (a3 : Int32) (a4 : Int32) (a5 : Int32) (y0 : Int32) (st : List Value) (M : xM) (Q : Option Value → xM → Prop), xW xSR 146 30 [.ref a0, .int a1, .int a2, .int a3, .int a4, .int a5] (.int y0 :: st) M Q = if y0 = nI 0 then xW xSR 146 77 [.ref a0, .int a1, .int a2, .int a3, .int a4, .int a5] (st) M Q else xW xSR 146 33 [.ref a0, .int a1, .int a2, .int a3, .int a4, .int a5] (st) M Q) ∧
  (∀ (a0 : Nat) (a1 : Int32) (a2 : Int32) (a3 : Int32) (a4 : Int32) (a5 : Int32) (st : List Value) (M : xM) (Q : Option Value → xM → Prop), xW xSR 146 33 [.ref a0, .int a1, .int a2, .int a3, .int a4, .int a5] (st) M Q = xW xSR 146 34 [.ref a0, .int a1, .int a2, .int a3, .int a4, .int a5] (.ref a0 :: st) M Q) ∧
  (∀ (a0 : Nat) (a1 : Int32) (a2 : Int32) (a3 : Int32) (a4 : Int32) (a5 : Int32) (st : List Value) (M : xM) (Q : Option Value → xM → Prop), xW xSR 146 34 [.ref a0, .int a1, .int a2, .int a3, .int a4, .int a5] (.ref 0 :: st) M Q = xW xSR 146 37 [.ref a0, .int a1, .int a2, .int a3, .int a4, .int a5] (.int (M 0 4) :: st) M Q) ∧
  (∀ (a0 : Nat) (a1 : Int32) (a2 : Int32) (a3 : Int32) (a4 : Int32) (a5 : Int32) (st : List Value) (M : xM) (Q : Option Value → xM → Prop), xW xSR 146 37 [.ref a0, .int a1, .int a2, .int a3, .int a4, .int a5] (st) M Q = xW xSR 146 39 [.ref a0, .int a1, .int a2, .int a3, .int a4, .int a5] (.int a4 :: st) M Q) ∧
  (∀ (a0 : Nat) (a1 : Int32) (a2 : Int32) (a3 : Int32) (a4 : Int32) (a5 : Int32) (y0 : Int32) (y1 : Int32) (st : List Value) (M : xM) (Q : Option Value → xM → Prop), xW xSR 146 39 [.ref a0, .int a1, .int a2, .int a3, .int a4, .int a5] (.int y0 :: .int y1 :: st) M Q = xW xSR 146 40 [.ref a0, .int a1, .int a2, .int a3, .int a4, .int a5] (.int (y1 - y0) :: st) M Q) ∧
  (∀ (a0 : Nat) (a1 : Int32) (a2 : Int32) (a3 : Int32) (a4 : Int32) (a5 : Int32) (st : List Value) (M : xM) (Q : Option Value → xM → Prop), xW xSR 146 40 [.ref a0, .int a1, .int a2, .int a3, .int a4, .int a5] (st) M Q = xW xSR 146 41 [.ref a0, .int a1, .int a2, .int a3, .int a4, .int a5] (.int (nI 3) :: st) M Q) ∧
  (∀ (a0 : Nat) (a1 : Int32) (a2 : Int32) (a3 : Int32) (a4 : Int32) (a5 : Int32) (y0 : Int32) (y1 : Int32) (st : List Value) (M : xM) (Q : Option Value → xM → Prop), xW xSR 146 41 [.ref a0, .int a1, .int a2, .int a3, .int a4, .int a5] (.int y0 :: .int y1 :: st) M Q = if y1 < y0 then xW xSR 146 44 [.ref a0, .int a1, .int a2, .int a3, .int a4, .int a5] (st) M Q else xW xSR 146 77 [.ref a0, .int a1, .int a2, .int a3, .int a4, .int a5] (st) M Q) ∧
  (∀ (a0 : Nat) (a1 : Int32) (a2 : Int32) (a3 : Int32) (a4 : Int32) (a5 : Int32) (st : List Value) (M : xM) (Q : Option Value → xM → Prop), xW xSR 146 44 [.ref a0, .int a1, .int a2, .int a3, .int a4, .int a5] (st) M Q = xW xSR 146 46 [.ref a0, .int a1, .int a2, .int a3, .int a4, .int a5] (.int (nI 10) :: st) M Q) ∧
  (∀ (a0 : Nat) (a1 : Int32) (a2 : Int32) (a3 : Int32) (a4 : Int32) (a5 : Int32) (st : List Value) (M : xM) (Q : Option Value → xM → Prop), xW xSR 146 46 [.ref a0, .int a1, .int a2, .int a3, .int a4, .int a5] (st) M Q = xW xSR 146 48 [.ref a0, .int a1, .int a2, .int a3, .int a4, .int a5] (.int a5 :: st) M Q) ∧
  (∀ (a0 : Nat) (a1 : Int32) (a2 : Int32) (a3 : Int32) (a4 : Int32) (a5 : Int32) (y0 : Int32) (y1 : Int32) (st : List Value) (M : xM) (Q : Option Value → xM → Prop), xW xSR 146 48 [.ref a0, .int a1, .int a2, .int a3, .int a4, .int a5] (.int y0 :: .int y1 :: st) M Q = xW xSR 146 49 [.ref a0, .int a1, .int a2, .int a3, .int a4, .int a5] (.int (y1 * y0) :: st) M Q) ∧
  (∀ (a0 : Nat) (a1 : Int32) (a2 : Int32) (a3 : Int32) (a4 : Int32) (a5 : Int32) (st : List Value) (M : xM) (Q : Option Value → xM → Prop), xW xSR 146 49 [.ref a0, .int a1, .int a2, .int a3, .int a4, .int a5] (st) M Q = xW xSR 146 50 [.ref a0, .int a1, .int a2, .int a3, .int a4, .int a5] (.ref a0 :: st) M Q) ∧
  (∀ (a0 : Nat) (a1 : Int32) (a2 : Int32) (a3 : Int32) (a4 : Int32) (a5 : Int32) (st : List Value) (M : xM) (Q : Option Value → xM → Prop), xW xSR 146 50 [.ref a0, .int a1, .int a2, .int a3, .int a4, .int a5] (.ref 0 :: st) M Q = xW xSR 146 53 [.ref a0, .int a1, .int a2, .int a3, .int a4, .int a5] (.ref 2 :: st) M Q) ∧
  (∀ (a0 : Nat) (a1 : Int32) (a2 : Int32) (a3 : Int32) (a4 : Int32) (a5 : Int32) (st : List Value) (M : xM) (Q : Option Value → xM → Prop), xW xSR 146 53 [.ref a0, .int a1, .int a2, .int a3, .int a4, .int a5] (st) M Q = xW xSR 146 54 [.ref a0, .int a1, .int a2, .int a3, .int a4, .int a5] (.ref a0 :: st) M Q) ∧
  (∀ (a0 : Nat) (a1 : Int32) (a2 : Int32) (a3 : Int32) (a4 : Int32) (a5 : Int32) (st : List Value) (M : xM) (Q : Option Value → xM → Prop), xW xSR 146 54 [.ref a0, .int a1, .int a2, .int a3, .int a4, .int a5] (.ref 0 :: st) M Q = xW xSR 146 57 [.ref a0, .int a1, .int a2, .int a3, .int a4, .int a5] (.int (M 0 4) :: st) M Q) ∧
  (∀ (a0 : Nat) (a1 : Int32) (a2 : Int32) (a3 : Int32) (a4 : Int32) (a5 : Int32) (y0 : Nat) (st : List Value) (M : xM) (Q : Option Value → xM → Prop), y0 < 200 → xW xSR 146 57 [.ref a0, .int a1, .int a2, .int a3, .int a4, .int a5] (.int (nI y0) :: .ref 2 :: st) M Q = xW xSR 146 58 [.ref a0, .int a1, .int a2, .int a3, .int a4, .int a5] (.int (M 2 y0) :: st) M Q) ∧
  (∀ (a0 : Nat) (a1 : Int32) (a2 : Int32) (a3 : Int32) (a4 : Int32) (a5 : Int32) (y0 : Int32) (y1 : Int32) (st : List Value) (M : xM) (Q : Option Value → xM → Prop), xW xSR 146 58 [.ref a0, .int a1, .int a2, .int a3, .int a4, .int a5] (.int y0 :: .int y1 :: st) M Q = xW xSR 146 59 [.ref a0, .int a1, .int a2, .int a3, .int a4, .int a5] (.int (y1 + y0) :: st) M Q) ∧
  (∀ (a0 : Nat) (a1 : Int32) (a2 : Int32) (a3 : Int32) (a4 : Int32) (a5 : Int32) (st : List Value) (M : xM) (Q : Option Value → xM → Prop), xW xSR 146 59 [.ref a0, .int a1, .int a2, .int a3, .int a4, .int a5] (st) M Q = xW xSR 146 61 [.ref a0, .int a1, .int a2, .int a3, .int a4, .int a5] (.int (nI 48) :: st) M Q) ∧
  (∀ (a0 : Nat) (a1 : Int32) (a2 : Int32) (a3 : Int32) (a4 : Int32) (a5 : Int32) (y0 : Int32) (y1 : Int32) (st : List Value) (M : xM) (Q : Option Value → xM → Prop), xW xSR 146 61 [.ref a0, .int a1, .int a2, .int a3, .int a4, .int a5] (.int y0 :: .int y1 :: st) M Q = xW xSR 146 62 [.ref a0, .int a1, .int a2, .int a3, .int a4, .int a5] (.int (y1 - y0) :: st) M Q) ∧
  (∀ (a0 : Nat) (a1 : Int32) (a2 : Int32) (a3 : Int32) (a4 : Int32) (a5 : Int32) (y0 : Int32) (st : List Value) (M : xM) (Q : Option Value → xM → Prop), xW xSR 146 62 [.ref a0, .int a1, .int a2, .int a3, .int a4, .int a5] (.int y0 :: st) M Q = xW xSR 146 64 [.ref a0, .int a1, .int a2, .int a3, .int a4, .int y0] (st) M Q) ∧
  (∀ (a0 : Nat) (a1 : Int32) (a2 : Int32) (a3 : Int32) (a4 : Int32) (a5 : Int32) (st : List Value) (M : xM) (Q : Option Value → xM → Prop), xW xSR 146 64 [.ref a0, .int a1, .int a2, .int a3, .int a4, .int a5] (st) M Q = xW xSR 146 65 [.ref a0, .int a1, .int a2, .int a3, .int a4, .int a5] (.ref a0 :: st) M Q) ∧
  (∀ (a0 : Nat) (a1 : Int32) (a2 : Int32) (a3 : Int32) (a4 : Int32) (a5 : Int32) (y0 : Nat) (st : List Value) (M : xM) (Q : Option Value → xM → Prop), xW xSR 146 65 [.ref a0, .int a1, .int a2, .int a3, .int a4, .int a5] (.ref y0 :: st) M Q = xW xSR 146 66 [.ref a0, .int a1, .int a2, .int a3, .int a4, .int a5] (.ref y0 :: .ref y0 :: st) M Q) ∧
  (∀ (a0 : Nat) (a1 : Int32) (a2 : Int32) (a3 : Int32) (a4 : Int32) (a5 : Int32) (st : List Value) (M : xM) (Q : Option Value → xM → Prop), xW xSR 146 66 [.ref a0, .int a1, .int a2, .int a3, .int a4, .int a5] (.ref 0 :: st) M Q = xW xSR 146 69 [.ref a0, .int a1, .int a2, .int a3, .int a4, .int a5] (.int (M 0 4) :: st) M Q) ∧
  (∀ (a0 : Nat) (a1 : Int32) (a2 : Int32) (a3 : Int32) (a4 : Int32) (a5 : Int32) (st : List Value) (M : xM) (Q : Option Value → xM → Prop), xW xSR 146 69 [.ref a0, .int a1, .int a2, .int a3, .int a4, .int a5] (st) M Q = xW xSR 146 70 [.ref a0, .int a1, .int a2, .int a3, .int a4, .int a5] (.int (nI 1) :: st) M Q) ∧
  (∀ (a0 : Nat) (a1 : Int32) (a2 : Int32) (a3 : Int32) (a4 : Int32) (a5 : Int32) (y0 : Int32) (y1 : Int32) (st : List Value) (M : xM) (Q : Option Value → xM → Prop), xW xSR 146 70 [.ref a0, .int a1, .int a2, .int a3, .int a4, .int a5] (.int y0 :: .int y1 :: st) M Q = xW xSR 146 71 [.ref a0, .int a1, .int a2, .int a3, .int a4, .int a5] (.int (y1 + y0) :: st) M Q) ∧
  (∀ (a0 : Nat) (a1 : Int32) (a2 : Int32) (a3 : Int32) (a4 : Int32) (a5 : Int32) (y0 : Int32) (st : List Value) (M : xM) (Q : Option Value → xM → Prop), xW xSR 146 71 [.ref a0, .int a1, .int a2, .int a3, .int a4, .int a5] (.int y0 :: .ref 0 :: st) M Q = xW xSR 146 74 [.ref a0, .int a1, .int a2, .int a3, .int a4, .int a5] (st) (xup M 0 4 y0) Q) ∧
  (∀ (a0 : Nat) (a1 : Int32) (a2 : Int32) (a3 : Int32) (a4 : Int32) (a5 : Int32) (st : List Value) (M : xM) (Q : Option Value → xM → Prop), xW xSR 146 74 [.ref a0, .int a1, .int a2, .int a3, .int a4, .int a5] (st) M Q = xW xSR 146 22 [.ref a0, .int a1, .int a2, .int a3, .int a4, .int a5] (st) M Q) ∧
  (∀ (a0 : Nat) (a1 : Int32) (a2 : Int32) (a3 : Int32) (a4 : Int32) (a5 : Int32) (st : List Value) (M : xM) (Q : Option Value → xM → Prop), xW xSR 146 78 [.ref a0, .int a1, .int a2, .int a3, .int a4, .int a5] (.ref 0 :: st) M Q = xW xSR 146 81 [.ref a0, .int a1, .int a2, .int a3, .int a4, .int a5] (.ref 4 :: st) M Q) ∧
  (∀ (a0 : Nat) (a1 : Int32) (a2 : Int32) (a3 : Int32) (a4 : Int32) (a5 : Int32) (st : List Value) (M : xM) (Q : Option Value → xM → Prop), xW xSR 146 81 [.ref a0, .int a1, .int a2, .int a3, .int a4, .int a5] (st) M Q = xW xSR 146 82 [.ref a0, .int a1, .int a2, .int a3, .int a4, .int a5] (.int a3 :: st) M Q) ∧
  (∀ (a0 : Nat) (a1 : Int32) (a2 : Int32) (a3 : Int32) (a4 : Int32) (a5 : Int32) (st : List Value) (M : xM) (Q : Option Value → xM → Prop), xW xSR 146 82 [.ref a0, .int a1, .int a2, .int a3, .int a4, .int a5] (st) M Q = xW xSR 146 84 [.ref a0, .int a1, .int a2, .int a3, .int a4, .int a5] (.int a5 :: st) M Q) ∧
  (∀ (a0 : Nat) (a1 : Int32) (a2 : Int32) (a3 : Int32) (a4 : Int32) (a5 : Int32) (y0 : Int32) (y1 : Nat) (st : List Value) (M : xM) (Q : Option Value → xM → Prop), y1 < 6 → xW xSR 146 84 [.ref a0, .int a1, .int a2, .int a3, .int a4, .int a5] (.int y0 :: .int (nI y1) :: .ref 4 :: st) M Q = xW xSR 146 85 [.ref a0, .int a1, .int a2, .int a3, .int a4, .int a5] (st) (xup M 4 y1 y0) Q) ∧
  (∀ (a0 : Nat) (a1 : Int32) (a2 : Int32) (a3 : Int32) (a4 : Int32) (a5 : Int32) (st : List Value) (M : xM) (Q : Option Value → xM → Prop), xW xSR 146 85 [.ref a0, .int a1, .int a2, .int a3, .int a4, .int a5] (st) M Q = xW xSR 146 86 [.ref a0, .int a1, .int a2, .int a3, .int a4, .int a5] (.ref a0 :: st) M Q) ∧
  (∀ (a0 : Nat) (a1 : Int32) (a2 : Int32) (a3 : Int32) (a4 : Int32) (a5 : Int32) (st : List Value) (M : xM) (Q : Option Value → xM → Prop), xW xSR 146 86 [.ref a0, .int a1, .int a2, .int a3, .int a4, .int a5] (.ref 0 :: st) M Q = xW xSR 146 89 [.ref a0, .int a1, .int a2, .int a3, .int a4, .int a5] (.int (M 0 4) :: st) M Q) ∧
  (∀ (a0 : Nat) (a1 : Int32) (a2 : Int32) (a3 : Int32) (a4 : Int32) (a5 : Int32) (st : List Value) (M : xM) (Q : Option Value → xM → Prop), xW xSR 146 89 [.ref a0, .int a1, .int a2, .int a3, .int a4, .int a5] (st) M Q = xW xSR 146 91 [.ref a0, .int a1, .int a2, .int a3, .int a4, .int a5] (.int a4 :: st) M Q) ∧
  (∀ (a0 : Nat) (a1 : Int32) (a2 : Int32) (a3 : Int32) (a4 : Int32) (a5 : Int32) (y0 : Int32) (y1 : Int32) (st : List Value) (M : xM) (Q : Option Value → xM → Prop), xW xSR 146 91 [.ref a0, .int a1, .int a2, .int a3, .int a4, .int a5] (.int y0 :: .int y1 :: st) M Q = xW xSR 146 92 [.ref a0, .int a1, .int a2, .int a3, .int a4, .int a5] (.int (y1 - y0) :: st) M Q) ∧
  (∀ (a0 : Nat) (a1 : Int32) (a2 : Int32) (a3 : Int32) (a4 : Int32) (a5 : Int32) (y0 : Int32) (st : List Value) (M : xM) (Q : Option Value → xM → Prop), xW xSR 146 92 [.ref a0, .int a1, .int a2, .int a3, .int a4, .int a5] (.int y0 :: st) M Q = xW xSR 146 93 [.ref a0, .int a1, .int a2, .int a3, .int a4, .int a5] (.long y0.toInt64 :: st) M Q) ∧
  (∀ (a0 : Nat) (a1 : Int32) (a2 : Int32) (a3 : Int32) (a4 : Int32) (a5 : Int32) (st : List Value) (M : xM) (Q : Option Value → xM → Prop), xW xSR 146 93 [.ref a0, .int a1, .int a2, .int a3, .int a4, .int a5] (st) M Q = xW xSR 146 94 [.ref a0, .int a1, .int a2, .int a3, .int a4, .int a5] (.long (lN 1) :: st) M Q) ∧
  (∀ (a0 : Nat) (a1 : Int32) (a2 : Int32) (a3 : Int32) (a4 : Int32) (a5 : Int32) (st : List Value) (M : xM) (Q : Option Value → xM → Prop), xW xSR 146 94 [.ref a0, .int a1, .int a2, .int a3, .int a4, .int a5] (st) M Q = xW xSR 146 97 [.ref a0, .int a1, .int a2, .int a3, .int a4, .int a5] (.long (lN 2) :: st) M Q) ∧
  (∀ (a0 : Nat) (a1 : Int32) (a2 : Int32) (a3 : Int32) (a4 : Int32) (a5 : Int32) (y0 : Int64) (y1 : Int64) (y2 : Int64) (M : xM) (Q : Option Value → xM → Prop), xW xSR 146 97 [.ref a0, .int a1, .int a2, .int a3, .int a4, .int a5] (.long y0 :: .long y1 :: .long y2 :: []) M Q = xW xSR 135 0 [.long y2, .null, .long y1, .null, .long y0, .null] [] M (fun v M' => xW xSR 146 100 [.ref a0, .int a1, .int a2, .int a3, .int a4, .int a5] (xpush v []) M' Q)) ∧
  (∀ (a0 : Nat) (a1 : Int32) (a2 : Int32) (a3 : Int32) (a4 : Int32) (a5 : Int32) (y0 : Int32) (st : List Value) (M : xM) (Q : Option Value → xM → Prop), xW xSR 146 100 [.ref a0, .int a1, .int a2, .int a3, .int a4, .int a5] (.int y0 :: st) M Q = if y0 = nI 0 then xW xSR 146 144 [.ref a0, .int a1, .int a2, .int a3, .int a4, .int a5] (st) M Q else xW xSR 146 103 [.ref a0, .int a1, .int a2, .int a3, .int a4, .int a5] (st) M Q) ∧
  (∀ (a0 : Nat) (a1 : Int32) (a2 : Int32) (a3 : Int32) (a4 : Int32) (a5 : Int32) (st : List Value) (M : xM) (Q : Option Value → xM → Prop), xW xSR 146 103 [.ref a0, .int a1, .int a2, .int a3, .int a4, .int a5] (st) M Q = xW xSR 146 104 [.ref a0, .int a1, .int a2, .int a3, .int a4, .int a5] (.ref a0 :: st) M Q) ∧
  (∀ (a0 : Nat) (a1 : Int32) (a2 : Int32) (a3 : Int32) (a4 : Int32) (a5 : Int32) (st : List Value) (M : xM) (Q : Option Value → xM → Prop), xW xSR 146 104 [.ref a0, .int a1, .int a2, .int a3, .int a4, .int a5] (.ref 0 :: st) M Q = xW xSR 146 107 [.ref a0, .int a1, .int a2, .int a3, .int a4, .int a5] (.int (M 0 4) :: st) M Q) ∧
  (∀ (a0 : Nat) (a1 : Int32) (a2 : Int32) (a3 : Int32) (a4 : Int32) (a5 : Int32) (st : List Value) (M : xM) (Q : Option Value → xM → Prop), xW xSR 146 107 [.ref a0, .int a1, .int a2, .int a3, .int a4, .int a5] (st) M Q = xW xSR 146 108 [.ref a0, .int a1, .int a2, .int a3, .int a4, .int a5] (.ref a0 :: st) M Q) ∧
  (∀ (a0 : Nat) (a1 : Int32) (a2 : Int32) (a3 : Int32) (a4 : Int32) (a5 : Int32) (st : List Value) (M : xM) (Q : Option Value → xM → Prop), xW xSR 146 108 [.ref a0, .int a1, .int a2, .int a3, .int a4, .int a5] (.ref 0 :: st) M Q = xW xSR 146 111 [.ref a0, .int a1, .int a2, .int a3, .int a4, .int a5] (.int (M 0 2) :: st) M Q) ∧
  (∀ (a0 : Nat) (a1 : Int32) (a2 : Int32) (a3 : Int32) (a4 : Int32) (a5 : Int32) (y0 : Int32) (y1 : Int32) (st : List Value) (M : xM) (Q : Option Value → xM → Prop), xW xSR 146 111 [.ref a0, .int a1, .int a2, .int a3, .int a4, .int a5] (.int y0 :: .int y1 :: st) M Q = if y1 < y0 then xW xSR 146 114 [.ref a0, .int a1, .int a2, .int a3, .int a4, .int a5] (st) M Q else xW xSR 146 144 [.ref a0, .int a1, .int a2, .int a3, .int a4, .int a5] (st) M Q) ∧
  (∀ (a0 : Nat) (a1 : Int32) (a2 : Int32) (a3 : Int32) (a4 : Int32) (a5 : Int32) (st : List Value) (M : xM) (Q : Option Value → xM → Prop), xW xSR 146 114 [.ref a0, .int a1, .int a2, .int a3, .int a4, .int a5] (st) M Q = xW xSR 146 115 [.ref a0, .int a1, .int a2, .int a3, .int a4, .int a5] (.ref a0 :: st) M Q) ∧
  (∀ (a0 : Nat) (a1 : Int32) (a2 : Int32) (a3 : Int32) (a4 : Int32) (a5 : Int32) (st : List Value) (M : xM) (Q : Option Value → xM → Prop), xW xSR 146 115 [.ref a0, .int a1, .int a2, .int a3, .int a4, .int a5] (.ref 0 :: st) M Q = xW xSR 146 118 [.ref a0, .int a1, .int a2, .int a3, .int a4, .int a5] (.ref 2 :: st) M Q) ∧
  (∀ (a0 : Nat) (a1 : Int32) (a2 : Int32) (a3 : Int32) (a4 : Int32) (a5 : Int32) (st : List Value) (M : xM) (Q : Option Value → xM → Prop), xW xSR 146 118 [.ref a0, .int a1, .int a2, .int a3, .int a4, .int a5] (st) M Q = xW xSR 146 119 [.ref a0, .int a1, .int a2, .int a3, .int a4, .int a5] (.ref a0 :: st) M Q) ∧
  (∀ (a0 : Nat) (a1 : Int32) (a2 : Int32) (a3 : Int32) (a4 : Int32) (a5 : Int32) (st : List Value) (M : xM) (Q : Option Value → xM → Prop), xW xSR 146 119 [.ref a0, .int a1, .int a2, .int a3, .int a4, .int a5] (.ref 0 :: st) M Q = xW xSR 146 122 [.ref a0, .int a1, .int a2, .int a3, .int a4, .int a5] (.int (M 0 4) :: st) M Q) ∧
  (∀ (a0 : Nat) (a1 : Int32) (a2 : Int32) (a3 : Int32) (a4 : Int32) (a5 : Int32) (y0 : Nat) (st : List Value) (M : xM) (Q : Option Value → xM → Prop), y0 < 200 → xW xSR 146 122 [.ref a0, .int a1, .int a2, .int a3, .int a4, .int a5] (.int (nI y0) :: .ref 2 :: st) M Q = xW xSR 146 123 [.ref a0, .int a1, .int a2, .int a3, .int a4, .int a5] (.int (M 2 y0) :: st) M Q) ∧
  (∀ (a0 : Nat) (a1 : Int32) (a2 : Int32) (a3 : Int32) (a4 : Int32) (a5 : Int32) (st : List Value) (M : xM) (Q : Option Value → xM → Prop), xW xSR 146 123 [.ref a0, .int a1, .int a2, .int a3, .int a4, .int a5] (st) M Q = xW xSR 146 124 [.ref a0, .int a1, .int a2, .int a3, .int a4, .int a5] (.int a3 :: st) M Q) ∧
  (∀ (a0 : Nat) (a1 : Int32) (a2 : Int32) (a3 : Int32) (a4 : Int32) (a5 : Int32) (st : List Value) (M : xM) (Q : Option Value → xM → Prop), xW xSR 146 124 [.ref a0, .int a1, .int a2, .int a3, .int a4, .int a5] (st) M Q = xW xSR 146 125 [.ref a0, .int a1, .int a2, .int a3, .int a4, .int a5] (.int a1 :: st) M Q) ∧
  (∀ (a0 : Nat) (a1 : Int32) (a2 : Int32) (a3 : Int32) (a4 : Int32) (a5 : Int32) (st : List Value) (M : xM) (Q : Option Value → xM → Prop), xW xSR 146 125 [.ref a0, .int a1, .int a2, .int a3, .int a4, .int a5] (st) M Q = xW xSR 146 126 [.ref a0, .int a1, .int a2, .int a3, .int a4, .int a5] (.int (nI 1) :: st) M Q) ∧
  (∀ (a0 : Nat) (a1 : Int32) (a2 : Int32) (a3 : Int32) (a4 : Int32) (a5 : Int32) (y0 : Int32) (y1 : Int32) (st : List Value) (M : xM) (Q : Option Value → xM → Prop), xW xSR 146 126 [.ref a0, .int a1, .int a2, .int a3, .int a4, .int a5] (.int y0 :: .int y1 :: st) M Q = xW xSR 146 127 [.ref a0, .int a1, .int a2, .int a3, .int a4, .int a5] (.int (y1 - y0) :: st) M Q) ∧
  (∀ (a0 : Nat) (a1 : Int32) (a2 : Int32) (a3 : Int32) (a4 : Int32) (a5 : Int32) (y0 : Int32) (y1 : Int32) (st : List Value) (M : xM) (Q : Option Value → xM → Prop), xW xSR 146 127 [.ref a0, .int a1, .int a2, .int a3, .int a4, .int a5] (.int y0 :: .int y1 :: st) M Q = if y1 = y0 then xW xSR 146 130 [.ref a0, .int a1, .int a2, .int a3, .int a4, .int a5] (st) M Q else xW xSR 146 135 [.ref a0, .int a1, .int a2, .int a3, .int a4, .int a5] (st) M Q) ∧
  (∀ (a0 : Nat) (a1 : Int32) (a2 : Int32) (a3 : Int32) (a4 : Int32) (a5 : Int32) (st : List Value) (M : xM) (Q : Option Value → xM → Prop), xW xSR 146 130 [.ref a0, .int a1, .int a2, .int a3, .int a4, .int a5] (st) M Q = xW xSR 146 132 [.ref a0, .int a1, .int a2, .int a3, .int a4, .int a5] (.int (nI 59) :: st) M Q) ∧
  (∀ (a0 : Nat) (a1 : Int32) (a2 : Int32) (a3 : Int32) (a4 : Int32) (a5 : Int32) (st : List Value) (M : xM) (Q : Option Value → xM → Prop), xW xSR 146 132 [.ref a0, .int a1, .int a2, .int a3, .int a4, .int a5] (st) M Q = xW xSR 146 137 [.ref a0, .int a1, .int a2, .int a3, .int a4, .int a5] (st) M Q) ∧
  (∀ (a0 : Nat) (a1 : Int32) (a2 : Int32) (a3 : Int32) (a4 : Int32) (a5 : Int32) (st : List Value) (M : xM) (Q : Option Value → xM → Prop), xW xSR 146 135 [.ref a0, .int a1, .int a2, .int a3, .int a4, .int a5] (st) M Q = xW xSR 146 137 [.ref a0, .int a1, .int a2, .int a3, .int a4, .int a5] (.int (nI 44) :: st) M Q) ∧
  (∀ (a0 : Nat) (a1 : Int32) (a2 : Int32) (a3 : Int32) (a4 : Int32) (a5 : Int32) (st : List Value) (M : xM) (Q : Option Value → xM → Prop), xW xSR 146 140 [.ref a0, .int a1, .int a2, .int a3, .int a4, .int a5] (st) M Q = xW xSR 146 141 [.ref a0, .int a1, .int a2, .int a3, .int a4, .int a5] (.int (nI 1) :: st) M Q) ∧
  (∀ (a0 : Nat) (a1 : Int32) (a2 : Int32) (a3 : Int32) (a4 : Int32) (a5 : Int32) (st : List Value) (M : xM) (Q : Option Value → xM → Prop), xW xSR 146 141 [.ref a0, .int a1, .int a2, .int a3, .int a4, .int a5] (st) M Q = xW xSR 146 145 [.ref a0, .int a1, .int a2, .int a3, .int a4, .int a5] (st) M Q) ∧
  (∀ (a0 : Nat) (a1 : Int32) (a2 : Int32) (a3 : Int32) (a4 : Int32) (a5 : Int32) (st : List Value) (M : xM) (Q : Option Value → xM → Prop), xW xSR 146 146 [.ref a0, .int a1, .int a2, .int a3, .int a4, .int a5] (st) M Q = xW xSR 146 147 [.ref a0, .int a1, .int a2, .int a3, .int a4, .int a5] (.ref a0 :: st) M Q) ∧
  (∀ (a0 : Nat) (a1 : Int32) (a2 : Int32) (a3 : Int32) (a4 : Int32) (a5 : Int32) (y0 : Nat) (st : List Value) (M : xM) (Q : Option Value → xM → Prop), xW xSR 146 147 [.ref a0, .int a1, .int a2, .int a3, .int a4, .int a5] (.ref y0 :: st) M Q = xW xSR 146 148 [.ref a0, .int a1, .int a2, .int a3, .int a4, .int a5] (.ref y0 :: .ref y0 :: st) M Q) ∧
  (∀ (a0 : Nat) (a1 : Int32) (a2 : Int32) (a3 : Int32) (a4 : Int32) (a5 : Int32) (st : List Value) (M : xM) (Q : Option Value → xM → Prop), xW xSR 146 148 [.ref a0, .int a1, .int a2, .int a3, .int a4, .int a5] (.ref 0 :: st) M Q = xW xSR 146 151 [.ref a0, .int a1, .int a2, .int a3, .int a4, .int a5] (.int (M 0 4) :: st) M Q) ∧
  (∀ (a0 : Nat) (a1 : Int32) (a2 : Int32) (a3 : Int32) (a4 : Int32) (a5 : Int32) (st : List Value) (M : xM) (Q : Option Value → xM → Prop), xW xSR 146 151 [.ref a0, .int a1, .int a2, .int a3, .int a4, .int a5] (st) M Q = xW xSR 146 152 [.ref a0, .int a1, .int a2, .int a3, .int a4, .int a5] (.int (nI 1) :: st) M Q) ∧
  (∀ (a0 : Nat) (a1 : Int32) (a2 : Int32) (a3 : Int32) (a4 : Int32) (a5 : Int32) (y0 : Int32) (y1 : Int32) (st : List Value) (M : xM) (Q : Option Value → xM → Prop), xW xSR 146 152 [.ref a0, .int a1, .int a2, .int a3, .int a4, .int a5] (.int y0 :: .int y1 :: st) M Q = xW xSR 146 153 [.ref a0, .int a1, .int a2, .int a3, .int a4, .int a5] (.int (y1 + y0) :: st) M Q) ∧
  (∀ (a0 : Nat) (a1 : Int32) (a2 : Int32) (a3 : Int32) (a4 : Int32) (a5 : Int32) (y0 : Int32) (st : List Value) (M : xM) (Q : Option Value → xM → Prop), xW xSR 146 153 [.ref a0, .int a1, .int a2, .int a3, .int a4, .int a5] (.int y0 :: .ref 0 :: st) M Q = xW xSR 146 156 [.ref a0, .int a1, .int a2, .int a3, .int a4, .int a5] (st) (xup M 0 4 y0) Q) ∧
  (∀ (a0 : Nat) (a1 : Int32) (a2 : Int32) (a3 : Int32) (a4 : Int32) (a5 : Int32) (st : List Value) (M : xM) (Q : Option Value → xM → Prop), xW xSR 146 156 [.ref a0, .int a1, .int a2, .int a3, .int a4, .int a5] (st) M Q = xW xSR 146 159 [.ref a0, .int a1, .int a2, .int (a3 + nI 1), .int a4, .int a5] (st) M Q) ∧
  (∀ (a0 : Nat) (a1 : Int32) (a2 : Int32) (a3 : Int32) (a4 : Int32) (a5 : Int32) (st : List Value) (M : xM) (Q : Option Value → xM → Prop), xW xSR 146 159 [.ref a0, .int a1, .int a2, .int a3, .int a4, .int a5] (st) M Q = xW xSR 146 4 [.ref a0, .int a1, .int a2, .int a3, .int a4, .int a5] (st) M Q) ∧
  (∀ (a0 : Nat) (a1 : Int32) (a2 : Int32) (a3 : Int32) (a4 : Value) (a5 : Value) (y0 : Int32) (M : xM) (Q : Option Value → xM → Prop), y0 = 0 ∨ y0 = 1 → xW xSR 146 163 [.ref a0, .int a1, .int a2, .int a3, a4, a5] ([.int y0]) M Q = Q (some (.int y0)) M) :=
  ⟨fun a0 a1 a2 a3 a4 a5 st M Q => xw_s rfl rfl,
  fun a0 a1 a2 a3 a4 a5 y0 st M Q => xw_s rfl rfl,
  fun a0 a1 a2 a3 a4 a5 st M Q => xw_s rfl rfl,
  fun a0 a1 a2 a3 a4 a5 y0 st M Q => xw_s rfl rfl,
  fun a0 a1 a2 a3 a4 a5 st M Q => xw_s rfl rfl,
  fun a0 a1 a2 a3 a4 a5 y0 y1 st M Q => xw_brn (c0 := y0 ≤ y1) (c1 := y1 < y0) rfl rfl (xge _ _),
  fun a0 a1 a2 a3 a4 a5 st M Q => xw_s rfl rfl,
  fun a0 a1 a2 a3 a4 a5 y0 st M Q => xw_br (c0 := y0 = nI 0) rfl rfl,
  fun a0 a1 a2 a3 a4 a5 st M Q => xw_s rfl rfl,
  fun a0 a1 a2 a3 a4 a5 st M Q => xw_s rfl rfl,
  fun a0 a1 a2 a3 a4 a5 y0 st M Q => xw_s rfl rfl,
  fun a0 a1 a2 a3 a4 a5 st M Q => xw_s rfl rfl,
  fun a0 a1 a2 a3 a4 a5 y0 st M Q => xw_s rfl rfl,
  fun a0 a1 a2 a3 a4 a5 st M Q => xw_s rfl rfl,
  fun a0 a1 a2 a3 a4 a5 st M Q => xw_s rfl rfl,
  fun a0 a1 a2 a3 a4 a5 y0 M Q => xw_call rfl rfl rfl,
  fun a0 a1 a2 a3 a4 a5 y0 st M Q => xw_br (c0 := y0 = nI 0) rfl rfl,
  fun a0 a1 a2 a3 a4 a5 st M Q => xw_s rfl rfl,
  fun a0 a1 a2 a3 a4 a5 st M Q => xw_s rfl rfl,
  fun a0 a1 a2 a3 a4 a5 st M Q => xw_s rfl rfl,
  fun a0 a1 a2 a3 a4 a5 y0 y1 st M Q => xw_s rfl rfl,
  fun a0 a1 a2 a3 a4 a5 st M Q => xw_s rfl rfl,
  fun a0 a1 a2 a3 a4 a5 y0 y1 st M Q => xw_brn (c0 := y0 ≤ y1) (c1 := y1 < y0) rfl rfl (xge _ _),
  fun a0 a1 a2 a3 a4 a5 st M Q => xw_s rfl rfl,
  fun a0 a1 a2 a3 a4 a5 st M Q => xw_s rfl rfl,
  fun a0 a1 a2 a3 a4 a5 y0 y1 st M Q => xw_s rfl rfl,
  fun a0 a1 a2 a3 a4 a5 st M Q => xw_s rfl rfl,
  fun a0 a1 a2 a3 a4 a5 st M Q => xw_s rfl rfl,
  fun a0 a1 a2 a3 a4 a5 st M Q => xw_s rfl rfl,
  fun a0 a1 a2 a3 a4 a5 st M Q => xw_s rfl rfl,
  fun a0 a1 a2 a3 a4 a5 y0 st M Q h0 => xw_ald rfl rfl rfl (by decide) h0,
  fun a0 a1 a2 a3 a4 a5 y0 y1 st M Q => xw_s rfl rfl,
  fun a0 a1 a2 a3 a4 a5 st M Q => xw_s rfl rfl,
  fun a0 a1 a2 a3 a4 a5 y0 y1 st M Q => xw_s rfl rfl,
  fun a0 a1 a2 a3 a4 a5 y0 st M Q => xw_s rfl rfl,
  fun a0 a1 a2 a3 a4 a5 st M Q => xw_s rfl rfl,
  fun a0 a1 a2 a3 a4 a5 y0 st M Q => xw_s rfl rfl,
  fun a0 a1 a2 a3 a4 a5 st M Q => xw_s rfl rfl,
  fun a0 a1 a2 a3 a4 a5 st M Q => xw_s rfl rfl,
  fun a0 a1 a2 a3 a4 a5 y0 y1 st M Q => xw_s rfl rfl,
  fun a0 a1 a2 a3 a4 a5 y0 st M Q => xw_s rfl rfl,
  fun a0 a1 a2 a3 a4 a5 st M Q => xw_s rfl rfl,
  fun a0 a1 a2 a3 a4 a5 st M Q => xw_s rfl rfl,
  fun a0 a1 a2 a3 a4 a5 st M Q => xw_s rfl rfl,
  fun a0 a1 a2 a3 a4 a5 st M Q => xw_s rfl rfl,
  fun a0 a1 a2 a3 a4 a5 y0 y1 st M Q h0 => xw_ast (f := fun x => x) rfl rfl rfl (by decide) h0,
  fun a0 a1 a2 a3 a4 a5 st M Q => xw_s rfl rfl,
  fun a0 a1 a2 a3 a4 a5 st M Q => xw_s rfl rfl,
  fun a0 a1 a2 a3 a4 a5 st M Q => xw_s rfl rfl,
  fun a0 a1 a2 a3 a4 a5 y0 y1 st M Q => xw_s rfl rfl,
  fun a0 a1 a2 a3 a4 a5 y0 st M Q => xw_s rfl rfl,
  fun a0 a1 a2 a3 a4 a5 st M Q => xw_s rfl rfl,
  fun a0 a1 a2 a3 a4 a5 st M Q => xw_s rfl rfl,
  fun a0 a1 a2 a3 a4 a5 y0 y1 y2 M Q => xw_call rfl rfl rfl,
  fun a0 a1 a2 a3 a4 a5 y0 st M Q => xw_br (c0 := y0 = nI 0) rfl rfl,
  fun a0 a1 a2 a3 a4 a5 st M Q => xw_s rfl rfl,
  fun a0 a1 a2 a3 a4 a5 st M Q => xw_s rfl rfl,
  fun a0 a1 a2 a3 a4 a5 st M Q => xw_s rfl rfl,
  fun a0 a1 a2 a3 a4 a5 st M Q => xw_s rfl rfl,
  fun a0 a1 a2 a3 a4 a5 y0 y1 st M Q => xw_brn (c0 := y0 ≤ y1) (c1 := y1 < y0) rfl rfl (xge _ _),
  fun a0 a1 a2 a3 a4 a5 st M Q => xw_s rfl rfl,
  fun a0 a1 a2 a3 a4 a5 st M Q => xw_s rfl rfl,
  fun a0 a1 a2 a3 a4 a5 st M Q => xw_s rfl rfl,
  fun a0 a1 a2 a3 a4 a5 st M Q => xw_s rfl rfl,
  fun a0 a1 a2 a3 a4 a5 y0 st M Q h0 => xw_ald rfl rfl rfl (by decide) h0,
  fun a0 a1 a2 a3 a4 a5 st M Q => xw_s rfl rfl,
  fun a0 a1 a2 a3 a4 a5 st M Q => xw_s rfl rfl,
  fun a0 a1 a2 a3 a4 a5 st M Q => xw_s rfl rfl,
  fun a0 a1 a2 a3 a4 a5 y0 y1 st M Q => xw_s rfl rfl,
  fun a0 a1 a2 a3 a4 a5 y0 y1 st M Q => xw_brn (c0 := y1 ≠ y0) (c1 := y1 = y0) rfl rfl (Iff.rfl),
  fun a0 a1 a2 a3 a4 a5 st M Q => xw_s rfl rfl,
  fun a0 a1 a2 a3 a4 a5 st M Q => xw_s rfl rfl,
  fun a0 a1 a2 a3 a4 a5 st M Q => xw_s rfl rfl,
  fun a0 a1 a2 a3 a4 a5 st M Q => xw_s rfl rfl,
  fun a0 a1 a2 a3 a4 a5 st M Q => xw_s rfl rfl,
  fun a0 a1 a2 a3 a4 a5 st M Q => xw_s rfl rfl,
  fun a0 a1 a2 a3 a4 a5 y0 st M Q => xw_s rfl rfl,
  fun a0 a1 a2 a3 a4 a5 st M Q => xw_s rfl rfl,
  fun a0 a1 a2 a3 a4 a5 st M Q => xw_s rfl rfl,
  fun a0 a1 a2 a3 a4 a5 y0 y1 st M Q => xw_s rfl rfl,
  fun a0 a1 a2 a3 a4 a5 y0 st M Q => xw_s rfl rfl,
  fun a0 a1 a2 a3 a4 a5 st M Q => xw_s rfl rfl,
  fun a0 a1 a2 a3 a4 a5 st M Q => xw_s rfl rfl,
  fun a0 a1 a2 a3 a4 a5 y0 M Q h0 => xw_retz rfl rfl h0⟩
set_option maxRecDepth 20000 in
theorem h146_4 :
  (∀ (a0 : Nat) (a1 : Int32) (a2 : Int32) (a3 : Int32) (a4 : Value) (a5 : Value) (st : List Value) (M : xM) (Q : Option Value → xM → Prop), xW xSR 146 4 [.ref a0, .int a1, .int a2, .int a3, a4, a5] (st) M Q = xW xSR 146 5 [.ref a0, .int a1, .int a2, .int a3, a4, a5] (.int a3 :: st) M Q) :=
  fun a0 a1 a2 a3 a4 a5 st M Q => xw_s rfl rfl
set_option maxRecDepth 20000 in
theorem h146_22 :
  (∀ (a0 : Nat) (a1 : Int32) (a2 : Int32) (a3 : Int32) (a4 : Int32) (a5 : Int32) (st : List Value) (M : xM) (Q : Option Value → xM → Prop), xW xSR 146 22 [.ref a0, .int a1, .int a2, .int a3, .int a4, .int a5] (st) M Q = xW xSR 146 23 [.ref a0, .int a1, .int a2, .int a3, .int a4, .int a5] (.ref a0 :: st) M Q) :=
  fun a0 a1 a2 a3 a4 a5 st M Q => xw_s rfl rfl
set_option maxRecDepth 20000 in
theorem h146_77 :
  (∀ (a0 : Nat) (a1 : Int32) (a2 : Int32) (a3 : Int32) (a4 : Int32) (a5 : Int32) (st : List Value) (M : xM) (Q : Option Value → xM → Prop), xW xSR 146 77 [.ref a0, .int a1, .int a2, .int a3, .int a4, .int a5] (st) M Q = xW xSR 146 78 [.ref a0, .int a1, .int a2, .int a3, .int a4, .int a5] (.ref a0 :: st) M Q) :=
  fun a0 a1 a2 a3 a4 a5 st M Q => xw_s rfl rfl
set_option maxRecDepth 20000 in
theorem h146_137 :
  (∀ (a0 : Nat) (a1 : Int32) (a2 : Int32) (a3 : Int32) (a4 : Int32) (a5 : Int32) (y0 : Int32) (y1 : Int32) (st : List Value) (M : xM) (Q : Option Value → xM → Prop), xW xSR 146 137 [.ref a0, .int a1, .int a2, .int a3, .int a4, .int a5] (.int y0 :: .int y1 :: st) M Q = if y1 = y0 then xW xSR 146 140 [.ref a0, .int a1, .int a2, .int a3, .int a4, .int a5] (st) M Q else xW xSR 146 144 [.ref a0, .int a1, .int a2, .int a3, .int a4, .int a5] (st) M Q) :=
  fun a0 a1 a2 a3 a4 a5 y0 y1 st M Q => xw_brn (c0 := y1 ≠ y0) (c1 := y1 = y0) rfl rfl (Iff.rfl)
set_option maxRecDepth 20000 in
theorem h146_144 :
  (∀ (a0 : Nat) (a1 : Int32) (a2 : Int32) (a3 : Int32) (a4 : Int32) (a5 : Int32) (st : List Value) (M : xM) (Q : Option Value → xM → Prop), xW xSR 146 144 [.ref a0, .int a1, .int a2, .int a3, .int a4, .int a5] (st) M Q = xW xSR 146 145 [.ref a0, .int a1, .int a2, .int a3, .int a4, .int a5] (.int (nI 0) :: st) M Q) :=
  fun a0 a1 a2 a3 a4 a5 st M Q => xw_s rfl rfl
set_option maxRecDepth 20000 in
theorem h146_145 :
  (∀ (a0 : Nat) (a1 : Int32) (a2 : Int32) (a3 : Int32) (a4 : Int32) (a5 : Int32) (y0 : Int32) (st : List Value) (M : xM) (Q : Option Value → xM → Prop), xW xSR 146 145 [.ref a0, .int a1, .int a2, .int a3, .int a4, .int a5] (.int y0 :: st) M Q = xW xSR 146 146 [.ref a0, .int a1, .int y0, .int a3, .int a4, .int a5] (st) M Q) :=
  fun a0 a1 a2 a3 a4 a5 y0 st M Q => xw_s rfl rfl
set_option maxRecDepth 20000 in
theorem h146_162 :
  (∀ (a0 : Nat) (a1 : Int32) (a2 : Int32) (a3 : Int32) (a4 : Value) (a5 : Value) (st : List Value) (M : xM) (Q : Option Value → xM → Prop), xW xSR 146 162 [.ref a0, .int a1, .int a2, .int a3, a4, a5] (st) M Q = xW xSR 146 163 [.ref a0, .int a1, .int a2, .int a3, a4, a5] (.int a2 :: st) M Q) :=
  fun a0 a1 a2 a3 a4 a5 st M Q => xw_s rfl rfl
set_option maxRecDepth 20000 in
theorem j146 :
  (∀ (a0 : Nat) (a1 : Int32) (a2 : Int32) (a3 : Int32) (a4 : Int32) (a5 : Int32) (st : List Value) (M : xM) (Q : Option Value → xM → Prop), xW xSR 146 77 [.ref a0, .int a1, .int a2, .int a3, .int a4, .int a5] (st) M Q = xW xSR 146 78 [.ref a0, .int a1, .int a2, .int a3, .int a4, .int a5] (.ref a0 :: st) M Q) ∧
  (∀ (a0 : Nat) (a1 : Int32) (a2 : Int32) (a3 : Int32) (a4 : Int32) (a5 : Int32) (y0 : Int32) (y1 : Int32) (st : List Value) (M : xM) (Q : Option Value → xM → Prop), xW xSR 146 137 [.ref a0, .int a1, .int a2, .int a3, .int a4, .int a5] (.int y0 :: .int y1 :: st) M Q = if y1 = y0 then xW xSR 146 140 [.ref a0, .int a1, .int a2, .int a3, .int a4, .int a5] (st) M Q else xW xSR 146 144 [.ref a0, .int a1, .int a2, .int a3, .int a4, .int a5] (st) M Q) ∧
  (∀ (a0 : Nat) (a1 : Int32) (a2 : Int32) (a3 : Int32) (a4 : Int32) (a5 : Int32) (st : List Value) (M : xM) (Q : Option Value → xM → Prop), xW xSR 146 144 [.ref a0, .int a1, .int a2, .int a3, .int a4, .int a5] (st) M Q = xW xSR 146 145 [.ref a0, .int a1, .int a2, .int a3, .int a4, .int a5] (.int (nI 0) :: st) M Q) ∧
  (∀ (a0 : Nat) (a1 : Int32) (a2 : Int32) (a3 : Int32) (a4 : Int32) (a5 : Int32) (y0 : Int32) (st : List Value) (M : xM) (Q : Option Value → xM → Prop), xW xSR 146 145 [.ref a0, .int a1, .int a2, .int a3, .int a4, .int a5] (.int y0 :: st) M Q = xW xSR 146 146 [.ref a0, .int a1, .int y0, .int a3, .int a4, .int a5] (st) M Q) ∧
  (∀ (a0 : Nat) (a1 : Int32) (a2 : Int32) (a3 : Int32) (a4 : Value) (a5 : Value) (st : List Value) (M : xM) (Q : Option Value → xM → Prop), xW xSR 146 162 [.ref a0, .int a1, .int a2, .int a3, a4, a5] (st) M Q = xW xSR 146 163 [.ref a0, .int a1, .int a2, .int a3, a4, a5] (.int a2 :: st) M Q) :=
  ⟨fun a0 a1 a2 a3 a4 a5 st M Q => xw_s rfl rfl,
  fun a0 a1 a2 a3 a4 a5 y0 y1 st M Q => xw_brn (c0 := y1 ≠ y0) (c1 := y1 = y0) rfl rfl (Iff.rfl),
  fun a0 a1 a2 a3 a4 a5 st M Q => xw_s rfl rfl,
  fun a0 a1 a2 a3 a4 a5 y0 st M Q => xw_s rfl rfl,
  fun a0 a1 a2 a3 a4 a5 st M Q => xw_s rfl rfl⟩

set_option maxRecDepth 20000 in
theorem s147 :
  (∀ (a0 : Nat) (a1 : Value) (st : List Value) (M : xM) (Q : Option Value → xM → Prop), xW xSR 147 0 [.ref a0, a1] (st) M Q = xW xSR 147 1 [.ref a0, a1] (.ref a0 :: st) M Q) ∧
  (∀ (a0 : Nat) (a1 : Value) (st : List Value) (M : xM) (Q : Option Value → xM → Prop), xW xSR 147 1 [.ref a0, a1] (st) M Q = xW xSR 147 2 [.ref a0, a1] (.int (nI 1) :: st) M Q) ∧
  (∀ (a0 : Nat) (a1 : Value) (y0 : Int32) (M : xM) (Q : Option Value → xM → Prop), xW xSR 147 2 [.ref a0, a1] (.int y0 :: .ref 0 :: []) M Q = xW xSR 146 0 [.ref 0, .int y0, .null, .null, .null, .null] [] M (fun v M' => xW xSR 147 5 [.ref a0, a1] (xpush v []) M' Q)) ∧
  (∀ (a0 : Nat) (a1 : Value) (y0 : Int32) (st : List Value) (M : xM) (Q : Option Value → xM → Prop), xW xSR 147 5 [.ref a0, a1] (.int y0 :: st) M Q = if y0 = nI 0 then xW xSR 147 31 [.ref a0, a1] (st) M Q else xW xSR 147 8 [.ref a0, a1] (st) M Q) ∧
  (∀ (a0 : Nat) (a1 : Value) (st : List Value) (M : xM) (Q : Option Value → xM → Prop), xW xSR 147 8 [.ref a0, a1] (st) M Q = xW xSR 147 9 [.ref a0, a1] (.ref a0 :: st) M Q) ∧
  (∀ (a0 : Nat) (a1 : Value) (st : List Value) (M : xM) (Q : Option Value → xM → Prop), xW xSR 147 9 [.ref a0, a1] (.ref 0 :: st) M Q = xW xSR 147 12 [.ref a0, a1] (.ref 4 :: st) M Q) ∧
  (∀ (a0 : Nat) (a1 : Value) (st : List Value) (M : xM) (Q : Option Value → xM → Prop), xW xSR 147 12 [.ref a0, a1] (st) M Q = xW xSR 147 13 [.ref a0, a1] (.int (nI 0) :: st) M Q) ∧
  (∀ (a0 : Nat) (a1 : Value) (y0 : Nat) (st : List Value) (M : xM) (Q : Option Value → xM → Prop), y0 < 6 → xW xSR 147 13 [.ref a0, a1] (.int (nI y0) :: .ref 4 :: st) M Q = xW xSR 147 14 [.ref a0, a1] (.int (M 4 y0) :: st) M Q) ∧
  (∀ (a0 : Nat) (a1 : Value) (y0 : Int32) (st : List Value) (M : xM) (Q : Option Value → xM → Prop), xW xSR 147 14 [.ref a0, a1] (.int y0 :: st) M Q = xW xSR 147 15 [.ref a0, a1] (.long y0.toInt64 :: st) M Q) ∧
  (∀ (a0 : Nat) (a1 : Value) (st : List Value) (M : xM) (Q : Option Value → xM → Prop), xW xSR 147 15 [.ref a0, a1] (st) M Q = xW xSR 147 18 [.ref a0, a1] (.long (lN 2) :: st) M Q) ∧
  (∀ (a0 : Nat) (a1 : Value) (st : List Value) (M : xM) (Q : Option Value → xM → Prop), xW xSR 147 18 [.ref a0, a1] (st) M Q = xW xSR 147 21 [.ref a0, a1] (.long (lN 8) :: st) M Q) ∧
  (∀ (a0 : Nat) (a1 : Value) (y0 : Int64) (y1 : Int64) (y2 : Int64) (M : xM) (Q : Option Value → xM → Prop), xW xSR 147 21 [.ref a0, a1] (.long y0 :: .long y1 :: .long y2 :: []) M Q = xW xSR 135 0 [.long y2, .null, .long y1, .null, .long y0, .null] [] M (fun v M' => xW xSR 147 24 [.ref a0, a1] (xpush v []) M' Q)) ∧
  (∀ (a0 : Nat) (a1 : Value) (y0 : Int32) (st : List Value) (M : xM) (Q : Option Value → xM → Prop), xW xSR 147 24 [.ref a0, a1] (.int y0 :: st) M Q = if y0 = nI 0 then xW xSR 147 31 [.ref a0, a1] (st) M Q else xW xSR 147 27 [.ref a0, a1] (st) M Q) ∧
  (∀ (a0 : Nat) (a1 : Value) (st : List Value) (M : xM) (Q : Option Value → xM → Prop), xW xSR 147 27 [.ref a0, a1] (st) M Q = xW xSR 147 28 [.ref a0, a1] (.int (nI 1) :: st) M Q) ∧
  (∀ (a0 : Nat) (a1 : Value) (st : List Value) (M : xM) (Q : Option Value → xM → Prop), xW xSR 147 28 [.ref a0, a1] (st) M Q = xW xSR 147 32 [.ref a0, a1] (st) M Q) ∧
  (∀ (a0 : Nat) (a1 : Int32) (st : List Value) (M : xM) (Q : Option Value → xM → Prop), xW xSR 147 33 [.ref a0, .int a1] (st) M Q = xW xSR 147 34 [.ref a0, .int a1] (.ref a0 :: st) M Q) ∧
  (∀ (a0 : Nat) (a1 : Int32) (st : List Value) (M : xM) (Q : Option Value → xM → Prop), xW xSR 147 34 [.ref a0, .int a1] (.ref 0 :: st) M Q = xW xSR 147 37 [.ref a0, .int a1] (.ref 3 :: st) M Q) ∧
  (∀ (a0 : Nat) (a1 : Int32) (st : List Value) (M : xM) (Q : Option Value → xM → Prop), xW xSR 147 37 [.ref a0, .int a1] (st) M Q = xW xSR 147 38 [.ref a0, .int a1] (.int (nI 0) :: st) M Q) ∧
  (∀ (a0 : Nat) (a1 : Int32) (st : List Value) (M : xM) (Q : Option Value → xM → Prop), xW xSR 147 38 [.ref a0, .int a1] (st) M Q = xW xSR 147 39 [.ref a0, .int a1] (.int a1 :: st) M Q) ∧
  (∀ (a0 : Nat) (a1 : Int32) (y0 : Int32) (st : List Value) (M : xM) (Q : Option Value → xM → Prop), xW xSR 147 39 [.ref a0, .int a1] (.int y0 :: st) M Q = if y0 = nI 0 then xW xSR 147 51 [.ref a0, .int a1] (st) M Q else xW xSR 147 42 [.ref a0, .int a1] (st) M Q) ∧
  (∀ (a0 : Nat) (a1 : Int32) (st : List Value) (M : xM) (Q : Option Value → xM → Prop), xW xSR 147 42 [.ref a0, .int a1] (st) M Q = xW xSR 147 43 [.ref a0, .int a1] (.ref a0 :: st) M Q) ∧
  (∀ (a0 : Nat) (a1 : Int32) (st : List Value) (M : xM) (Q : Option Value → xM → Prop), xW xSR 147 43 [.ref a0, .int a1] (.ref 0 :: st) M Q = xW xSR 147 46 [.ref a0, .int a1] (.ref 4 :: st) M Q) ∧
  (∀ (a0 : Nat) (a1 : Int32) (st : List Value) (M : xM) (Q : Option Value → xM → Prop), xW xSR 147 46 [.ref a0, .int a1] (st) M Q = xW xSR 147 47 [.ref a0, .int a1] (.int (nI 0) :: st) M Q) ∧
  (∀ (a0 : Nat) (a1 : Int32) (y0 : Nat) (st : List Value) (M : xM) (Q : Option Value → xM → Prop), y0 < 6 → xW xSR 147 47 [.ref a0, .int a1] (.int (nI y0) :: .ref 4 :: st) M Q = xW xSR 147 48 [.ref a0, .int a1] (.int (M 4 y0) :: st) M Q) ∧
  (∀ (a0 : Nat) (a1 : Int32) (st : List Value) (M : xM) (Q : Option Value → xM → Prop), xW xSR 147 48 [.ref a0, .int a1] (st) M Q = xW xSR 147 57 [.ref a0, .int a1] (st) M Q) ∧
  (∀ (a0 : Nat) (a1 : Int32) (st : List Value) (M : xM) (Q : Option Value → xM → Prop), xW xSR 147 51 [.ref a0, .int a1] (st) M Q = xW xSR 147 52 [.ref a0, .int a1] (.ref a0 :: st) M Q) ∧
  (∀ (a0 : Nat) (a1 : Int32) (st : List Value) (M : xM) (Q : Option Value → xM → Prop), xW xSR 147 52 [.ref a0, .int a1] (.ref 0 :: st) M Q = xW xSR 147 55 [.ref a0, .int a1] (.ref 3 :: st) M Q) ∧
  (∀ (a0 : Nat) (a1 : Int32) (st : List Value) (M : xM) (Q : Option Value → xM → Prop), xW xSR 147 55 [.ref a0, .int a1] (st) M Q = xW xSR 147 56 [.ref a0, .int a1] (.int (nI 0) :: st) M Q) ∧
  (∀ (a0 : Nat) (a1 : Int32) (y0 : Nat) (st : List Value) (M : xM) (Q : Option Value → xM → Prop), y0 < 156 → xW xSR 147 56 [.ref a0, .int a1] (.int (nI y0) :: .ref 3 :: st) M Q = xW xSR 147 57 [.ref a0, .int a1] (.int (M 3 y0) :: st) M Q) ∧
  (∀ (a0 : Nat) (a1 : Int32) (st : List Value) (M : xM) (Q : Option Value → xM → Prop), xW xSR 147 58 [.ref a0, .int a1] (st) M Q = xW xSR 147 59 [.ref a0, .int a1] (.int a1 :: st) M Q) ∧
  (∀ (a0 : Nat) (a1 : Int32) (y0 : Int32) (M : xM) (Q : Option Value → xM → Prop), y0 = 0 ∨ y0 = 1 → xW xSR 147 59 [.ref a0, .int a1] ([.int y0]) M Q = Q (some (.int y0)) M) :=
  ⟨fun a0 a1 st M Q => xw_s rfl rfl,
  fun a0 a1 st M Q => xw_s rfl rfl,
  fun a0 a1 y0 M Q => xw_call rfl rfl rfl,
  fun a0 a1 y0 st M Q => xw_br (c0 := y0 = nI 0) rfl rfl,
  fun a0 a1 st M Q => xw_s rfl rfl,
  fun a0 a1 st M Q => xw_s rfl rfl,
  fun a0 a1 st M Q => xw_s rfl rfl,
  fun a0 a1 y0 st M Q h0 => xw_ald rfl rfl rfl (by decide) h0,
  fun a0 a1 y0 st M Q => xw_s rfl rfl,
  fun a0 a1 st M Q => xw_s rfl rfl,
  fun a0 a1 st M Q => xw_s rfl rfl,
  fun a0 a1 y0 y1 y2 M Q => xw_call rfl rfl rfl,
  fun a0 a1 y0 st M Q => xw_br (c0 := y0 = nI 0) rfl rfl,
  fun a0 a1 st M Q => xw_s rfl rfl,
  fun a0 a1 st M Q => xw_s rfl rfl,
  fun a0 a1 st M Q => xw_s rfl rfl,
  fun a0 a1 st M Q => xw_s rfl rfl,
  fun a0 a1 st M Q => xw_s rfl rfl,
  fun a0 a1 st M Q => xw_s rfl rfl,
  fun a0 a1 y0 st M Q => xw_br (c0 := y0 = nI 0) rfl rfl,
  fun a0 a1 st M Q => xw_s rfl rfl,
  fun a0 a1 st M Q => xw_s rfl rfl,
  fun a0 a1 st M Q => xw_s rfl rfl,
  fun a0 a1 y0 st M Q h0 => xw_ald rfl rfl rfl (by decide) h0,
  fun a0 a1 st M Q => xw_s rfl rfl,
  fun a0 a1 st M Q => xw_s rfl rfl,
  fun a0 a1 st M Q => xw_s rfl rfl,
  fun a0 a1 st M Q => xw_s rfl rfl,
  fun a0 a1 y0 st M Q h0 => xw_ald rfl rfl rfl (by decide) h0,
  fun a0 a1 st M Q => xw_s rfl rfl,
  fun a0 a1 y0 M Q h0 => xw_retz rfl rfl h0⟩
set_option maxRecDepth 20000 in
theorem h147_31 :
  (∀ (a0 : Nat) (a1 : Value) (st : List Value) (M : xM) (Q : Option Value → xM → Prop), xW xSR 147 31 [.ref a0, a1] (st) M Q = xW xSR 147 32 [.ref a0, a1] (.int (nI 0) :: st) M Q) :=
  fun a0 a1 st M Q => xw_s rfl rfl
set_option maxRecDepth 20000 in
theorem h147_32 :
  (∀ (a0 : Nat) (a1 : Value) (y0 : Int32) (st : List Value) (M : xM) (Q : Option Value → xM → Prop), xW xSR 147 32 [.ref a0, a1] (.int y0 :: st) M Q = xW xSR 147 33 [.ref a0, .int y0] (st) M Q) :=
  fun a0 a1 y0 st M Q => xw_s rfl rfl
set_option maxRecDepth 20000 in
theorem h147_57 :
  (∀ (a0 : Nat) (a1 : Int32) (y0 : Int32) (y1 : Nat) (st : List Value) (M : xM) (Q : Option Value → xM → Prop), y1 < 156 → xW xSR 147 57 [.ref a0, .int a1] (.int y0 :: .int (nI y1) :: .ref 3 :: st) M Q = xW xSR 147 58 [.ref a0, .int a1] (st) (xup M 3 y1 y0) Q) :=
  fun a0 a1 y0 y1 st M Q h0 => xw_ast (f := fun x => x) rfl rfl rfl (by decide) h0
set_option maxRecDepth 20000 in
theorem j147 :
  (∀ (a0 : Nat) (a1 : Value) (st : List Value) (M : xM) (Q : Option Value → xM → Prop), xW xSR 147 31 [.ref a0, a1] (st) M Q = xW xSR 147 32 [.ref a0, a1] (.int (nI 0) :: st) M Q) ∧
  (∀ (a0 : Nat) (a1 : Value) (y0 : Int32) (st : List Value) (M : xM) (Q : Option Value → xM → Prop), xW xSR 147 32 [.ref a0, a1] (.int y0 :: st) M Q = xW xSR 147 33 [.ref a0, .int y0] (st) M Q) ∧
  (∀ (a0 : Nat) (a1 : Int32) (y0 : Int32) (y1 : Nat) (st : List Value) (M : xM) (Q : Option Value → xM → Prop), y1 < 156 → xW xSR 147 57 [.ref a0, .int a1] (.int y0 :: .int (nI y1) :: .ref 3 :: st) M Q = xW xSR 147 58 [.ref a0, .int a1] (st) (xup M 3 y1 y0) Q) :=
  ⟨fun a0 a1 st M Q => xw_s rfl rfl,
  fun a0 a1 y0 st M Q => xw_s rfl rfl,
  fun a0 a1 y0 y1 st M Q h0 => xw_ast (f := fun x => x) rfl rfl rfl (by decide) h0⟩

set_option maxRecDepth 20000 in
theorem s148 :
  (∀ (a0 : Nat) (a1 : Value) (st : List Value) (M : xM) (Q : Option Value → xM → Prop), xW xSR 148 0 [.ref a0, a1] (st) M Q = xW xSR 148 1 [.ref a0, a1] (.ref a0 :: st) M Q) ∧
  (∀ (a0 : Nat) (a1 : Value) (st : List Value) (M : xM) (Q : Option Value → xM → Prop), xW xSR 148 1 [.ref a0, a1] (.ref 0 :: st) M Q = xW xSR 148 4 [.ref a0, a1] (.ref 3 :: st) M Q) ∧
  (∀ (a0 : Nat) (a1 : Value) (st : List Value) (M : xM) (Q : Option Value → xM → Prop), xW xSR 148 4 [.ref a0, a1] (st) M Q = xW xSR 148 5 [.ref a0, a1] (.int (nI 1) :: st) M Q) ∧
  (∀ (a0 : Nat) (a1 : Value) (y0 : Nat) (st : List Value) (M : xM) (Q : Option Value → xM → Prop), y0 < 156 → xW xSR 148 5 [.ref a0, a1] (.int (nI y0) :: .ref 3 :: st) M Q = xW xSR 148 6 [.ref a0, a1] (.int (M 3 y0) :: st) M Q) ∧
  (∀ (a0 : Nat) (a1 : Value) (st : List Value) (M : xM) (Q : Option Value → xM → Prop), xW xSR 148 6 [.ref a0, a1] (st) M Q = xW xSR 148 8 [.ref a0, a1] (.int (nI 8) :: st) M Q) ∧
  (∀ (a0 : Nat) (a1 : Value) (y0 : Int32) (y1 : Int32) (st : List Value) (M : xM) (Q : Option Value → xM → Prop), xW xSR 148 8 [.ref a0, a1] (.int y0 :: .int y1 :: st) M Q = if y1 < y0 then xW xSR 148 11 [.ref a0, a1] (st) M Q else xW xSR 148 95 [.ref a0, a1] (st) M Q) ∧
  (∀ (a0 : Nat) (a1 : Value) (st : List Value) (M : xM) (Q : Option Value → xM → Prop), xW xSR 148 11 [.ref a0, a1] (st) M Q = xW xSR 148 12 [.ref a0, a1] (.ref a0 :: st) M Q) ∧
  (∀ (a0 : Nat) (a1 : Value) (st : List Value) (M : xM) (Q : Option Value → xM → Prop), xW xSR 148 12 [.ref a0, a1] (st) M Q = xW xSR 148 13 [.ref a0, a1] (.int (nI 4) :: st) M Q) ∧
  (∀ (a0 : Nat) (a1 : Value) (y0 : Int32) (M : xM) (Q : Option Value → xM → Prop), xW xSR 148 13 [.ref a0, a1] (.int y0 :: .ref 0 :: []) M Q = xW xSR 146 0 [.ref 0, .int y0, .null, .null, .null, .null] [] M (fun v M' => xW xSR 148 16 [.ref a0, a1] (xpush v []) M' Q)) ∧
  (∀ (a0 : Nat) (a1 : Value) (y0 : Int32) (st : List Value) (M : xM) (Q : Option Value → xM → Prop), xW xSR 148 16 [.ref a0, a1] (.int y0 :: st) M Q = if y0 = nI 0 then xW xSR 148 95 [.ref a0, a1] (st) M Q else xW xSR 148 19 [.ref a0, a1] (st) M Q) ∧
  (∀ (a0 : Nat) (a1 : Value) (st : List Value) (M : xM) (Q : Option Value → xM → Prop), xW xSR 148 19 [.ref a0, a1] (st) M Q = xW xSR 148 20 [.ref a0, a1] (.ref a0 :: st) M Q) ∧
  (∀ (a0 : Nat) (a1 : Value) (st : List Value) (M : xM) (Q : Option Value → xM → Prop), xW xSR 148 20 [.ref a0, a1] (.ref 0 :: st) M Q = xW xSR 148 23 [.ref a0, a1] (.ref 4 :: st) M Q) ∧
  (∀ (a0 : Nat) (a1 : Value) (st : List Value) (M : xM) (Q : Option Value → xM → Prop), xW xSR 148 23 [.ref a0, a1] (st) M Q = xW xSR 148 24 [.ref a0, a1] (.int (nI 0) :: st) M Q) ∧
  (∀ (a0 : Nat) (a1 : Value) (y0 : Nat) (st : List Value) (M : xM) (Q : Option Value → xM → Prop), y0 < 6 → xW xSR 148 24 [.ref a0, a1] (.int (nI y0) :: .ref 4 :: st) M Q = xW xSR 148 25 [.ref a0, a1] (.int (M 4 y0) :: st) M Q) ∧
  (∀ (a0 : Nat) (a1 : Value) (st : List Value) (M : xM) (Q : Option Value → xM → Prop), xW xSR 148 25 [.ref a0, a1] (st) M Q = xW xSR 148 26 [.ref a0, a1] (.ref a0 :: st) M Q) ∧
  (∀ (a0 : Nat) (a1 : Value) (st : List Value) (M : xM) (Q : Option Value → xM → Prop), xW xSR 148 26 [.ref a0, a1] (.ref 0 :: st) M Q = xW xSR 148 29 [.ref a0, a1] (.ref 3 :: st) M Q) ∧
  (∀ (a0 : Nat) (a1 : Value) (st : List Value) (M : xM) (Q : Option Value → xM → Prop), xW xSR 148 29 [.ref a0, a1] (st) M Q = xW xSR 148 30 [.ref a0, a1] (.int (nI 0) :: st) M Q) ∧
  (∀ (a0 : Nat) (a1 : Value) (y0 : Nat) (st : List Value) (M : xM) (Q : Option Value → xM → Prop), y0 < 156 → xW xSR 148 30 [.ref a0, a1] (.int (nI y0) :: .ref 3 :: st) M Q = xW xSR 148 31 [.ref a0, a1] (.int (M 3 y0) :: st) M Q) ∧
  (∀ (a0 : Nat) (a1 : Value) (y0 : Int32) (y1 : Int32) (st : List Value) (M : xM) (Q : Option Value → xM → Prop), xW xSR 148 31 [.ref a0, a1] (.int y0 :: .int y1 :: st) M Q = if y1 < y0 then xW xSR 148 34 [.ref a0, a1] (st) M Q else xW xSR 148 95 [.ref a0, a1] (st) M Q) ∧
  (∀ (a0 : Nat) (a1 : Value) (st : List Value) (M : xM) (Q : Option Value → xM → Prop), xW xSR 148 34 [.ref a0, a1] (st) M Q = xW xSR 148 35 [.ref a0, a1] (.ref a0 :: st) M Q) ∧
  (∀ (a0 : Nat) (a1 : Value) (st : List Value) (M : xM) (Q : Option Value → xM → Prop), xW xSR 148 35 [.ref a0, a1] (.ref 0 :: st) M Q = xW xSR 148 38 [.ref a0, a1] (.ref 4 :: st) M Q) ∧
  (∀ (a0 : Nat) (a1 : Value) (st : List Value) (M : xM) (Q : Option Value → xM → Prop), xW xSR 148 38 [.ref a0, a1] (st) M Q = xW xSR 148 39 [.ref a0, a1] (.int (nI 1) :: st) M Q) ∧
  (∀ (a0 : Nat) (a1 : Value) (y0 : Nat) (st : List Value) (M : xM) (Q : Option Value → xM → Prop), y0 < 6 → xW xSR 148 39 [.ref a0, a1] (.int (nI y0) :: .ref 4 :: st) M Q = xW xSR 148 40 [.ref a0, a1] (.int (M 4 y0) :: st) M Q) ∧
  (∀ (a0 : Nat) (a1 : Value) (st : List Value) (M : xM) (Q : Option Value → xM → Prop), xW xSR 148 40 [.ref a0, a1] (st) M Q = xW xSR 148 41 [.ref a0, a1] (.ref a0 :: st) M Q) ∧
  (∀ (a0 : Nat) (a1 : Value) (st : List Value) (M : xM) (Q : Option Value → xM → Prop), xW xSR 148 41 [.ref a0, a1] (.ref 0 :: st) M Q = xW xSR 148 44 [.ref a0, a1] (.ref 3 :: st) M Q) ∧
  (∀ (a0 : Nat) (a1 : Value) (st : List Value) (M : xM) (Q : Option Value → xM → Prop), xW xSR 148 44 [.ref a0, a1] (st) M Q = xW xSR 148 45 [.ref a0, a1] (.int (nI 0) :: st) M Q) ∧
  (∀ (a0 : Nat) (a1 : Value) (y0 : Nat) (st : List Value) (M : xM) (Q : Option Value → xM → Prop), y0 < 156 → xW xSR 148 45 [.ref a0, a1] (.int (nI y0) :: .ref 3 :: st) M Q = xW xSR 148 46 [.ref a0, a1] (.int (M 3 y0) :: st) M Q) ∧
  (∀ (a0 : Nat) (a1 : Value) (y0 : Int32) (y1 : Int32) (st : List Value) (M : xM) (Q : Option Value → xM → Prop), xW xSR 148 46 [.ref a0, a1] (.int y0 :: .int y1 :: st) M Q = if y1 < y0 then xW xSR 148 49 [.ref a0, a1] (st) M Q else xW xSR 148 95 [.ref a0, a1] (st) M Q) ∧
  (∀ (a0 : Nat) (a1 : Value) (st : List Value) (M : xM) (Q : Option Value → xM → Prop), xW xSR 148 49 [.ref a0, a1] (st) M Q = xW xSR 148 50 [.ref a0, a1] (.ref a0 :: st) M Q) ∧
  (∀ (a0 : Nat) (a1 : Value) (st : List Value) (M : xM) (Q : Option Value → xM → Prop), xW xSR 148 50 [.ref a0, a1] (.ref 0 :: st) M Q = xW xSR 148 53 [.ref a0, a1] (.ref 4 :: st) M Q) ∧
  (∀ (a0 : Nat) (a1 : Value) (st : List Value) (M : xM) (Q : Option Value → xM → Prop), xW xSR 148 53 [.ref a0, a1] (st) M Q = xW xSR 148 54 [.ref a0, a1] (.int (nI 0) :: st) M Q) ∧
  (∀ (a0 : Nat) (a1 : Value) (y0 : Nat) (st : List Value) (M : xM) (Q : Option Value → xM → Prop), y0 < 6 → xW xSR 148 54 [.ref a0, a1] (.int (nI y0) :: .ref 4 :: st) M Q = xW xSR 148 55 [.ref a0, a1] (.int (M 4 y0) :: st) M Q) ∧
  (∀ (a0 : Nat) (a1 : Value) (st : List Value) (M : xM) (Q : Option Value → xM → Prop), xW xSR 148 55 [.ref a0, a1] (st) M Q = xW xSR 148 56 [.ref a0, a1] (.ref a0 :: st) M Q) ∧
  (∀ (a0 : Nat) (a1 : Value) (st : List Value) (M : xM) (Q : Option Value → xM → Prop), xW xSR 148 56 [.ref a0, a1] (.ref 0 :: st) M Q = xW xSR 148 59 [.ref a0, a1] (.ref 4 :: st) M Q) ∧
  (∀ (a0 : Nat) (a1 : Value) (st : List Value) (M : xM) (Q : Option Value → xM → Prop), xW xSR 148 59 [.ref a0, a1] (st) M Q = xW xSR 148 60 [.ref a0, a1] (.int (nI 1) :: st) M Q) ∧
  (∀ (a0 : Nat) (a1 : Value) (y0 : Nat) (st : List Value) (M : xM) (Q : Option Value → xM → Prop), y0 < 6 → xW xSR 148 60 [.ref a0, a1] (.int (nI y0) :: .ref 4 :: st) M Q = xW xSR 148 61 [.ref a0, a1] (.int (M 4 y0) :: st) M Q) ∧
  (∀ (a0 : Nat) (a1 : Value) (y0 : Int32) (y1 : Int32) (st : List Value) (M : xM) (Q : Option Value → xM → Prop), xW xSR 148 61 [.ref a0, a1] (.int y0 :: .int y1 :: st) M Q = if y1 = y0 then xW xSR 148 95 [.ref a0, a1] (st) M Q else xW xSR 148 64 [.ref a0, a1] (st) M Q) ∧
  (∀ (a0 : Nat) (a1 : Value) (st : List Value) (M : xM) (Q : Option Value → xM → Prop), xW xSR 148 64 [.ref a0, a1] (st) M Q = xW xSR 148 65 [.ref a0, a1] (.ref a0 :: st) M Q) ∧
  (∀ (a0 : Nat) (a1 : Value) (st : List Value) (M : xM) (Q : Option Value → xM → Prop), xW xSR 148 65 [.ref a0, a1] (.ref 0 :: st) M Q = xW xSR 148 68 [.ref a0, a1] (.ref 4 :: st) M Q) ∧
  (∀ (a0 : Nat) (a1 : Value) (st : List Value) (M : xM) (Q : Option Value → xM → Prop), xW xSR 148 68 [.ref a0, a1] (st) M Q = xW xSR 148 69 [.ref a0, a1] (.int (nI 2) :: st) M Q) ∧
  (∀ (a0 : Nat) (a1 : Value) (y0 : Nat) (st : List Value) (M : xM) (Q : Option Value → xM → Prop), y0 < 6 → xW xSR 148 69 [.ref a0, a1] (.int (nI y0) :: .ref 4 :: st) M Q = xW xSR 148 70 [.ref a0, a1] (.int (M 4 y0) :: st) M Q) ∧
  (∀ (a0 : Nat) (a1 : Value) (st : List Value) (M : xM) (Q : Option Value → xM → Prop), xW xSR 148 70 [.ref a0, a1] (st) M Q = xW xSR 148 71 [.ref a0, a1] (.int (nI 3) :: st) M Q) ∧
  (∀ (a0 : Nat) (a1 : Value) (y0 : Int32) (y1 : Int32) (st : List Value) (M : xM) (Q : Option Value → xM → Prop), xW xSR 148 71 [.ref a0, a1] (.int y0 :: .int y1 :: st) M Q = if y1 < y0 then xW xSR 148 74 [.ref a0, a1] (st) M Q else xW xSR 148 95 [.ref a0, a1] (st) M Q) ∧
  (∀ (a0 : Nat) (a1 : Value) (st : List Value) (M : xM) (Q : Option Value → xM → Prop), xW xSR 148 74 [.ref a0, a1] (st) M Q = xW xSR 148 75 [.ref a0, a1] (.ref a0 :: st) M Q) ∧
  (∀ (a0 : Nat) (a1 : Value) (st : List Value) (M : xM) (Q : Option Value → xM → Prop), xW xSR 148 75 [.ref a0, a1] (.ref 0 :: st) M Q = xW xSR 148 78 [.ref a0, a1] (.ref 4 :: st) M Q) ∧
  (∀ (a0 : Nat) (a1 : Value) (st : List Value) (M : xM) (Q : Option Value → xM → Prop), xW xSR 148 78 [.ref a0, a1] (st) M Q = xW xSR 148 79 [.ref a0, a1] (.int (nI 3) :: st) M Q) ∧
  (∀ (a0 : Nat) (a1 : Value) (y0 : Nat) (st : List Value) (M : xM) (Q : Option Value → xM → Prop), y0 < 6 → xW xSR 148 79 [.ref a0, a1] (.int (nI y0) :: .ref 4 :: st) M Q = xW xSR 148 80 [.ref a0, a1] (.int (M 4 y0) :: st) M Q) ∧
  (∀ (a0 : Nat) (a1 : Value) (y0 : Int32) (st : List Value) (M : xM) (Q : Option Value → xM → Prop), xW xSR 148 80 [.ref a0, a1] (.int y0 :: st) M Q = xW xSR 148 81 [.ref a0, a1] (.long y0.toInt64 :: st) M Q) ∧
  (∀ (a0 : Nat) (a1 : Value) (st : List Value) (M : xM) (Q : Option Value → xM → Prop), xW xSR 148 81 [.ref a0, a1] (st) M Q = xW xSR 148 82 [.ref a0, a1] (.long (lN 1) :: st) M Q) ∧
  (∀ (a0 : Nat) (a1 : Value) (st : List Value) (M : xM) (Q : Option Value → xM → Prop), xW xSR 148 82 [.ref a0, a1] (st) M Q = xW xSR 148 85 [.ref a0, a1] (.long (lN 2) :: st) M Q) ∧
  (∀ (a0 : Nat) (a1 : Value) (y0 : Int64) (y1 : Int64) (y2 : Int64) (M : xM) (Q : Option Value → xM → Prop), xW xSR 148 85 [.ref a0, a1] (.long y0 :: .long y1 :: .long y2 :: []) M Q = xW xSR 135 0 [.long y2, .null, .long y1, .null, .long y0, .null] [] M (fun v M' => xW xSR 148 88 [.ref a0, a1] (xpush v []) M' Q)) ∧
  (∀ (a0 : Nat) (a1 : Value) (y0 : Int32) (st : List Value) (M : xM) (Q : Option Value → xM → Prop), xW xSR 148 88 [.ref a0, a1] (.int y0 :: st) M Q = if y0 = nI 0 then xW xSR 148 95 [.ref a0, a1] (st) M Q else xW xSR 148 91 [.ref a0, a1] (st) M Q) ∧
  (∀ (a0 : Nat) (a1 : Value) (st : List Value) (M : xM) (Q : Option Value → xM → Prop), xW xSR 148 91 [.ref a0, a1] (st) M Q = xW xSR 148 92 [.ref a0, a1] (.int (nI 1) :: st) M Q) ∧
  (∀ (a0 : Nat) (a1 : Value) (st : List Value) (M : xM) (Q : Option Value → xM → Prop), xW xSR 148 92 [.ref a0, a1] (st) M Q = xW xSR 148 96 [.ref a0, a1] (st) M Q) ∧
  (∀ (a0 : Nat) (a1 : Int32) (st : List Value) (M : xM) (Q : Option Value → xM → Prop), xW xSR 148 97 [.ref a0, .int a1] (st) M Q = xW xSR 148 98 [.ref a0, .int a1] (.int a1 :: st) M Q) ∧
  (∀ (a0 : Nat) (a1 : Int32) (y0 : Int32) (st : List Value) (M : xM) (Q : Option Value → xM → Prop), xW xSR 148 98 [.ref a0, .int a1] (.int y0 :: st) M Q = if y0 = nI 0 then xW xSR 148 148 [.ref a0, .int a1] (st) M Q else xW xSR 148 101 [.ref a0, .int a1] (st) M Q) ∧
  (∀ (a0 : Nat) (a1 : Int32) (st : List Value) (M : xM) (Q : Option Value → xM → Prop), xW xSR 148 101 [.ref a0, .int a1] (st) M Q = xW xSR 148 102 [.ref a0, .int a1] (.ref a0 :: st) M Q) ∧
  (∀ (a0 : Nat) (a1 : Int32) (st : List Value) (M : xM) (Q : Option Value → xM → Prop), xW xSR 148 102 [.ref a0, .int a1] (.ref 0 :: st) M Q = xW xSR 148 105 [.ref a0, .int a1] (.ref 3 :: st) M Q) ∧
  (∀ (a0 : Nat) (a1 : Int32) (st : List Value) (M : xM) (Q : Option Value → xM → Prop), xW xSR 148 105 [.ref a0, .int a1] (st) M Q = xW xSR 148 106 [.ref a0, .int a1] (.ref a0 :: st) M Q) ∧
  (∀ (a0 : Nat) (a1 : Int32) (st : List Value) (M : xM) (Q : Option Value → xM → Prop), xW xSR 148 106 [.ref a0, .int a1] (.ref 0 :: st) M Q = xW xSR 148 109 [.ref a0, .int a1] (.ref 3 :: st) M Q) ∧
  (∀ (a0 : Nat) (a1 : Int32) (st : List Value) (M : xM) (Q : Option Value → xM → Prop), xW xSR 148 109 [.ref a0, .int a1] (st) M Q = xW xSR 148 110 [.ref a0, .int a1] (.int (nI 1) :: st) M Q) ∧
  (∀ (a0 : Nat) (a1 : Int32) (y0 : Nat) (st : List Value) (M : xM) (Q : Option Value → xM → Prop), y0 < 156 → xW xSR 148 110 [.ref a0, .int a1] (.int (nI y0) :: .ref 3 :: st) M Q = xW xSR 148 111 [.ref a0, .int a1] (.int (M 3 y0) :: st) M Q) ∧
  (∀ (a0 : Nat) (a1 : Int32) (st : List Value) (M : xM) (Q : Option Value → xM → Prop), xW xSR 148 111 [.ref a0, .int a1] (st) M Q = xW xSR 148 112 [.ref a0, .int a1] (.ref a0 :: st) M Q) ∧
  (∀ (a0 : Nat) (a1 : Int32) (st : List Value) (M : xM) (Q : Option Value → xM → Prop), xW xSR 148 112 [.ref a0, .int a1] (.ref 0 :: st) M Q = xW xSR 148 115 [.ref a0, .int a1] (.ref 4 :: st) M Q) ∧
  (∀ (a0 : Nat) (a1 : Int32) (st : List Value) (M : xM) (Q : Option Value → xM → Prop), xW xSR 148 115 [.ref a0, .int a1] (st) M Q = xW xSR 148 116 [.ref a0, .int a1] (.int (nI 0) :: st) M Q) ∧
  (∀ (a0 : Nat) (a1 : Int32) (y0 : Nat) (st : List Value) (M : xM) (Q : Option Value → xM → Prop), y0 < 6 → xW xSR 148 116 [.ref a0, .int a1] (.int (nI y0) :: .ref 4 :: st) M Q = xW xSR 148 117 [.ref a0, .int a1] (.int (M 4 y0) :: st) M Q) ∧
  (∀ (a0 : Nat) (a1 : Int32) (st : List Value) (M : xM) (Q : Option Value → xM → Prop), xW xSR 148 117 [.ref a0, .int a1] (st) M Q = xW xSR 148 118 [.ref a0, .int a1] (.ref a0 :: st) M Q) ∧
  (∀ (a0 : Nat) (a1 : Int32) (st : List Value) (M : xM) (Q : Option Value → xM → Prop), xW xSR 148 118 [.ref a0, .int a1] (.ref 0 :: st) M Q = xW xSR 148 121 [.ref a0, .int a1] (.ref 4 :: st) M Q) ∧
  (∀ (a0 : Nat) (a1 : Int32) (st : List Value) (M : xM) (Q : Option Value → xM → Prop), xW xSR 148 121 [.ref a0, .int a1] (st) M Q = xW xSR 148 122 [.ref a0, .int a1] (.int (nI 1) :: st) M Q) ∧
  (∀ (a0 : Nat) (a1 : Int32) (y0 : Nat) (st : List Value) (M : xM) (Q : Option Value → xM → Prop), y0 < 6 → xW xSR 148 122 [.ref a0, .int a1] (.int (nI y0) :: .ref 4 :: st) M Q = xW xSR 148 123 [.ref a0, .int a1] (.int (M 4 y0) :: st) M Q) ∧
  (∀ (a0 : Nat) (a1 : Int32) (st : List Value) (M : xM) (Q : Option Value → xM → Prop), xW xSR 148 123 [.ref a0, .int a1] (st) M Q = xW xSR 148 124 [.ref a0, .int a1] (.ref a0 :: st) M Q) ∧
  (∀ (a0 : Nat) (a1 : Int32) (st : List Value) (M : xM) (Q : Option Value → xM → Prop), xW xSR 148 124 [.ref a0, .int a1] (.ref 0 :: st) M Q = xW xSR 148 127 [.ref a0, .int a1] (.ref 4 :: st) M Q) ∧
  (∀ (a0 : Nat) (a1 : Int32) (st : List Value) (M : xM) (Q : Option Value → xM → Prop), xW xSR 148 127 [.ref a0, .int a1] (st) M Q = xW xSR 148 128 [.ref a0, .int a1] (.int (nI 2) :: st) M Q) ∧
  (∀ (a0 : Nat) (a1 : Int32) (y0 : Nat) (st : List Value) (M : xM) (Q : Option Value → xM → Prop), y0 < 6 → xW xSR 148 128 [.ref a0, .int a1] (.int (nI y0) :: .ref 4 :: st) M Q = xW xSR 148 129 [.ref a0, .int a1] (.int (M 4 y0) :: st) M Q) ∧
  (∀ (a0 : Nat) (a1 : Int32) (st : List Value) (M : xM) (Q : Option Value → xM → Prop), xW xSR 148 129 [.ref a0, .int a1] (st) M Q = xW xSR 148 130 [.ref a0, .int a1] (.ref a0 :: st) M Q) ∧
  (∀ (a0 : Nat) (a1 : Int32) (st : List Value) (M : xM) (Q : Option Value → xM → Prop), xW xSR 148 130 [.ref a0, .int a1] (.ref 0 :: st) M Q = xW xSR 148 133 [.ref a0, .int a1] (.ref 4 :: st) M Q) ∧
  (∀ (a0 : Nat) (a1 : Int32) (st : List Value) (M : xM) (Q : Option Value → xM → Prop), xW xSR 148 133 [.ref a0, .int a1] (st) M Q = xW xSR 148 134 [.ref a0, .int a1] (.int (nI 3) :: st) M Q) ∧
  (∀ (a0 : Nat) (a1 : Int32) (y0 : Nat) (st : List Value) (M : xM) (Q : Option Value → xM → Prop), y0 < 6 → xW xSR 148 134 [.ref a0, .int a1] (.int (nI y0) :: .ref 4 :: st) M Q = xW xSR 148 135 [.ref a0, .int a1] (.int (M 4 y0) :: st) M Q) ∧
  (∀ (a0 : Nat) (a1 : Int32) (y0 : Int32) (y1 : Int32) (y2 : Int32) (y3 : Int32) (y4 : Int32) (y5 : Nat) (M : xM) (Q : Option Value → xM → Prop), xW xSR 148 135 [.ref a0, .int a1] (.int y0 :: .int y1 :: .int y2 :: .int y3 :: .int y4 :: .ref y5 :: []) M Q = xW xSR 138 0 [.ref y5, .int y4, .int y3, .int y2, .int y1, .int y0, .null] [] M (fun v M' => xW xSR 148 138 [.ref a0, .int a1] (xpush v []) M' Q)) ∧
  (∀ (a0 : Nat) (a1 : Int32) (st : List Value) (M : xM) (Q : Option Value → xM → Prop), xW xSR 148 138 [.ref a0, .int a1] (st) M Q = xW xSR 148 139 [.ref a0, .int a1] (.ref a0 :: st) M Q) ∧
  (∀ (a0 : Nat) (a1 : Int32) (st : List Value) (M : xM) (Q : Option Value → xM → Prop), xW xSR 148 139 [.ref a0, .int a1] (.ref 0 :: st) M Q = xW xSR 148 142 [.ref a0, .int a1] (.ref 3 :: st) M Q) ∧
  (∀ (a0 : Nat) (a1 : Int32) (st : List Value) (M : xM) (Q : Option Value → xM → Prop), xW xSR 148 142 [.ref a0, .int a1] (st) M Q = xW xSR 148 143 [.ref a0, .int a1] (.int (nI 1) :: st) M Q) ∧
  (∀ (a0 : Nat) (a1 : Int32) (y0 : Int32) (y1 : Nat) (st : List Value) (M : xM) (Q : Option Value → xM → Prop), xW xSR 148 143 [.ref a0, .int a1] (.int y0 :: .ref y1 :: st) M Q = xW xSR 148 144 [.ref a0, .int a1] (.int y0 :: .ref y1 :: .int y0 :: .ref y1 :: st) M Q) ∧
  (∀ (a0 : Nat) (a1 : Int32) (y0 : Nat) (st : List Value) (M : xM) (Q : Option Value → xM → Prop), y0 < 156 → xW xSR 148 144 [.ref a0, .int a1] (.int (nI y0) :: .ref 3 :: st) M Q = xW xSR 148 145 [.ref a0, .int a1] (.int (M 3 y0) :: st) M Q) ∧
  (∀ (a0 : Nat) (a1 : Int32) (st : List Value) (M : xM) (Q : Option Value → xM → Prop), xW xSR 148 145 [.ref a0, .int a1] (st) M Q = xW xSR 148 146 [.ref a0, .int a1] (.int (nI 1) :: st) M Q) ∧
  (∀ (a0 : Nat) (a1 : Int32) (y0 : Int32) (y1 : Int32) (st : List Value) (M : xM) (Q : Option Value → xM → Prop), xW xSR 148 146 [.ref a0, .int a1] (.int y0 :: .int y1 :: st) M Q = xW xSR 148 147 [.ref a0, .int a1] (.int (y1 + y0) :: st) M Q) ∧
  (∀ (a0 : Nat) (a1 : Int32) (y0 : Int32) (y1 : Nat) (st : List Value) (M : xM) (Q : Option Value → xM → Prop), y1 < 156 → xW xSR 148 147 [.ref a0, .int a1] (.int y0 :: .int (nI y1) :: .ref 3 :: st) M Q = xW xSR 148 148 [.ref a0, .int a1] (st) (xup M 3 y1 y0) Q) ∧
  (∀ (a0 : Nat) (a1 : Int32) (y0 : Int32) (M : xM) (Q : Option Value → xM → Prop), y0 = 0 ∨ y0 = 1 → xW xSR 148 149 [.ref a0, .int a1] ([.int y0]) M Q = Q (some (.int y0)) M) :=
  ⟨fun a0 a1 st M Q => xw_s rfl rfl,
  fun a0 a1 st M Q => xw_s rfl rfl,
  fun a0 a1 st M Q => xw_s rfl rfl,
  fun a0 a1 y0 st M Q h0 => xw_ald rfl rfl rfl (by decide) h0,
  fun a0 a1 st M Q => xw_s rfl rfl,
  fun a0 a1 y0 y1 st M Q => xw_brn (c0 := y0 ≤ y1) (c1 := y1 < y0) rfl rfl (xge _ _),
  fun a0 a1 st M Q => xw_s rfl rfl,
  fun a0 a1 st M Q => xw_s rfl rfl,
  fun a0 a1 y0 M Q => xw_call rfl rfl rfl,
  fun a0 a1 y0 st M Q => xw_br (c0 := y0 = nI 0) rfl rfl,
  fun a0 a1 st M Q => xw_s rfl rfl,
  fun a0 a1 st M Q => xw_s rfl rfl,
  fun a0 a1 st M Q => xw_s rfl rfl,
  fun a0 a1 y0 st M Q h0 => xw_ald rfl rfl rfl (by decide) h0,
  fun a0 a1 st M Q => xw_s rfl rfl,
  fun a0 a1 st M Q => xw_s rfl rfl,
  fun a0 a1 st M Q => xw_s rfl rfl,
  fun a0 a1 y0 st M Q h0 => xw_ald rfl rfl rfl (by decide) h0,
  fun a0 a1 y0 y1 st M Q => xw_brn (c0 := y0 ≤ y1) (c1 := y1 < y0) rfl rfl (xge _ _),
  fun a0 a1 st M Q => xw_s rfl rfl,
  fun a0 a1 st M Q => xw_s rfl rfl,
  fun a0 a1 st M Q => xw_s rfl rfl,
  fun a0 a1 y0 st M Q h0 => xw_ald rfl rfl rfl (by decide) h0,
  fun a0 a1 st M Q => xw_s rfl rfl,
  fun a0 a1 st M Q => xw_s rfl rfl,
  fun a0 a1 st M Q => xw_s rfl rfl,
  fun a0 a1 y0 st M Q h0 => xw_ald rfl rfl rfl (by decide) h0,
  fun a0 a1 y0 y1 st M Q => xw_brn (c0 := y0 ≤ y1) (c1 := y1 < y0) rfl rfl (xge _ _),
  fun a0 a1 st M Q => xw_s rfl rfl,
  fun a0 a1 st M Q => xw_s rfl rfl,
  fun a0 a1 st M Q => xw_s rfl rfl,
  fun a0 a1 y0 st M Q h0 => xw_ald rfl rfl rfl (by decide) h0,
  fun a0 a1 st M Q => xw_s rfl rfl,
  fun a0 a1 st M Q => xw_s rfl rfl,
  fun a0 a1 st M Q => xw_s rfl rfl,
  fun a0 a1 y0 st M Q h0 => xw_ald rfl rfl rfl (by decide) h0,
  fun a0 a1 y0 y1 st M Q => xw_br (c0 := y1 = y0) rfl rfl,
  fun a0 a1 st M Q => xw_s rfl rfl,
  fun a0 a1 st M Q => xw_s rfl rfl,
  fun a0 a1 st M Q => xw_s rfl rfl,
  fun a0 a1 y0 st M Q h0 => xw_ald rfl rfl rfl (by decide) h0,
  fun a0 a1 st M Q => xw_s rfl rfl,
  fun a0 a1 y0 y1 st M Q => xw_brn (c0 := y0 ≤ y1) (c1 := y1 < y0) rfl rfl (xge _ _),
  fun a0 a1 st M Q => xw_s rfl rfl,
  fun a0 a1 st M Q => xw_s rfl rfl,
  fun a0 a1 st M Q => xw_s rfl rfl,
  fun a0 a1 y0 st M Q h0 => xw_ald rfl rfl rfl (by decide) h0,
  fun a0 a1 y0 st M Q => xw_s rfl rfl,
  fun a0 a1 st M Q => xw_s rfl rfl,
  fun a0 a1 st M Q => xw_s rfl rfl,
  fun a0 a1 y0 y1 y2 M Q => xw_call rfl rfl rfl,
  fun a0 a1 y0 st M Q => xw_br (c0 := y0 = nI 0) rfl rfl,
  fun a0 a1 st M Q => xw_s rfl rfl,
  fun a0 a1 st M Q => xw_s rfl rfl,
  fun a0 a1 st M Q => xw_s rfl rfl,
  fun a0 a1 y0 st M Q => xw_br (c0 := y0 = nI 0) rfl rfl,
  fun a0 a1 st M Q => xw_s rfl rfl,
  fun a0 a1 st M Q => xw_s rfl rfl,
  fun a0 a1 st M Q => xw_s rfl rfl,
  fun a0 a1 st M Q => xw_s rfl rfl,
  fun a0 a1 st M Q => xw_s rfl rfl,
  fun a0 a1 y0 st M Q h0 => xw_ald rfl rfl rfl (by decide) h0,
  fun a0 a1 st M Q => xw_s rfl rfl,
  fun a0 a1 st M Q => xw_s rfl rfl,
  fun a0 a1 st M Q => xw_s rfl rfl,
  fun a0 a1 y0 st M Q h0 => xw_ald rfl rfl rfl (by decide) h0,
  fun a0 a1 st M Q => xw_s rfl rfl,
  fun a0 a1 st M Q => xw_s rfl rfl,
  fun a0 a1 st M Q => xw_s rfl rfl,
  fun a0 a1 y0 st M Q h0 => xw_ald rfl rfl rfl (by decide) h0,
  fun a0 a1 st M Q => xw_s rfl rfl,
  fun a0 a1 st M Q => xw_s rfl rfl,
  fun a0 a1 st M Q => xw_s rfl rfl,
  fun a0 a1 y0 st M Q h0 => xw_ald rfl rfl rfl (by decide) h0,
  fun a0 a1 st M Q => xw_s rfl rfl,
  fun a0 a1 st M Q => xw_s rfl rfl,
  fun a0 a1 st M Q => xw_s rfl rfl,
  fun a0 a1 y0 st M Q h0 => xw_ald rfl rfl rfl (by decide) h0,
  fun a0 a1 y0 y1 y2 y3 y4 y5 M Q => xw_call rfl rfl rfl,
  fun a0 a1 st M Q => xw_s rfl rfl,
  fun a0 a1 st M Q => xw_s rfl rfl,
  fun a0 a1 st M Q => xw_s rfl rfl,
  fun a0 a1 y0 y1 st M Q => xw_s rfl rfl,
  fun a0 a1 y0 st M Q h0 => xw_ald rfl rfl rfl (by decide) h0,
  fun a0 a1 st M Q => xw_s rfl rfl,
  fun a0 a1 y0 y1 st M Q => xw_s rfl rfl,
  fun a0 a1 y0 y1 st M Q h0 => xw_ast (f := fun x => x) rfl rfl rfl (by decide) h0,
  fun a0 a1 y0 M Q h0 => xw_retz rfl rfl h0⟩
set_option maxRecDepth 20000 in
theorem h148_95 :
  (∀ (a0 : Nat) (a1 : Value) (st : List Value) (M : xM) (Q : Option Value → xM → Prop), xW xSR 148 95 [.ref a0, a1] (st) M Q = xW xSR 148 96 [.ref a0, a1] (.int (nI 0) :: st) M Q) :=
  fun a0 a1 st M Q => xw_s rfl rfl
set_option maxRecDepth 20000 in
theorem h148_96 :
  (∀ (a0 : Nat) (a1 : Value) (y0 : Int32) (st : List Value) (M : xM) (Q : Option Value → xM → Prop), xW xSR 148 96 [.ref a0, a1] (.int y0 :: st) M Q = xW xSR 148 97 [.ref a0, .int y0] (st) M Q) :=
  fun a0 a1 y0 st M Q => xw_s rfl rfl
set_option maxRecDepth 20000 in
theorem h148_148 :
  (∀ (a0 : Nat) (a1 : Int32) (st : List Value) (M : xM) (Q : Option Value → xM → Prop), xW xSR 148 148 [.ref a0, .int a1] (st) M Q = xW xSR 148 149 [.ref a0, .int a1] (.int a1 :: st) M Q) :=
  fun a0 a1 st M Q => xw_s rfl rfl
set_option maxRecDepth 20000 in
theorem j148 :
  (∀ (a0 : Nat) (a1 : Value) (st : List Value) (M : xM) (Q : Option Value → xM → Prop), xW xSR 148 95 [.ref a0, a1] (st) M Q = xW xSR 148 96 [.ref a0, a1] (.int (nI 0) :: st) M Q) ∧
  (∀ (a0 : Nat) (a1 : Value) (y0 : Int32) (st : List Value) (M : xM) (Q : Option Value → xM → Prop), xW xSR 148 96 [.ref a0, a1] (.int y0 :: st) M Q = xW xSR 148 97 [.ref a0, .int y0] (st) M Q) ∧
  (∀ (a0 : Nat) (a1 : Int32) (st : List Value) (M : xM) (Q : Option Value → xM → Prop), xW xSR 148 148 [.ref a0, .int a1] (st) M Q = xW xSR 148 149 [.ref a0, .int a1] (.int a1 :: st) M Q) :=
  ⟨fun a0 a1 st M Q => xw_s rfl rfl,
  fun a0 a1 y0 st M Q => xw_s rfl rfl,
  fun a0 a1 st M Q => xw_s rfl rfl⟩

set_option maxRecDepth 20000 in
theorem s149 :
  (∀ (a0 : Nat) (a1 : Value) (st : List Value) (M : xM) (Q : Option Value → xM → Prop), xW xSR 149 0 [.ref a0, a1] (st) M Q = xW xSR 149 1 [.ref a0, a1] (.ref a0 :: st) M Q) ∧
  (∀ (a0 : Nat) (a1 : Value) (st : List Value) (M : xM) (Q : Option Value → xM → Prop), xW xSR 149 1 [.ref a0, a1] (st) M Q = xW xSR 149 2 [.ref a0, a1] (.int (nI 3) :: st) M Q) ∧
  (∀ (a0 : Nat) (a1 : Value) (y0 : Int32) (M : xM) (Q : Option Value → xM → Prop), xW xSR 149 2 [.ref a0, a1] (.int y0 :: .ref 0 :: []) M Q = xW xSR 146 0 [.ref 0, .int y0, .null, .null, .null, .null] [] M (fun v M' => xW xSR 149 5 [.ref a0, a1] (xpush v []) M' Q)) ∧
  (∀ (a0 : Nat) (a1 : Value) (y0 : Int32) (st : List Value) (M : xM) (Q : Option Value → xM → Prop), xW xSR 149 5 [.ref a0, a1] (.int y0 :: st) M Q = if y0 = nI 0 then xW xSR 149 48 [.ref a0, a1] (st) M Q else xW xSR 149 8 [.ref a0, a1] (st) M Q) ∧
  (∀ (a0 : Nat) (a1 : Value) (st : List Value) (M : xM) (Q : Option Value → xM → Prop), xW xSR 149 8 [.ref a0, a1] (st) M Q = xW xSR 149 9 [.ref a0, a1] (.ref a0 :: st) M Q) ∧
  (∀ (a0 : Nat) (a1 : Value) (st : List Value) (M : xM) (Q : Option Value → xM → Prop), xW xSR 149 9 [.ref a0, a1] (.ref 0 :: st) M Q = xW xSR 149 12 [.ref a0, a1] (.ref 4 :: st) M Q) ∧
  (∀ (a0 : Nat) (a1 : Value) (st : List Value) (M : xM) (Q : Option Value → xM → Prop), xW xSR 149 12 [.ref a0, a1] (st) M Q = xW xSR 149 13 [.ref a0, a1] (.int (nI 0) :: st) M Q) ∧
  (∀ (a0 : Nat) (a1 : Value) (y0 : Nat) (st : List Value) (M : xM) (Q : Option Value → xM → Prop), y0 < 6 → xW xSR 149 13 [.ref a0, a1] (.int (nI y0) :: .ref 4 :: st) M Q = xW xSR 149 14 [.ref a0, a1] (.int (M 4 y0) :: st) M Q) ∧
  (∀ (a0 : Nat) (a1 : Value) (st : List Value) (M : xM) (Q : Option Value → xM → Prop), xW xSR 149 14 [.ref a0, a1] (st) M Q = xW xSR 149 15 [.ref a0, a1] (.ref a0 :: st) M Q) ∧
  (∀ (a0 : Nat) (a1 : Value) (st : List Value) (M : xM) (Q : Option Value → xM → Prop), xW xSR 149 15 [.ref a0, a1] (.ref 0 :: st) M Q = xW xSR 149 18 [.ref a0, a1] (.ref 3 :: st) M Q) ∧
  (∀ (a0 : Nat) (a1 : Value) (st : List Value) (M : xM) (Q : Option Value → xM → Prop), xW xSR 149 18 [.ref a0, a1] (st) M Q = xW xSR 149 19 [.ref a0, a1] (.int (nI 1) :: st) M Q) ∧
  (∀ (a0 : Nat) (a1 : Value) (y0 : Nat) (st : List Value) (M : xM) (Q : Option Value → xM → Prop), y0 < 156 → xW xSR 149 19 [.ref a0, a1] (.int (nI y0) :: .ref 3 :: st) M Q = xW xSR 149 20 [.ref a0, a1] (.int (M 3 y0) :: st) M Q) ∧
  (∀ (a0 : Nat) (a1 : Value) (y0 : Int32) (y1 : Int32) (st : List Value) (M : xM) (Q : Option Value → xM → Prop), xW xSR 149 20 [.ref a0, a1] (.int y0 :: .int y1 :: st) M Q = if y1 < y0 then xW xSR 149 23 [.ref a0, a1] (st) M Q else xW xSR 149 48 [.ref a0, a1] (st) M Q) ∧
  (∀ (a0 : Nat) (a1 : Value) (st : List Value) (M : xM) (Q : Option Value → xM → Prop), xW xSR 149 23 [.ref a0, a1] (st) M Q = xW xSR 149 24 [.ref a0, a1] (.ref a0 :: st) M Q) ∧
  (∀ (a0 : Nat) (a1 : Value) (st : List Value) (M : xM) (Q : Option Value → xM → Prop), xW xSR 149 24 [.ref a0, a1] (.ref 0 :: st) M Q = xW xSR 149 27 [.ref a0, a1] (.ref 4 :: st) M Q) ∧
  (∀ (a0 : Nat) (a1 : Value) (st : List Value) (M : xM) (Q : Option Value → xM → Prop), xW xSR 149 27 [.ref a0, a1] (st) M Q = xW xSR 149 28 [.ref a0, a1] (.int (nI 1) :: st) M Q) ∧
  (∀ (a0 : Nat) (a1 : Value) (y0 : Nat) (st : List Value) (M : xM) (Q : Option Value → xM → Prop), y0 < 6 → xW xSR 149 28 [.ref a0, a1] (.int (nI y0) :: .ref 4 :: st) M Q = xW xSR 149 29 [.ref a0, a1] (.int (M 4 y0) :: st) M Q) ∧
  (∀ (a0 : Nat) (a1 : Value) (st : List Value) (M : xM) (Q : Option Value → xM → Prop), xW xSR 149 29 [.ref a0, a1] (st) M Q = xW xSR 149 30 [.ref a0, a1] (.int (nI 2) :: st) M Q) ∧
  (∀ (a0 : Nat) (a1 : Value) (y0 : Int32) (y1 : Int32) (st : List Value) (M : xM) (Q : Option Value → xM → Prop), xW xSR 149 30 [.ref a0, a1] (.int y0 :: .int y1 :: st) M Q = if y1 < y0 then xW xSR 149 33 [.ref a0, a1] (st) M Q else xW xSR 149 48 [.ref a0, a1] (st) M Q) ∧
  (∀ (a0 : Nat) (a1 : Value) (st : List Value) (M : xM) (Q : Option Value → xM → Prop), xW xSR 149 33 [.ref a0, a1] (st) M Q = xW xSR 149 34 [.ref a0, a1] (.ref a0 :: st) M Q) ∧
  (∀ (a0 : Nat) (a1 : Value) (st : List Value) (M : xM) (Q : Option Value → xM → Prop), xW xSR 149 34 [.ref a0, a1] (.ref 0 :: st) M Q = xW xSR 149 37 [.ref a0, a1] (.ref 4 :: st) M Q) ∧
  (∀ (a0 : Nat) (a1 : Value) (st : List Value) (M : xM) (Q : Option Value → xM → Prop), xW xSR 149 37 [.ref a0, a1] (st) M Q = xW xSR 149 38 [.ref a0, a1] (.int (nI 2) :: st) M Q) ∧
  (∀ (a0 : Nat) (a1 : Value) (y0 : Nat) (st : List Value) (M : xM) (Q : Option Value → xM → Prop), y0 < 6 → xW xSR 149 38 [.ref a0, a1] (.int (nI y0) :: .ref 4 :: st) M Q = xW xSR 149 39 [.ref a0, a1] (.int (M 4 y0) :: st) M Q) ∧
  (∀ (a0 : Nat) (a1 : Value) (st : List Value) (M : xM) (Q : Option Value → xM → Prop), xW xSR 149 39 [.ref a0, a1] (st) M Q = xW xSR 149 41 [.ref a0, a1] (.int (nI 64) :: st) M Q) ∧
  (∀ (a0 : Nat) (a1 : Value) (y0 : Int32) (y1 : Int32) (st : List Value) (M : xM) (Q : Option Value → xM → Prop), xW xSR 149 41 [.ref a0, a1] (.int y0 :: .int y1 :: st) M Q = if y1 < y0 then xW xSR 149 44 [.ref a0, a1] (st) M Q else xW xSR 149 48 [.ref a0, a1] (st) M Q) ∧
  (∀ (a0 : Nat) (a1 : Value) (st : List Value) (M : xM) (Q : Option Value → xM → Prop), xW xSR 149 44 [.ref a0, a1] (st) M Q = xW xSR 149 45 [.ref a0, a1] (.int (nI 1) :: st) M Q) ∧
  (∀ (a0 : Nat) (a1 : Value) (st : List Value) (M : xM) (Q : Option Value → xM → Prop), xW xSR 149 45 [.ref a0, a1] (st) M Q = xW xSR 149 49 [.ref a0, a1] (st) M Q) ∧
  (∀ (a0 : Nat) (a1 : Int32) (st : List Value) (M : xM) (Q : Option Value → xM → Prop), xW xSR 149 50 [.ref a0, .int a1] (st) M Q = xW xSR 149 51 [.ref a0, .int a1] (.int a1 :: st) M Q) ∧
  (∀ (a0 : Nat) (a1 : Int32) (y0 : Int32) (st : List Value) (M : xM) (Q : Option Value → xM → Prop), xW xSR 149 51 [.ref a0, .int a1] (.int y0 :: st) M Q = if y0 = nI 0 then xW xSR 149 85 [.ref a0, .int a1] (st) M Q else xW xSR 149 54 [.ref a0, .int a1] (st) M Q) ∧
  (∀ (a0 : Nat) (a1 : Int32) (st : List Value) (M : xM) (Q : Option Value → xM → Prop), xW xSR 149 54 [.ref a0, .int a1] (st) M Q = xW xSR 149 55 [.ref a0, .int a1] (.ref a0 :: st) M Q) ∧
  (∀ (a0 : Nat) (a1 : Int32) (st : List Value) (M : xM) (Q : Option Value → xM → Prop), xW xSR 149 55 [.ref a0, .int a1] (.ref 0 :: st) M Q = xW xSR 149 58 [.ref a0, .int a1] (.ref 3 :: st) M Q) ∧
  (∀ (a0 : Nat) (a1 : Int32) (st : List Value) (M : xM) (Q : Option Value → xM → Prop), xW xSR 149 58 [.ref a0, .int a1] (st) M Q = xW xSR 149 59 [.ref a0, .int a1] (.int (nI 3) :: st) M Q) ∧
  (∀ (a0 : Nat) (a1 : Int32) (st : List Value) (M : xM) (Q : Option Value → xM → Prop), xW xSR 149 59 [.ref a0, .int a1] (st) M Q = xW xSR 149 61 [.ref a0, .int a1] (.int (nI 6) :: st) M Q) ∧
  (∀ (a0 : Nat) (a1 : Int32) (st : List Value) (M : xM) (Q : Option Value → xM → Prop), xW xSR 149 61 [.ref a0, .int a1] (st) M Q = xW xSR 149 62 [.ref a0, .int a1] (.ref a0 :: st) M Q) ∧
  (∀ (a0 : Nat) (a1 : Int32) (st : List Value) (M : xM) (Q : Option Value → xM → Prop), xW xSR 149 62 [.ref a0, .int a1] (.ref 0 :: st) M Q = xW xSR 149 65 [.ref a0, .int a1] (.ref 4 :: st) M Q) ∧
  (∀ (a0 : Nat) (a1 : Int32) (st : List Value) (M : xM) (Q : Option Value → xM → Prop), xW xSR 149 65 [.ref a0, .int a1] (st) M Q = xW xSR 149 66 [.ref a0, .int a1] (.int (nI 0) :: st) M Q) ∧
  (∀ (a0 : Nat) (a1 : Int32) (y0 : Nat) (st : List Value) (M : xM) (Q : Option Value → xM → Prop), y0 < 6 → xW xSR 149 66 [.ref a0, .int a1] (.int (nI y0) :: .ref 4 :: st) M Q = xW xSR 149 67 [.ref a0, .int a1] (.int (M 4 y0) :: st) M Q) ∧
  (∀ (a0 : Nat) (a1 : Int32) (y0 : Int32) (y1 : Int32) (st : List Value) (M : xM) (Q : Option Value → xM → Prop), xW xSR 149 67 [.ref a0, .int a1] (.int y0 :: .int y1 :: st) M Q = xW xSR 149 68 [.ref a0, .int a1] (.int (y1 * y0) :: st) M Q) ∧
  (∀ (a0 : Nat) (a1 : Int32) (y0 : Int32) (y1 : Int32) (st : List Value) (M : xM) (Q : Option Value → xM → Prop), xW xSR 149 68 [.ref a0, .int a1] (.int y0 :: .int y1 :: st) M Q = xW xSR 149 69 [.ref a0, .int a1] (.int (y1 + y0) :: st) M Q) ∧
  (∀ (a0 : Nat) (a1 : Int32) (st : List Value) (M : xM) (Q : Option Value → xM → Prop), xW xSR 149 69 [.ref a0, .int a1] (st) M Q = xW xSR 149 70 [.ref a0, .int a1] (.int (nI 4) :: st) M Q) ∧
  (∀ (a0 : Nat) (a1 : Int32) (y0 : Int32) (y1 : Int32) (st : List Value) (M : xM) (Q : Option Value → xM → Prop), xW xSR 149 70 [.ref a0, .int a1] (.int y0 :: .int y1 :: st) M Q = xW xSR 149 71 [.ref a0, .int a1] (.int (y1 + y0) :: st) M Q) ∧
  (∀ (a0 : Nat) (a1 : Int32) (st : List Value) (M : xM) (Q : Option Value → xM → Prop), xW xSR 149 71 [.ref a0, .int a1] (st) M Q = xW xSR 149 72 [.ref a0, .int a1] (.ref a0 :: st) M Q) ∧
  (∀ (a0 : Nat) (a1 : Int32) (st : List Value) (M : xM) (Q : Option Value → xM → Prop), xW xSR 149 72 [.ref a0, .int a1] (.ref 0 :: st) M Q = xW xSR 149 75 [.ref a0, .int a1] (.ref 4 :: st) M Q) ∧
  (∀ (a0 : Nat) (a1 : Int32) (st : List Value) (M : xM) (Q : Option Value → xM → Prop), xW xSR 149 75 [.ref a0, .int a1] (st) M Q = xW xSR 149 76 [.ref a0, .int a1] (.int (nI 1) :: st) M Q) ∧
  (∀ (a0 : Nat) (a1 : Int32) (y0 : Nat) (st : List Value) (M : xM) (Q : Option Value → xM → Prop), y0 < 6 → xW xSR 149 76 [.ref a0, .int a1] (.int (nI y0) :: .ref 4 :: st) M Q = xW xSR 149 77 [.ref a0, .int a1] (.int (M 4 y0) :: st) M Q) ∧
  (∀ (a0 : Nat) (a1 : Int32) (y0 : Int32) (y1 : Int32) (st : List Value) (M : xM) (Q : Option Value → xM → Prop), xW xSR 149 77 [.ref a0, .int a1] (.int y0 :: .int y1 :: st) M Q = xW xSR 149 78 [.ref a0, .int a1] (.int (y1 + y0) :: st) M Q) ∧
  (∀ (a0 : Nat) (a1 : Int32) (st : List Value) (M : xM) (Q : Option Value → xM → Prop), xW xSR 149 78 [.ref a0, .int a1] (st) M Q = xW xSR 149 79 [.ref a0, .int a1] (.ref a0 :: st) M Q) ∧
  (∀ (a0 : Nat) (a1 : Int32) (st : List Value) (M : xM) (Q : Option Value → xM → Prop), xW xSR 149 79 [.ref a0, .int a1] (.ref 0 :: st) M Q = xW xSR 149 82 [.ref a0, .int a1] (.ref 4 :: st) M Q) ∧
  (∀ (a0 : Nat) (a1 : Int32) (st : List Value) (M : xM) (Q : Option Value → xM → Prop), xW xSR 149 82 [.ref a0, .int a1] (st) M Q = xW xSR 149 83 [.ref a0, .int a1] (.int (nI 2) :: st) M Q) ∧
  (∀ (a0 : Nat) (a1 : Int32) (y0 : Nat) (st : List Value) (M : xM) (Q : Option Value → xM → Prop), y0 < 6 → xW xSR 149 83 [.ref a0, .int a1] (.int (nI y0) :: .ref 4 :: st) M Q = xW xSR 149 84 [.ref a0, .int a1] (.int (M 4 y0) :: st) M Q) ∧
  (∀ (a0 : Nat) (a1 : Int32) (y0 : Int32) (y1 : Nat) (st : List Value) (M : xM) (Q : Option Value → xM → Prop), y1 < 156 → xW xSR 149 84 [.ref a0, .int a1] (.int y0 :: .int (nI y1) :: .ref 3 :: st) M Q = xW xSR 149 85 [.ref a0, .int a1] (st) (xup M 3 y1 y0) Q) ∧
  (∀ (a0 : Nat) (a1 : Int32) (y0 : Int32) (M : xM) (Q : Option Value → xM → Prop), y0 = 0 ∨ y0 = 1 → xW xSR 149 86 [.ref a0, .int a1] ([.int y0]) M Q = Q (some (.int y0)) M) :=
  ⟨fun a0 a1 st M Q => xw_s rfl rfl,
  fun a0 a1 st M Q => xw_s rfl rfl,
  fun a0 a1 y0 M Q => xw_call rfl rfl rfl,
  fun a0 a1 y0 st M Q => xw_br (c0 := y0 = nI 0) rfl rfl,
  fun a0 a1 st M Q => xw_s rfl rfl,
  fun a0 a1 st M Q => xw_s rfl rfl,
  fun a0 a1 st M Q => xw_s rfl rfl,
  fun a0 a1 y0 st M Q h0 => xw_ald rfl rfl rfl (by decide) h0,
  fun a0 a1 st M Q => xw_s rfl rfl,
  fun a0 a1 st M Q => xw_s rfl rfl,
  fun a0 a1 st M Q => xw_s rfl rfl,
  fun a0 a1 y0 st M Q h0 => xw_ald rfl rfl rfl (by decide) h0,
  fun a0 a1 y0 y1 st M Q => xw_brn (c0 := y0 ≤ y1) (c1 := y1 < y0) rfl rfl (xge _ _),
  fun a0 a1 st M Q => xw_s rfl rfl,
  fun a0 a1 st M Q => xw_s rfl rfl,
  fun a0 a1 st M Q => xw_s rfl rfl,
  fun a0 a1 y0 st M Q h0 => xw_ald rfl rfl rfl (by decide) h0,
  fun a0 a1 st M Q => xw_s rfl rfl,
  fun a0 a1 y0 y1 st M Q => xw_brn (c0 := y0 ≤ y1) (c1 := y1 < y0) rfl rfl (xge _ _),
  fun a0 a1 st M Q => xw_s rfl rfl,
  fun a0 a1 st M Q => xw_s rfl rfl,
  fun a0 a1 st M Q => xw_s rfl rfl,
  fun a0 a1 y0 st M Q h0 => xw_ald rfl rfl rfl (by decide) h0,
  fun a0 a1 st M Q => xw_s rfl rfl,
  fun a0 a1 y0 y1 st M Q => xw_brn (c0 := y0 ≤ y1) (c1 := y1 < y0) rfl rfl (xge _ _),
  fun a0 a1 st M Q => xw_s rfl rfl,
  fun a0 a1 st M Q => xw_s rfl rfl,
  fun a0 a1 st M Q => xw_s rfl rfl,
  fun a0 a1 y0 st M Q => xw_br (c0 := y0 = nI 0) rfl rfl,
  fun a0 a1 st M Q => xw_s rfl rfl,
  fun a0 a1 st M Q => xw_s rfl rfl,
  fun a0 a1 st M Q => xw_s rfl rfl,
  fun a0 a1 st M Q => xw_s rfl rfl,
  fun a0 a1 st M Q => xw_s rfl rfl,
  fun a0 a1 st M Q => xw_s rfl rfl,
  fun a0 a1 st M Q => xw_s rfl rfl,
  fun a0 a1 y0 st M Q h0 => xw_ald rfl rfl rfl (by decide) h0,
  fun a0 a1 y0 y1 st M Q => xw_s rfl rfl,
  fun a0 a1 y0 y1 st M Q => xw_s rfl rfl,
  fun a0 a1 st M Q => xw_s rfl rfl,
  fun a0 a1 y0 y1 st M Q => xw_s rfl rfl,
  fun a0 a1 st M Q => xw_s rfl rfl,
  fun a0 a1 st M Q => xw_s rfl rfl,
  fun a0 a1 st M Q => xw_s rfl rfl,
  fun a0 a1 y0 st M Q h0 => xw_ald rfl rfl rfl (by decide) h0,
  fun a0 a1 y0 y1 st M Q => xw_s rfl rfl,
  fun a0 a1 st M Q => xw_s rfl rfl,
  fun a0 a1 st M Q => xw_s rfl rfl,
  fun a0 a1 st M Q => xw_s rfl rfl,
  fun a0 a1 y0 st M Q h0 => xw_ald rfl rfl rfl (by decide) h0,
  fun a0 a1 y0 y1 st M Q h0 => xw_ast (f := fun x => x) rfl rfl rfl (by decide) h0,
  fun a0 a1 y0 M Q h0 => xw_retz rfl rfl h0⟩
set_option maxRecDepth 20000 in
theorem h149_48 :
  (∀ (a0 : Nat) (a1 : Value) (st : List Value) (M : xM) (Q : Option Value → xM → Prop), xW xSR 149 48 [.ref a0, a1] (st) M Q = xW xSR 149 49 [.ref a0, a1] (.int (nI 0) :: st) M Q) :=
  fun a0 a1 st M Q => xw_s rfl rfl
set_option maxRecDepth 20000 in
theorem h149_49 :
  (∀ (a0 : Nat) (a1 : Value) (y0 : Int32) (st : List Value) (M : xM) (Q : Option Value → xM → Prop), xW xSR 149 49 [.ref a0, a1] (.int y0 :: st) M Q = xW xSR 149 50 [.ref a0, .int y0] (st) M Q) :=
  fun a0 a1 y0 st M Q => xw_s rfl rfl
set_option maxRecDepth 20000 in
theorem h149_85 :
  (∀ (a0 : Nat) (a1 : Int32) (st : List Value) (M : xM) (Q : Option Value → xM → Prop), xW xSR 149 85 [.ref a0, .int a1] (st) M Q = xW xSR 149 86 [.ref a0, .int a1] (.int a1 :: st) M Q) :=
  fun a0 a1 st M Q => xw_s rfl rfl
set_option maxRecDepth 20000 in
theorem j149 :
  (∀ (a0 : Nat) (a1 : Value) (st : List Value) (M : xM) (Q : Option Value → xM → Prop), xW xSR 149 48 [.ref a0, a1] (st) M Q = xW xSR 149 49 [.ref a0, a1] (.int (nI 0) :: st) M Q) ∧
  (∀ (a0 : Nat) (a1 : Value) (y0 : Int32) (st : List Value) (M : xM) (Q : Option Value → xM → Prop), xW xSR 149 49 [.ref a0, a1] (.int y0 :: st) M Q = xW xSR 149 50 [.ref a0, .int y0] (st) M Q) ∧
  (∀ (a0 : Nat) (a1 : Int32) (st : List Value) (M : xM) (Q : Option Value → xM → Prop), xW xSR 149 85 [.ref a0, .int a1] (st) M Q = xW xSR 149 86 [.ref a0, .int a1] (.int a1 :: st) M Q) :=
  ⟨fun a0 a1 st M Q => xw_s rfl rfl,
  fun a0 a1 y0 st M Q => xw_s rfl rfl,
  fun a0 a1 st M Q => xw_s rfl rfl⟩

set_option maxRecDepth 20000 in
theorem s150 :
  (∀ (a0 : Nat) (a1 : Value) (a2 : Value) (st : List Value) (M : xM) (Q : Option Value → xM → Prop), xW xSR 150 0 [.ref a0, a1, a2] (st) M Q = xW xSR 150 1 [.ref a0, a1, a2] (.ref a0 :: st) M Q) ∧
  (∀ (a0 : Nat) (a1 : Value) (a2 : Value) (st : List Value) (M : xM) (Q : Option Value → xM → Prop), xW xSR 150 1 [.ref a0, a1, a2] (st) M Q = xW xSR 150 3 [.ref a0, a1, a2] (.int (nI 6) :: st) M Q) ∧
  (∀ (a0 : Nat) (a1 : Value) (a2 : Value) (y0 : Int32) (M : xM) (Q : Option Value → xM → Prop), xW xSR 150 3 [.ref a0, a1, a2] (.int y0 :: .ref 0 :: []) M Q = xW xSR 146 0 [.ref 0, .int y0, .null, .null, .null, .null] [] M (fun v M' => xW xSR 150 6 [.ref a0, a1, a2] (xpush v []) M' Q)) ∧
  (∀ (a0 : Nat) (a1 : Value) (a2 : Value) (y0 : Int32) (st : List Value) (M : xM) (Q : Option Value → xM → Prop), xW xSR 150 6 [.ref a0, a1, a2] (.int y0 :: st) M Q = xW xSR 150 7 [.ref a0, .int y0, a2] (st) M Q) ∧
  (∀ (a0 : Nat) (a1 : Int32) (a2 : Value) (st : List Value) (M : xM) (Q : Option Value → xM → Prop), xW xSR 150 7 [.ref a0, .int a1, a2] (st) M Q = xW xSR 150 8 [.ref a0, .int a1, a2] (.int (nI 0) :: st) M Q) ∧
  (∀ (a0 : Nat) (a1 : Int32) (a2 : Value) (y0 : Int32) (st : List Value) (M : xM) (Q : Option Value → xM → Prop), xW xSR 150 8 [.ref a0, .int a1, a2] (.int y0 :: st) M Q = xW xSR 150 9 [.ref a0, .int a1, .int y0] (st) M Q) ∧
  (∀ (a0 : Nat) (a1 : Int32) (a2 : Int32) (st : List Value) (M : xM) (Q : Option Value → xM → Prop), xW xSR 150 10 [.ref a0, .int a1, .int a2] (st) M Q = xW xSR 150 12 [.ref a0, .int a1, .int a2] (.int (nI 6) :: st) M Q) ∧
  (∀ (a0 : Nat) (a1 : Int32) (a2 : Int32) (y0 : Int32) (y1 : Int32) (st : List Value) (M : xM) (Q : Option Value → xM → Prop), xW xSR 150 12 [.ref a0, .int a1, .int a2] (.int y0 :: .int y1 :: st) M Q = if y1 < y0 then xW xSR 150 15 [.ref a0, .int a1, .int a2] (st) M Q else xW xSR 150 42 [.ref a0, .int a1, .int a2] (st) M Q) ∧
  (∀ (a0 : Nat) (a1 : Int32) (a2 : Int32) (st : List Value) (M : xM) (Q : Option Value → xM → Prop), xW xSR 150 15 [.ref a0, .int a1, .int a2] (st) M Q = xW xSR 150 16 [.ref a0, .int a1, .int a2] (.int a1 :: st) M Q) ∧
  (∀ (a0 : Nat) (a1 : Int32) (a2 : Int32) (y0 : Int32) (st : List Value) (M : xM) (Q : Option Value → xM → Prop), xW xSR 150 16 [.ref a0, .int a1, .int a2] (.int y0 :: st) M Q = if y0 = nI 0 then xW xSR 150 34 [.ref a0, .int a1, .int a2] (st) M Q else xW xSR 150 19 [.ref a0, .int a1, .int a2] (st) M Q) ∧
  (∀ (a0 : Nat) (a1 : Int32) (a2 : Int32) (st : List Value) (M : xM) (Q : Option Value → xM → Prop), xW xSR 150 19 [.ref a0, .int a1, .int a2] (st) M Q = xW xSR 150 20 [.ref a0, .int a1, .int a2] (.ref a0 :: st) M Q) ∧
  (∀ (a0 : Nat) (a1 : Int32) (a2 : Int32) (st : List Value) (M : xM) (Q : Option Value → xM → Prop), xW xSR 150 20 [.ref a0, .int a1, .int a2] (.ref 0 :: st) M Q = xW xSR 150 23 [.ref a0, .int a1, .int a2] (.ref 4 :: st) M Q) ∧
  (∀ (a0 : Nat) (a1 : Int32) (a2 : Int32) (st : List Value) (M : xM) (Q : Option Value → xM → Prop), xW xSR 150 23 [.ref a0, .int a1, .int a2] (st) M Q = xW xSR 150 24 [.ref a0, .int a1, .int a2] (.int a2 :: st) M Q) ∧
  (∀ (a0 : Nat) (a1 : Int32) (a2 : Int32) (y0 : Nat) (st : List Value) (M : xM) (Q : Option Value → xM → Prop), y0 < 6 → xW xSR 150 24 [.ref a0, .int a1, .int a2] (.int (nI y0) :: .ref 4 :: st) M Q = xW xSR 150 25 [.ref a0, .int a1, .int a2] (.int (M 4 y0) :: st) M Q) ∧
  (∀ (a0 : Nat) (a1 : Int32) (a2 : Int32) (st : List Value) (M : xM) (Q : Option Value → xM → Prop), xW xSR 150 25 [.ref a0, .int a1, .int a2] (st) M Q = xW xSR 150 27 [.ref a0, .int a1, .int a2] (.int (nI 21) :: st) M Q) ∧
  (∀ (a0 : Nat) (a1 : Int32) (a2 : Int32) (y0 : Int32) (y1 : Int32) (st : List Value) (M : xM) (Q : Option Value → xM → Prop), xW xSR 150 27 [.ref a0, .int a1, .int a2] (.int y0 :: .int y1 :: st) M Q = if y1 < y0 then xW xSR 150 30 [.ref a0, .int a1, .int a2] (st) M Q else xW xSR 150 34 [.ref a0, .int a1, .int a2] (st) M Q) ∧
  (∀ (a0 : Nat) (a1 : Int32) (a2 : Int32) (st : List Value) (M : xM) (Q : Option Value → xM → Prop), xW xSR 150 30 [.ref a0, .int a1, .int a2] (st) M Q = xW xSR 150 31 [.ref a0, .int a1, .int a2] (.int (nI 1) :: st) M Q) ∧
  (∀ (a0 : Nat) (a1 : Int32) (a2 : Int32) (st : List Value) (M : xM) (Q : Option Value → xM → Prop), xW xSR 150 31 [.ref a0, .int a1, .int a2] (st) M Q = xW xSR 150 35 [.ref a0, .int a1, .int a2] (st) M Q) ∧
  (∀ (a0 : Nat) (a1 : Int32) (a2 : Int32) (st : List Value) (M : xM) (Q : Option Value → xM → Prop), xW xSR 150 36 [.ref a0, .int a1, .int a2] (st) M Q = xW xSR 150 39 [.ref a0, .int a1, .int (a2 + nI 1)] (st) M Q) ∧
  (∀ (a0 : Nat) (a1 : Int32) (a2 : Int32) (st : List Value) (M : xM) (Q : Option Value → xM → Prop), xW xSR 150 39 [.ref a0, .int a1, .int a2] (st) M Q = xW xSR 150 9 [.ref a0, .int a1, .int a2] (st) M Q) ∧
  (∀ (a0 : Nat) (a1 : Int32) (a2 : Int32) (st : List Value) (M : xM) (Q : Option Value → xM → Prop), xW xSR 150 42 [.ref a0, .int a1, .int a2] (st) M Q = xW xSR 150 43 [.ref a0, .int a1, .int a2] (.int (nI 0) :: st) M Q) ∧
  (∀ (a0 : Nat) (a1 : Int32) (a2 : Int32) (y0 : Int32) (st : List Value) (M : xM) (Q : Option Value → xM → Prop), xW xSR 150 43 [.ref a0, .int a1, .int a2] (.int y0 :: st) M Q = xW xSR 150 44 [.ref a0, .int a1, .int y0] (st) M Q) ∧
  (∀ (a0 : Nat) (a1 : Int32) (a2 : Int32) (st : List Value) (M : xM) (Q : Option Value → xM → Prop), xW xSR 150 45 [.ref a0, .int a1, .int a2] (st) M Q = xW xSR 150 47 [.ref a0, .int a1, .int a2] (.int (nI 6) :: st) M Q) ∧
  (∀ (a0 : Nat) (a1 : Int32) (a2 : Int32) (y0 : Int32) (y1 : Int32) (st : List Value) (M : xM) (Q : Option Value → xM → Prop), xW xSR 150 47 [.ref a0, .int a1, .int a2] (.int y0 :: .int y1 :: st) M Q = if y1 < y0 then xW xSR 150 50 [.ref a0, .int a1, .int a2] (st) M Q else xW xSR 150 76 [.ref a0, .int a1, .int a2] (st) M Q) ∧
  (∀ (a0 : Nat) (a1 : Int32) (a2 : Int32) (st : List Value) (M : xM) (Q : Option Value → xM → Prop), xW xSR 150 50 [.ref a0, .int a1, .int a2] (st) M Q = xW xSR 150 51 [.ref a0, .int a1, .int a2] (.int a1 :: st) M Q) ∧
  (∀ (a0 : Nat) (a1 : Int32) (a2 : Int32) (y0 : Int32) (st : List Value) (M : xM) (Q : Option Value → xM → Prop), xW xSR 150 51 [.ref a0, .int a1, .int a2] (.int y0 :: st) M Q = if y0 = nI 0 then xW xSR 150 76 [.ref a0, .int a1, .int a2] (st) M Q else xW xSR 150 54 [.ref a0, .int a1, .int a2] (st) M Q) ∧
  (∀ (a0 : Nat) (a1 : Int32) (a2 : Int32) (st : List Value) (M : xM) (Q : Option Value → xM → Prop), xW xSR 150 54 [.ref a0, .int a1, .int a2] (st) M Q = xW xSR 150 55 [.ref a0, .int a1, .int a2] (.ref a0 :: st) M Q) ∧
  (∀ (a0 : Nat) (a1 : Int32) (a2 : Int32) (st : List Value) (M : xM) (Q : Option Value → xM → Prop), xW xSR 150 55 [.ref a0, .int a1, .int a2] (.ref 0 :: st) M Q = xW xSR 150 58 [.ref a0, .int a1, .int a2] (.ref 3 :: st) M Q) ∧
  (∀ (a0 : Nat) (a1 : Int32) (a2 : Int32) (st : List Value) (M : xM) (Q : Option Value → xM → Prop), xW xSR 150 58 [.ref a0, .int a1, .int a2] (st) M Q = xW xSR 150 61 [.ref a0, .int a1, .int a2] (.int (nI 146) :: st) M Q) ∧
  (∀ (a0 : Nat) (a1 : Int32) (a2 : Int32) (st : List Value) (M : xM) (Q : Option Value → xM → Prop), xW xSR 150 61 [.ref a0, .int a1, .int a2] (st) M Q = xW xSR 150 62 [.ref a0, .int a1, .int a2] (.int a2 :: st) M Q) ∧
  (∀ (a0 : Nat) (a1 : Int32) (a2 : Int32) (y0 : Int32) (y1 : Int32) (st : List Value) (M : xM) (Q : Option Value → xM → Prop), xW xSR 150 62 [.ref a0, .int a1, .int a2] (.int y0 :: .int y1 :: st) M Q = xW xSR 150 63 [.ref a0, .int a1, .int a2] (.int (y1 + y0) :: st) M Q) ∧
  (∀ (a0 : Nat) (a1 : Int32) (a2 : Int32) (st : List Value) (M : xM) (Q : Option Value → xM → Prop), xW xSR 150 63 [.ref a0, .int a1, .int a2] (st) M Q = xW xSR 150 64 [.ref a0, .int a1, .int a2] (.ref a0 :: st) M Q) ∧
  (∀ (a0 : Nat) (a1 : Int32) (a2 : Int32) (st : List Value) (M : xM) (Q : Option Value → xM → Prop), xW xSR 150 64 [.ref a0, .int a1, .int a2] (.ref 0 :: st) M Q = xW xSR 150 67 [.ref a0, .int a1, .int a2] (.ref 4 :: st) M Q) ∧
  (∀ (a0 : Nat) (a1 : Int32) (a2 : Int32) (st : List Value) (M : xM) (Q : Option Value → xM → Prop), xW xSR 150 67 [.ref a0, .int a1, .int a2] (st) M Q = xW xSR 150 68 [.ref a0, .int a1, .int a2] (.int a2 :: st) M Q) ∧
  (∀ (a0 : Nat) (a1 : Int32) (a2 : Int32) (y0 : Nat) (st : List Value) (M : xM) (Q : Option Value → xM → Prop), y0 < 6 → xW xSR 150 68 [.ref a0, .int a1, .int a2] (.int (nI y0) :: .ref 4 :: st) M Q = xW xSR 150 69 [.ref a0, .int a1, .int a2] (.int (M 4 y0) :: st) M Q) ∧
  (∀ (a0 : Nat) (a1 : Int32) (a2 : Int32) (y0 : Int32) (y1 : Nat) (st : List Value) (M : xM) (Q : Option Value → xM → Prop), y1 < 156 → xW xSR 150 69 [.ref a0, .int a1, .int a2] (.int y0 :: .int (nI y1) :: .ref 3 :: st) M Q = xW xSR 150 70 [.ref a0, .int a1, .int a2] (st) (xup M 3 y1 y0) Q) ∧
  (∀ (a0 : Nat) (a1 : Int32) (a2 : Int32) (st : List Value) (M : xM) (Q : Option Value → xM → Prop), xW xSR 150 70 [.ref a0, .int a1, .int a2] (st) M Q = xW xSR 150 73 [.ref a0, .int a1, .int (a2 + nI 1)] (st) M Q) ∧
  (∀ (a0 : Nat) (a1 : Int32) (a2 : Int32) (st : List Value) (M : xM) (Q : Option Value → xM → Prop), xW xSR 150 73 [.ref a0, .int a1, .int a2] (st) M Q = xW xSR 150 44 [.ref a0, .int a1, .int a2] (st) M Q) ∧
  (∀ (a0 : Nat) (a1 : Int32) (a2 : Int32) (y0 : Int32) (M : xM) (Q : Option Value → xM → Prop), y0 = 0 ∨ y0 = 1 → xW xSR 150 77 [.ref a0, .int a1, .int a2] ([.int y0]) M Q = Q (some (.int y0)) M) :=
  ⟨fun a0 a1 a2 st M Q => xw_s rfl rfl,
  fun a0 a1 a2 st M Q => xw_s rfl rfl,
  fun a0 a1 a2 y0 M Q => xw_call rfl rfl rfl,
  fun a0 a1 a2 y0 st M Q => xw_s rfl rfl,
  fun a0 a1 a2 st M Q => xw_s rfl rfl,
  fun a0 a1 a2 y0 st M Q => xw_s rfl rfl,
  fun a0 a1 a2 st M Q => xw_s rfl rfl,
  fun a0 a1 a2 y0 y1 st M Q => xw_brn (c0 := y0 ≤ y1) (c1 := y1 < y0) rfl rfl (xge _ _),
  fun a0 a1 a2 st M Q => xw_s rfl rfl,
  fun a0 a1 a2 y0 st M Q => xw_br (c0 := y0 = nI 0) rfl rfl,
  fun a0 a1 a2 st M Q => xw_s rfl rfl,
  fun a0 a1 a2 st M Q => xw_s rfl rfl,
  fun a0 a1 a2 st M Q => xw_s rfl rfl,
  fun a0 a1 a2 y0 st M Q h0 => xw_ald rfl rfl rfl (by decide) h0,
  fun a0 a1 a2 st M Q => xw_s rfl rfl,
  fun a0 a1 a2 y0 y1 st M Q => xw_brn (c0 := y0 ≤ y1) (c1 := y1 < y0) rfl rfl (xge _ _),
  fun a0 a1 a2 st M Q => xw_s rfl rfl,
  fun a0 a1 a2 st M Q => xw_s rfl rfl,
  fun a0 a1 a2 st M Q => xw_s rfl rfl,
  fun a0 a1 a2 st M Q => xw_s rfl rfl,
  fun a0 a1 a2 st M Q => xw_s rfl rfl,
  fun a0 a1 a2 y0 st M Q => xw_s rfl rfl,
  fun a0 a1 a2 st M Q => xw_s rfl rfl,
  fun a0 a1 a2 y0 y1 st M Q => xw_brn (c0 := y0 ≤ y1) (c1 := y1 < y0) rfl rfl (xge _ _),
  fun a0 a1 a2 st M Q => xw_s rfl rfl,
  fun a0 a1 a2 y0 st M Q => xw_br (c0 := y0 = nI 0) rfl rfl,
  fun a0 a1 a2 st M Q => xw_s rfl rfl,
  fun a0 a1 a2 st M Q => xw_s rfl rfl,
  fun a0 a1 a2 st M Q => xw_s rfl rfl,
  fun a0 a1 a2 st M Q => xw_s rfl rfl,
  fun a0 a1 a2 y0 y1 st M Q => xw_s rfl rfl,
  fun a0 a1 a2 st M Q => xw_s rfl rfl,
  fun a0 a1 a2 st M Q => xw_s rfl rfl,
  fun a0 a1 a2 st M Q => xw_s rfl rfl,
  fun a0 a1 a2 y0 st M Q h0 => xw_ald rfl rfl rfl (by decide) h0,
  fun a0 a1 a2 y0 y1 st M Q h0 => xw_ast (f := fun x => x) rfl rfl rfl (by decide) h0,
  fun a0 a1 a2 st M Q => xw_s rfl rfl,
  fun a0 a1 a2 st M Q => xw_s rfl rfl,
  fun a0 a1 a2 y0 M Q h0 => xw_retz rfl rfl h0⟩
set_option maxRecDepth 20000 in
theorem h150_9 :
  (∀ (a0 : Nat) (a1 : Int32) (a2 : Int32) (st : List Value) (M : xM) (Q : Option Value → xM → Prop), xW xSR 150 9 [.ref a0, .int a1, .int a2] (st) M Q = xW xSR 150 10 [.ref a0, .int a1, .int a2] (.int a2 :: st) M Q) :=
  fun a0 a1 a2 st M Q => xw_s rfl rfl
set_option maxRecDepth 20000 in
theorem h150_34 :
  (∀ (a0 : Nat) (a1 : Int32) (a2 : Int32) (st : List Value) (M : xM) (Q : Option Value → xM → Prop), xW xSR 150 34 [.ref a0, .int a1, .int a2] (st) M Q = xW xSR 150 35 [.ref a0, .int a1, .int a2] (.int (nI 0) :: st) M Q) :=
  fun a0 a1 a2 st M Q => xw_s rfl rfl
set_option maxRecDepth 20000 in
theorem h150_35 :
  (∀ (a0 : Nat) (a1 : Int32) (a2 : Int32) (y0 : Int32) (st : List Value) (M : xM) (Q : Option Value → xM → Prop), xW xSR 150 35 [.ref a0, .int a1, .int a2] (.int y0 :: st) M Q = xW xSR 150 36 [.ref a0, .int y0, .int a2] (st) M Q) :=
  fun a0 a1 a2 y0 st M Q => xw_s rfl rfl
set_option maxRecDepth 20000 in
theorem h150_44 :
  (∀ (a0 : Nat) (a1 : Int32) (a2 : Int32) (st : List Value) (M : xM) (Q : Option Value → xM → Prop), xW xSR 150 44 [.ref a0, .int a1, .int a2] (st) M Q = xW xSR 150 45 [.ref a0, .int a1, .int a2] (.int a2 :: st) M Q) :=
  fun a0 a1 a2 st M Q => xw_s rfl rfl
set_option maxRecDepth 20000 in
theorem h150_76 :
  (∀ (a0 : Nat) (a1 : Int32) (a2 : Int32) (st : List Value) (M : xM) (Q : Option Value → xM → Prop), xW xSR 150 76 [.ref a0, .int a1, .int a2] (st) M Q = xW xSR 150 77 [.ref a0, .int a1, .int a2] (.int a1 :: st) M Q) :=
  fun a0 a1 a2 st M Q => xw_s rfl rfl
set_option maxRecDepth 20000 in
theorem j150 :
  (∀ (a0 : Nat) (a1 : Int32) (a2 : Int32) (st : List Value) (M : xM) (Q : Option Value → xM → Prop), xW xSR 150 34 [.ref a0, .int a1, .int a2] (st) M Q = xW xSR 150 35 [.ref a0, .int a1, .int a2] (.int (nI 0) :: st) M Q) ∧
  (∀ (a0 : Nat) (a1 : Int32) (a2 : Int32) (y0 : Int32) (st : List Value) (M : xM) (Q : Option Value → xM → Prop), xW xSR 150 35 [.ref a0, .int a1, .int a2] (.int y0 :: st) M Q = xW xSR 150 36 [.ref a0, .int y0, .int a2] (st) M Q) ∧
  (∀ (a0 : Nat) (a1 : Int32) (a2 : Int32) (st : List Value) (M : xM) (Q : Option Value → xM → Prop), xW xSR 150 76 [.ref a0, .int a1, .int a2] (st) M Q = xW xSR 150 77 [.ref a0, .int a1, .int a2] (.int a1 :: st) M Q) :=
  ⟨fun a0 a1 a2 st M Q => xw_s rfl rfl,
  fun a0 a1 a2 y0 st M Q => xw_s rfl rfl,
  fun a0 a1 a2 st M Q => xw_s rfl rfl⟩

set_option maxRecDepth 20000 in
theorem s151 :
  (∀ (a0 : Nat) (a1 : Value) (st : List Value) (M : xM) (Q : Option Value → xM → Prop), xW xSR 151 0 [.ref a0, a1] (st) M Q = xW xSR 151 1 [.ref a0, a1] (.ref a0 :: st) M Q) ∧
  (∀ (a0 : Nat) (a1 : Value) (st : List Value) (M : xM) (Q : Option Value → xM → Prop), xW xSR 151 1 [.ref a0, a1] (st) M Q = xW xSR 151 2 [.ref a0, a1] (.int (nI 2) :: st) M Q) ∧
  (∀ (a0 : Nat) (a1 : Value) (y0 : Int32) (M : xM) (Q : Option Value → xM → Prop), xW xSR 151 2 [.ref a0, a1] (.int y0 :: .ref 0 :: []) M Q = xW xSR 146 0 [.ref 0, .int y0, .null, .null, .null, .null] [] M (fun v M' => xW xSR 151 5 [.ref a0, a1] (xpush v []) M' Q)) ∧
  (∀ (a0 : Nat) (a1 : Value) (y0 : Int32) (st : List Value) (M : xM) (Q : Option Value → xM → Prop), xW xSR 151 5 [.ref a0, a1] (.int y0 :: st) M Q = if y0 = nI 0 then xW xSR 151 33 [.ref a0, a1] (st) M Q else xW xSR 151 8 [.ref a0, a1] (st) M Q) ∧
  (∀ (a0 : Nat) (a1 : Value) (st : List Value) (M : xM) (Q : Option Value → xM → Prop), xW xSR 151 8 [.ref a0, a1] (st) M Q = xW xSR 151 9 [.ref a0, a1] (.ref a0 :: st) M Q) ∧
  (∀ (a0 : Nat) (a1 : Value) (st : List Value) (M : xM) (Q : Option Value → xM → Prop), xW xSR 151 9 [.ref a0, a1] (.ref 0 :: st) M Q = xW xSR 151 12 [.ref a0, a1] (.ref 4 :: st) M Q) ∧
  (∀ (a0 : Nat) (a1 : Value) (st : List Value) (M : xM) (Q : Option Value → xM → Prop), xW xSR 151 12 [.ref a0, a1] (st) M Q = xW xSR 151 13 [.ref a0, a1] (.int (nI 0) :: st) M Q) ∧
  (∀ (a0 : Nat) (a1 : Value) (y0 : Nat) (st : List Value) (M : xM) (Q : Option Value → xM → Prop), y0 < 6 → xW xSR 151 13 [.ref a0, a1] (.int (nI y0) :: .ref 4 :: st) M Q = xW xSR 151 14 [.ref a0, a1] (.int (M 4 y0) :: st) M Q) ∧
  (∀ (a0 : Nat) (a1 : Value) (st : List Value) (M : xM) (Q : Option Value → xM → Prop), xW xSR 151 14 [.ref a0, a1] (st) M Q = xW xSR 151 15 [.ref a0, a1] (.int (nI 4) :: st) M Q) ∧
  (∀ (a0 : Nat) (a1 : Value) (y0 : Int32) (y1 : Int32) (st : List Value) (M : xM) (Q : Option Value → xM → Prop), xW xSR 151 15 [.ref a0, a1] (.int y0 :: .int y1 :: st) M Q = if y1 < y0 then xW xSR 151 18 [.ref a0, a1] (st) M Q else xW xSR 151 33 [.ref a0, a1] (st) M Q) ∧
  (∀ (a0 : Nat) (a1 : Value) (st : List Value) (M : xM) (Q : Option Value → xM → Prop), xW xSR 151 18 [.ref a0, a1] (st) M Q = xW xSR 151 19 [.ref a0, a1] (.ref a0 :: st) M Q) ∧
  (∀ (a0 : Nat) (a1 : Value) (st : List Value) (M : xM) (Q : Option Value → xM → Prop), xW xSR 151 19 [.ref a0, a1] (.ref 0 :: st) M Q = xW xSR 151 22 [.ref a0, a1] (.ref 4 :: st) M Q) ∧
  (∀ (a0 : Nat) (a1 : Value) (st : List Value) (M : xM) (Q : Option Value → xM → Prop), xW xSR 151 22 [.ref a0, a1] (st) M Q = xW xSR 151 23 [.ref a0, a1] (.int (nI 1) :: st) M Q) ∧
  (∀ (a0 : Nat) (a1 : Value) (y0 : Nat) (st : List Value) (M : xM) (Q : Option Value → xM → Prop), y0 < 6 → xW xSR 151 23 [.ref a0, a1] (.int (nI y0) :: .ref 4 :: st) M Q = xW xSR 151 24 [.ref a0, a1] (.int (M 4 y0) :: st) M Q) ∧
  (∀ (a0 : Nat) (a1 : Value) (st : List Value) (M : xM) (Q : Option Value → xM → Prop), xW xSR 151 24 [.ref a0, a1] (st) M Q = xW xSR 151 26 [.ref a0, a1] (.int (nI 21) :: st) M Q) ∧
  (∀ (a0 : Nat) (a1 : Value) (y0 : Int32) (y1 : Int32) (st : List Value) (M : xM) (Q : Option Value → xM → Prop), xW xSR 151 26 [.ref a0, a1] (.int y0 :: .int y1 :: st) M Q = if y1 < y0 then xW xSR 151 29 [.ref a0, a1] (st) M Q else xW xSR 151 33 [.ref a0, a1] (st) M Q) ∧
  (∀ (a0 : Nat) (a1 : Value) (st : List Value) (M : xM) (Q : Option Value → xM → Prop), xW xSR 151 29 [.ref a0, a1] (st) M Q = xW xSR 151 30 [.ref a0, a1] (.int (nI 1) :: st) M Q) ∧
  (∀ (a0 : Nat) (a1 : Value) (st : List Value) (M : xM) (Q : Option Value → xM → Prop), xW xSR 151 30 [.ref a0, a1] (st) M Q = xW xSR 151 34 [.ref a0, a1] (st) M Q) ∧
  (∀ (a0 : Nat) (a1 : Int32) (st : List Value) (M : xM) (Q : Option Value → xM → Prop), xW xSR 151 35 [.ref a0, .int a1] (st) M Q = xW xSR 151 36 [.ref a0, .int a1] (.int a1 :: st) M Q) ∧
  (∀ (a0 : Nat) (a1 : Int32) (y0 : Int32) (st : List Value) (M : xM) (Q : Option Value → xM → Prop), xW xSR 151 36 [.ref a0, .int a1] (.int y0 :: st) M Q = if y0 = nI 0 then xW xSR 151 60 [.ref a0, .int a1] (st) M Q else xW xSR 151 39 [.ref a0, .int a1] (st) M Q) ∧
  (∀ (a0 : Nat) (a1 : Int32) (st : List Value) (M : xM) (Q : Option Value → xM → Prop), xW xSR 151 39 [.ref a0, .int a1] (st) M Q = xW xSR 151 40 [.ref a0, .int a1] (.ref a0 :: st) M Q) ∧
  (∀ (a0 : Nat) (a1 : Int32) (st : List Value) (M : xM) (Q : Option Value → xM → Prop), xW xSR 151 40 [.ref a0, .int a1] (.ref 0 :: st) M Q = xW xSR 151 43 [.ref a0, .int a1] (.ref 3 :: st) M Q) ∧
  (∀ (a0 : Nat) (a1 : Int32) (st : List Value) (M : xM) (Q : Option Value → xM → Prop), xW xSR 151 43 [.ref a0, .int a1] (st) M Q = xW xSR 151 46 [.ref a0, .int a1] (.int (nI 152) :: st) M Q) ∧
  (∀ (a0 : Nat) (a1 : Int32) (st : List Value) (M : xM) (Q : Option Value → xM → Prop), xW xSR 151 46 [.ref a0, .int a1] (st) M Q = xW xSR 151 47 [.ref a0, .int a1] (.ref a0 :: st) M Q) ∧
  (∀ (a0 : Nat) (a1 : Int32) (st : List Value) (M : xM) (Q : Option Value → xM → Prop), xW xSR 151 47 [.ref a0, .int a1] (.ref 0 :: st) M Q = xW xSR 151 50 [.ref a0, .int a1] (.ref 4 :: st) M Q) ∧
  (∀ (a0 : Nat) (a1 : Int32) (st : List Value) (M : xM) (Q : Option Value → xM → Prop), xW xSR 151 50 [.ref a0, .int a1] (st) M Q = xW xSR 151 51 [.ref a0, .int a1] (.int (nI 0) :: st) M Q) ∧
  (∀ (a0 : Nat) (a1 : Int32) (y0 : Nat) (st : List Value) (M : xM) (Q : Option Value → xM → Prop), y0 < 6 → xW xSR 151 51 [.ref a0, .int a1] (.int (nI y0) :: .ref 4 :: st) M Q = xW xSR 151 52 [.ref a0, .int a1] (.int (M 4 y0) :: st) M Q) ∧
  (∀ (a0 : Nat) (a1 : Int32) (y0 : Int32) (y1 : Int32) (st : List Value) (M : xM) (Q : Option Value → xM → Prop), xW xSR 151 52 [.ref a0, .int a1] (.int y0 :: .int y1 :: st) M Q = xW xSR 151 53 [.ref a0, .int a1] (.int (y1 + y0) :: st) M Q) ∧
  (∀ (a0 : Nat) (a1 : Int32) (st : List Value) (M : xM) (Q : Option Value → xM → Prop), xW xSR 151 53 [.ref a0, .int a1] (st) M Q = xW xSR 151 54 [.ref a0, .int a1] (.ref a0 :: st) M Q) ∧
  (∀ (a0 : Nat) (a1 : Int32) (st : List Value) (M : xM) (Q : Option Value → xM → Prop), xW xSR 151 54 [.ref a0, .int a1] (.ref 0 :: st) M Q = xW xSR 151 57 [.ref a0, .int a1] (.ref 4 :: st) M Q) ∧
  (∀ (a0 : Nat) (a1 : Int32) (st : List Value) (M : xM) (Q : Option Value → xM → Prop), xW xSR 151 57 [.ref a0, .int a1] (st) M Q = xW xSR 151 58 [.ref a0, .int a1] (.int (nI 1) :: st) M Q) ∧
  (∀ (a0 : Nat) (a1 : Int32) (y0 : Nat) (st : List Value) (M : xM) (Q : Option Value → xM → Prop), y0 < 6 → xW xSR 151 58 [.ref a0, .int a1] (.int (nI y0) :: .ref 4 :: st) M Q = xW xSR 151 59 [.ref a0, .int a1] (.int (M 4 y0) :: st) M Q) ∧
  (∀ (a0 : Nat) (a1 : Int32) (y0 : Int32) (y1 : Nat) (st : List Value) (M : xM) (Q : Option Value → xM → Prop), y1 < 156 → xW xSR 151 59 [.ref a0, .int a1] (.int y0 :: .int (nI y1) :: .ref 3 :: st) M Q = xW xSR 151 60 [.ref a0, .int a1] (st) (xup M 3 y1 y0) Q) ∧
  (∀ (a0 : Nat) (a1 : Int32) (y0 : Int32) (M : xM) (Q : Option Value → xM → Prop), y0 = 0 ∨ y0 = 1 → xW xSR 151 61 [.ref a0, .int a1] ([.int y0]) M Q = Q (some (.int y0)) M) :=
  ⟨fun a0 a1 st M Q => xw_s rfl rfl,
  fun a0 a1 st M Q => xw_s rfl rfl,
  fun a0 a1 y0 M Q => xw_call rfl rfl rfl,
  fun a0 a1 y0 st M Q => xw_br (c0 := y0 = nI 0) rfl rfl,
  fun a0 a1 st M Q => xw_s rfl rfl,
  fun a0 a1 st M Q => xw_s rfl rfl,
  fun a0 a1 st M Q => xw_s rfl rfl,
  fun a0 a1 y0 st M Q h0 => xw_ald rfl rfl rfl (by decide) h0,
  fun a0 a1 st M Q => xw_s rfl rfl,
  fun a0 a1 y0 y1 st M Q => xw_brn (c0 := y0 ≤ y1) (c1 := y1 < y0) rfl rfl (xge _ _),
  fun a0 a1 st M Q => xw_s rfl rfl,
  fun a0 a1 st M Q => xw_s rfl rfl,
  fun a0 a1 st M Q => xw_s rfl rfl,
  fun a0 a1 y0 st M Q h0 => xw_ald rfl rfl rfl (by decide) h0,
  fun a0 a1 st M Q => xw_s rfl rfl,
  fun a0 a1 y0 y1 st M Q => xw_brn (c0 := y0 ≤ y1) (c1 := y1 < y0) rfl rfl (xge _ _),
  fun a0 a1 st M Q => xw_s rfl rfl,
  fun a0 a1 st M Q => xw_s rfl rfl,
  fun a0 a1 st M Q => xw_s rfl rfl,
  fun a0 a1 y0 st M Q => xw_br (c0 := y0 = nI 0) rfl rfl,
  fun a0 a1 st M Q => xw_s rfl rfl,
  fun a0 a1 st M Q => xw_s rfl rfl,
  fun a0 a1 st M Q => xw_s rfl rfl,
  fun a0 a1 st M Q => xw_s rfl rfl,
  fun a0 a1 st M Q => xw_s rfl rfl,
  fun a0 a1 st M Q => xw_s rfl rfl,
  fun a0 a1 y0 st M Q h0 => xw_ald rfl rfl rfl (by decide) h0,
  fun a0 a1 y0 y1 st M Q => xw_s rfl rfl,
  fun a0 a1 st M Q => xw_s rfl rfl,
  fun a0 a1 st M Q => xw_s rfl rfl,
  fun a0 a1 st M Q => xw_s rfl rfl,
  fun a0 a1 y0 st M Q h0 => xw_ald rfl rfl rfl (by decide) h0,
  fun a0 a1 y0 y1 st M Q h0 => xw_ast (f := fun x => x) rfl rfl rfl (by decide) h0,
  fun a0 a1 y0 M Q h0 => xw_retz rfl rfl h0⟩
set_option maxRecDepth 20000 in
theorem h151_33 :
  (∀ (a0 : Nat) (a1 : Value) (st : List Value) (M : xM) (Q : Option Value → xM → Prop), xW xSR 151 33 [.ref a0, a1] (st) M Q = xW xSR 151 34 [.ref a0, a1] (.int (nI 0) :: st) M Q) :=
  fun a0 a1 st M Q => xw_s rfl rfl
set_option maxRecDepth 20000 in
theorem h151_34 :
  (∀ (a0 : Nat) (a1 : Value) (y0 : Int32) (st : List Value) (M : xM) (Q : Option Value → xM → Prop), xW xSR 151 34 [.ref a0, a1] (.int y0 :: st) M Q = xW xSR 151 35 [.ref a0, .int y0] (st) M Q) :=
  fun a0 a1 y0 st M Q => xw_s rfl rfl
set_option maxRecDepth 20000 in
theorem h151_60 :
  (∀ (a0 : Nat) (a1 : Int32) (st : List Value) (M : xM) (Q : Option Value → xM → Prop), xW xSR 151 60 [.ref a0, .int a1] (st) M Q = xW xSR 151 61 [.ref a0, .int a1] (.int a1 :: st) M Q) :=
  fun a0 a1 st M Q => xw_s rfl rfl
set_option maxRecDepth 20000 in
theorem j151 :
  (∀ (a0 : Nat) (a1 : Value) (st : List Value) (M : xM) (Q : Option Value → xM → Prop), xW xSR 151 33 [.ref a0, a1] (st) M Q = xW xSR 151 34 [.ref a0, a1] (.int (nI 0) :: st) M Q) ∧
  (∀ (a0 : Nat) (a1 : Value) (y0 : Int32) (st : List Value) (M : xM) (Q : Option Value → xM → Prop), xW xSR 151 34 [.ref a0, a1] (.int y0 :: st) M Q = xW xSR 151 35 [.ref a0, .int y0] (st) M Q) ∧
  (∀ (a0 : Nat) (a1 : Int32) (st : List Value) (M : xM) (Q : Option Value → xM → Prop), xW xSR 151 60 [.ref a0, .int a1] (st) M Q = xW xSR 151 61 [.ref a0, .int a1] (.int a1 :: st) M Q) :=
  ⟨fun a0 a1 st M Q => xw_s rfl rfl,
  fun a0 a1 y0 st M Q => xw_s rfl rfl,
  fun a0 a1 st M Q => xw_s rfl rfl⟩

set_option maxRecDepth 20000 in
theorem s152 :
  (∀ (a0 : Nat) (a1 : Value) (st : List Value) (M : xM) (Q : Option Value → xM → Prop), xW xSR 152 0 [.ref a0, a1] (st) M Q = xW xSR 152 1 [.ref a0, a1] (.ref a0 :: st) M Q) ∧
  (∀ (a0 : Nat) (a1 : Value) (st : List Value) (M : xM) (Q : Option Value → xM → Prop), xW xSR 152 1 [.ref a0, a1] (.ref 0 :: st) M Q = xW xSR 152 4 [.ref a0, a1] (.ref 3 :: st) M Q) ∧
  (∀ (a0 : Nat) (a1 : Value) (st : List Value) (M : xM) (Q : Option Value → xM → Prop), xW xSR 152 4 [.ref a0, a1] (st) M Q = xW xSR 152 5 [.ref a0, a1] (.int (nI 2) :: st) M Q) ∧
  (∀ (a0 : Nat) (a1 : Value) (y0 : Nat) (st : List Value) (M : xM) (Q : Option Value → xM → Prop), y0 < 156 → xW xSR 152 5 [.ref a0, a1] (.int (nI y0) :: .ref 3 :: st) M Q = xW xSR 152 6 [.ref a0, a1] (.int (M 3 y0) :: st) M Q) ∧
  (∀ (a0 : Nat) (a1 : Value) (st : List Value) (M : xM) (Q : Option Value → xM → Prop), xW xSR 152 6 [.ref a0, a1] (st) M Q = xW xSR 152 7 [.ref a0, a1] (.int (nI 5) :: st) M Q) ∧
  (∀ (a0 : Nat) (a1 : Value) (y0 : Int32) (y1 : Int32) (st : List Value) (M : xM) (Q : Option Value → xM → Prop), xW xSR 152 7 [.ref a0, a1] (.int y0 :: .int y1 :: st) M Q = if y1 < y0 then xW xSR 152 10 [.ref a0, a1] (st) M Q else xW xSR 152 47 [.ref a0, a1] (st) M Q) ∧
  (∀ (a0 : Nat) (a1 : Value) (st : List Value) (M : xM) (Q : Option Value → xM → Prop), xW xSR 152 10 [.ref a0, a1] (st) M Q = xW xSR 152 11 [.ref a0, a1] (.ref a0 :: st) M Q) ∧
  (∀ (a0 : Nat) (a1 : Value) (st : List Value) (M : xM) (Q : Option Value → xM → Prop), xW xSR 152 11 [.ref a0, a1] (st) M Q = xW xSR 152 12 [.ref a0, a1] (.int (nI 2) :: st) M Q) ∧
  (∀ (a0 : Nat) (a1 : Value) (y0 : Int32) (M : xM) (Q : Option Value → xM → Prop), xW xSR 152 12 [.ref a0, a1] (.int y0 :: .ref 0 :: []) M Q = xW xSR 146 0 [.ref 0, .int y0, .null, .null, .null, .null] [] M (fun v M' => xW xSR 152 15 [.ref a0, a1] (xpush v []) M' Q)) ∧
  (∀ (a0 : Nat) (a1 : Value) (y0 : Int32) (st : List Value) (M : xM) (Q : Option Value → xM → Prop), xW xSR 152 15 [.ref a0, a1] (.int y0 :: st) M Q = if y0 = nI 0 then xW xSR 152 47 [.ref a0, a1] (st) M Q else xW xSR 152 18 [.ref a0, a1] (st) M Q) ∧
  (∀ (a0 : Nat) (a1 : Value) (st : List Value) (M : xM) (Q : Option Value → xM → Prop), xW xSR 152 18 [.ref a0, a1] (st) M Q = xW xSR 152 19 [.ref a0, a1] (.ref a0 :: st) M Q) ∧
  (∀ (a0 : Nat) (a1 : Value) (st : List Value) (M : xM) (Q : Option Value → xM → Prop), xW xSR 152 19 [.ref a0, a1] (.ref 0 :: st) M Q = xW xSR 152 22 [.ref a0, a1] (.ref 4 :: st) M Q) ∧
  (∀ (a0 : Nat) (a1 : Value) (st : List Value) (M : xM) (Q : Option Value → xM → Prop), xW xSR 152 22 [.ref a0, a1] (st) M Q = xW xSR 152 23 [.ref a0, a1] (.int (nI 0) :: st) M Q) ∧
  (∀ (a0 : Nat) (a1 : Value) (y0 : Nat) (st : List Value) (M : xM) (Q : Option Value → xM → Prop), y0 < 6 → xW xSR 152 23 [.ref a0, a1] (.int (nI y0) :: .ref 4 :: st) M Q = xW xSR 152 24 [.ref a0, a1] (.int (M 4 y0) :: st) M Q) ∧
  (∀ (a0 : Nat) (a1 : Value) (st : List Value) (M : xM) (Q : Option Value → xM → Prop), xW xSR 152 24 [.ref a0, a1] (st) M Q = xW xSR 152 25 [.ref a0, a1] (.ref a0 :: st) M Q) ∧
  (∀ (a0 : Nat) (a1 : Value) (st : List Value) (M : xM) (Q : Option Value → xM → Prop), xW xSR 152 25 [.ref a0, a1] (.ref 0 :: st) M Q = xW xSR 152 28 [.ref a0, a1] (.ref 3 :: st) M Q) ∧
  (∀ (a0 : Nat) (a1 : Value) (st : List Value) (M : xM) (Q : Option Value → xM → Prop), xW xSR 152 28 [.ref a0, a1] (st) M Q = xW xSR 152 29 [.ref a0, a1] (.int (nI 0) :: st) M Q) ∧
  (∀ (a0 : Nat) (a1 : Value) (y0 : Nat) (st : List Value) (M : xM) (Q : Option Value → xM → Prop), y0 < 156 → xW xSR 152 29 [.ref a0, a1] (.int (nI y0) :: .ref 3 :: st) M Q = xW xSR 152 30 [.ref a0, a1] (.int (M 3 y0) :: st) M Q) ∧
  (∀ (a0 : Nat) (a1 : Value) (y0 : Int32) (y1 : Int32) (st : List Value) (M : xM) (Q : Option Value → xM → Prop), xW xSR 152 30 [.ref a0, a1] (.int y0 :: .int y1 :: st) M Q = if y1 < y0 then xW xSR 152 33 [.ref a0, a1] (st) M Q else xW xSR 152 47 [.ref a0, a1] (st) M Q) ∧
  (∀ (a0 : Nat) (a1 : Value) (st : List Value) (M : xM) (Q : Option Value → xM → Prop), xW xSR 152 33 [.ref a0, a1] (st) M Q = xW xSR 152 34 [.ref a0, a1] (.ref a0 :: st) M Q) ∧
  (∀ (a0 : Nat) (a1 : Value) (st : List Value) (M : xM) (Q : Option Value → xM → Prop), xW xSR 152 34 [.ref a0, a1] (.ref 0 :: st) M Q = xW xSR 152 37 [.ref a0, a1] (.ref 4 :: st) M Q) ∧
  (∀ (a0 : Nat) (a1 : Value) (st : List Value) (M : xM) (Q : Option Value → xM → Prop), xW xSR 152 37 [.ref a0, a1] (st) M Q = xW xSR 152 38 [.ref a0, a1] (.int (nI 1) :: st) M Q) ∧
  (∀ (a0 : Nat) (a1 : Value) (y0 : Nat) (st : List Value) (M : xM) (Q : Option Value → xM → Prop), y0 < 6 → xW xSR 152 38 [.ref a0, a1] (.int (nI y0) :: .ref 4 :: st) M Q = xW xSR 152 39 [.ref a0, a1] (.int (M 4 y0) :: st) M Q) ∧
  (∀ (a0 : Nat) (a1 : Value) (st : List Value) (M : xM) (Q : Option Value → xM → Prop), xW xSR 152 39 [.ref a0, a1] (st) M Q = xW xSR 152 40 [.ref a0, a1] (.int (nI 2) :: st) M Q) ∧
  (∀ (a0 : Nat) (a1 : Value) (y0 : Int32) (y1 : Int32) (st : List Value) (M : xM) (Q : Option Value → xM → Prop), xW xSR 152 40 [.ref a0, a1] (.int y0 :: .int y1 :: st) M Q = if y1 < y0 then xW xSR 152 43 [.ref a0, a1] (st) M Q else xW xSR 152 47 [.ref a0, a1] (st) M Q) ∧
  (∀ (a0 : Nat) (a1 : Value) (st : List Value) (M : xM) (Q : Option Value → xM → Prop), xW xSR 152 43 [.ref a0, a1] (st) M Q = xW xSR 152 44 [.ref a0, a1] (.int (nI 1) :: st) M Q) ∧
  (∀ (a0 : Nat) (a1 : Value) (st : List Value) (M : xM) (Q : Option Value → xM → Prop), xW xSR 152 44 [.ref a0, a1] (st) M Q = xW xSR 152 48 [.ref a0, a1] (st) M Q) ∧
  (∀ (a0 : Nat) (a1 : Int32) (st : List Value) (M : xM) (Q : Option Value → xM → Prop), xW xSR 152 49 [.ref a0, .int a1] (st) M Q = xW xSR 152 50 [.ref a0, .int a1] (.int a1 :: st) M Q) ∧
  (∀ (a0 : Nat) (a1 : Int32) (y0 : Int32) (st : List Value) (M : xM) (Q : Option Value → xM → Prop), xW xSR 152 50 [.ref a0, .int a1] (.int y0 :: st) M Q = if y0 = nI 0 then xW xSR 152 109 [.ref a0, .int a1] (st) M Q else xW xSR 152 53 [.ref a0, .int a1] (st) M Q) ∧
  (∀ (a0 : Nat) (a1 : Int32) (st : List Value) (M : xM) (Q : Option Value → xM → Prop), xW xSR 152 53 [.ref a0, .int a1] (st) M Q = xW xSR 152 54 [.ref a0, .int a1] (.ref a0 :: st) M Q) ∧
  (∀ (a0 : Nat) (a1 : Int32) (st : List Value) (M : xM) (Q : Option Value → xM → Prop), xW xSR 152 54 [.ref a0, .int a1] (.ref 0 :: st) M Q = xW xSR 152 57 [.ref a0, .int a1] (.ref 3 :: st) M Q) ∧
  (∀ (a0 : Nat) (a1 : Int32) (st : List Value) (M : xM) (Q : Option Value → xM → Prop), xW xSR 152 57 [.ref a0, .int a1] (st) M Q = xW xSR 152 59 [.ref a0, .int a1] (.int (nI 51) :: st) M Q) ∧
  (∀ (a0 : Nat) (a1 : Int32) (st : List Value) (M : xM) (Q : Option Value → xM → Prop), xW xSR 152 59 [.ref a0, .int a1] (st) M Q = xW xSR 152 60 [.ref a0, .int a1] (.int (nI 3) :: st) M Q) ∧
  (∀ (a0 : Nat) (a1 : Int32) (st : List Value) (M : xM) (Q : Option Value → xM → Prop), xW xSR 152 60 [.ref a0, .int a1] (st) M Q = xW xSR 152 61 [.ref a0, .int a1] (.ref a0 :: st) M Q) ∧
  (∀ (a0 : Nat) (a1 : Int32) (st : List Value) (M : xM) (Q : Option Value → xM → Prop), xW xSR 152 61 [.ref a0, .int a1] (.ref 0 :: st) M Q = xW xSR 152 64 [.ref a0, .int a1] (.ref 3 :: st) M Q) ∧
  (∀ (a0 : Nat) (a1 : Int32) (st : List Value) (M : xM) (Q : Option Value → xM → Prop), xW xSR 152 64 [.ref a0, .int a1] (st) M Q = xW xSR 152 65 [.ref a0, .int a1] (.int (nI 2) :: st) M Q) ∧
  (∀ (a0 : Nat) (a1 : Int32) (y0 : Nat) (st : List Value) (M : xM) (Q : Option Value → xM → Prop), y0 < 156 → xW xSR 152 65 [.ref a0, .int a1] (.int (nI y0) :: .ref 3 :: st) M Q = xW xSR 152 66 [.ref a0, .int a1] (.int (M 3 y0) :: st) M Q) ∧
  (∀ (a0 : Nat) (a1 : Int32) (y0 : Int32) (y1 : Int32) (st : List Value) (M : xM) (Q : Option Value → xM → Prop), xW xSR 152 66 [.ref a0, .int a1] (.int y0 :: .int y1 :: st) M Q = xW xSR 152 67 [.ref a0, .int a1] (.int (y1 * y0) :: st) M Q) ∧
  (∀ (a0 : Nat) (a1 : Int32) (y0 : Int32) (y1 : Int32) (st : List Value) (M : xM) (Q : Option Value → xM → Prop), xW xSR 152 67 [.ref a0, .int a1] (.int y0 :: .int y1 :: st) M Q = xW xSR 152 68 [.ref a0, .int a1] (.int (y1 + y0) :: st) M Q) ∧
  (∀ (a0 : Nat) (a1 : Int32) (st : List Value) (M : xM) (Q : Option Value → xM → Prop), xW xSR 152 68 [.ref a0, .int a1] (st) M Q = xW xSR 152 69 [.ref a0, .int a1] (.ref a0 :: st) M Q) ∧
  (∀ (a0 : Nat) (a1 : Int32) (st : List Value) (M : xM) (Q : Option Value → xM → Prop), xW xSR 152 69 [.ref a0, .int a1] (.ref 0 :: st) M Q = xW xSR 152 72 [.ref a0, .int a1] (.ref 4 :: st) M Q) ∧
  (∀ (a0 : Nat) (a1 : Int32) (st : List Value) (M : xM) (Q : Option Value → xM → Prop), xW xSR 152 72 [.ref a0, .int a1] (st) M Q = xW xSR 152 73 [.ref a0, .int a1] (.int (nI 0) :: st) M Q) ∧
  (∀ (a0 : Nat) (a1 : Int32) (y0 : Nat) (st : List Value) (M : xM) (Q : Option Value → xM → Prop), y0 < 6 → xW xSR 152 73 [.ref a0, .int a1] (.int (nI y0) :: .ref 4 :: st) M Q = xW xSR 152 74 [.ref a0, .int a1] (.int (M 4 y0) :: st) M Q) ∧
  (∀ (a0 : Nat) (a1 : Int32) (y0 : Int32) (y1 : Nat) (st : List Value) (M : xM) (Q : Option Value → xM → Prop), y1 < 156 → xW xSR 152 74 [.ref a0, .int a1] (.int y0 :: .int (nI y1) :: .ref 3 :: st) M Q = xW xSR 152 75 [.ref a0, .int a1] (st) (xup M 3 y1 y0) Q) ∧
  (∀ (a0 : Nat) (a1 : Int32) (st : List Value) (M : xM) (Q : Option Value → xM → Prop), xW xSR 152 75 [.ref a0, .int a1] (st) M Q = xW xSR 152 76 [.ref a0, .int a1] (.ref a0 :: st) M Q) ∧
  (∀ (a0 : Nat) (a1 : Int32) (st : List Value) (M : xM) (Q : Option Value → xM → Prop), xW xSR 152 76 [.ref a0, .int a1] (.ref 0 :: st) M Q = xW xSR 152 79 [.ref a0, .int a1] (.ref 3 :: st) M Q) ∧
  (∀ (a0 : Nat) (a1 : Int32) (st : List Value) (M : xM) (Q : Option Value → xM → Prop), xW xSR 152 79 [.ref a0, .int a1] (st) M Q = xW xSR 152 81 [.ref a0, .int a1] (.int (nI 51) :: st) M Q) ∧
  (∀ (a0 : Nat) (a1 : Int32) (st : List Value) (M : xM) (Q : Option Value → xM → Prop), xW xSR 152 81 [.ref a0, .int a1] (st) M Q = xW xSR 152 82 [.ref a0, .int a1] (.int (nI 3) :: st) M Q) ∧
  (∀ (a0 : Nat) (a1 : Int32) (st : List Value) (M : xM) (Q : Option Value → xM → Prop), xW xSR 152 82 [.ref a0, .int a1] (st) M Q = xW xSR 152 83 [.ref a0, .int a1] (.ref a0 :: st) M Q) ∧
  (∀ (a0 : Nat) (a1 : Int32) (st : List Value) (M : xM) (Q : Option Value → xM → Prop), xW xSR 152 83 [.ref a0, .int a1] (.ref 0 :: st) M Q = xW xSR 152 86 [.ref a0, .int a1] (.ref 3 :: st) M Q) ∧
  (∀ (a0 : Nat) (a1 : Int32) (st : List Value) (M : xM) (Q : Option Value → xM → Prop), xW xSR 152 86 [.ref a0, .int a1] (st) M Q = xW xSR 152 87 [.ref a0, .int a1] (.int (nI 2) :: st) M Q) ∧
  (∀ (a0 : Nat) (a1 : Int32) (y0 : Nat) (st : List Value) (M : xM) (Q : Option Value → xM → Prop), y0 < 156 → xW xSR 152 87 [.ref a0, .int a1] (.int (nI y0) :: .ref 3 :: st) M Q = xW xSR 152 88 [.ref a0, .int a1] (.int (M 3 y0) :: st) M Q) ∧
  (∀ (a0 : Nat) (a1 : Int32) (y0 : Int32) (y1 : Int32) (st : List Value) (M : xM) (Q : Option Value → xM → Prop), xW xSR 152 88 [.ref a0, .int a1] (.int y0 :: .int y1 :: st) M Q = xW xSR 152 89 [.ref a0, .int a1] (.int (y1 * y0) :: st) M Q) ∧
  (∀ (a0 : Nat) (a1 : Int32) (y0 : Int32) (y1 : Int32) (st : List Value) (M : xM) (Q : Option Value → xM → Prop), xW xSR 152 89 [.ref a0, .int a1] (.int y0 :: .int y1 :: st) M Q = xW xSR 152 90 [.ref a0, .int a1] (.int (y1 + y0) :: st) M Q) ∧
  (∀ (a0 : Nat) (a1 : Int32) (st : List Value) (M : xM) (Q : Option Value → xM → Prop), xW xSR 152 90 [.ref a0, .int a1] (st) M Q = xW xSR 152 91 [.ref a0, .int a1] (.int (nI 1) :: st) M Q) ∧
  (∀ (a0 : Nat) (a1 : Int32) (y0 : Int32) (y1 : Int32) (st : List Value) (M : xM) (Q : Option Value → xM → Prop), xW xSR 152 91 [.ref a0, .int a1] (.int y0 :: .int y1 :: st) M Q = xW xSR 152 92 [.ref a0, .int a1] (.int (y1 + y0) :: st) M Q) ∧
  (∀ (a0 : Nat) (a1 : Int32) (st : List Value) (M : xM) (Q : Option Value → xM → Prop), xW xSR 152 92 [.ref a0, .int a1] (st) M Q = xW xSR 152 93 [.ref a0, .int a1] (.ref a0 :: st) M Q) ∧
  (∀ (a0 : Nat) (a1 : Int32) (st : List Value) (M : xM) (Q : Option Value → xM → Prop), xW xSR 152 93 [.ref a0, .int a1] (.ref 0 :: st) M Q = xW xSR 152 96 [.ref a0, .int a1] (.ref 4 :: st) M Q) ∧
  (∀ (a0 : Nat) (a1 : Int32) (st : List Value) (M : xM) (Q : Option Value → xM → Prop), xW xSR 152 96 [.ref a0, .int a1] (st) M Q = xW xSR 152 97 [.ref a0, .int a1] (.int (nI 1) :: st) M Q) ∧
  (∀ (a0 : Nat) (a1 : Int32) (y0 : Nat) (st : List Value) (M : xM) (Q : Option Value → xM → Prop), y0 < 6 → xW xSR 152 97 [.ref a0, .int a1] (.int (nI y0) :: .ref 4 :: st) M Q = xW xSR 152 98 [.ref a0, .int a1] (.int (M 4 y0) :: st) M Q) ∧
  (∀ (a0 : Nat) (a1 : Int32) (y0 : Int32) (y1 : Nat) (st : List Value) (M : xM) (Q : Option Value → xM → Prop), y1 < 156 → xW xSR 152 98 [.ref a0, .int a1] (.int y0 :: .int (nI y1) :: .ref 3 :: st) M Q = xW xSR 152 99 [.ref a0, .int a1] (st) (xup M 3 y1 y0) Q) ∧
  (∀ (a0 : Nat) (a1 : Int32) (st : List Value) (M : xM) (Q : Option Value → xM → Prop), xW xSR 152 99 [.ref a0, .int a1] (st) M Q = xW xSR 152 100 [.ref a0, .int a1] (.ref a0 :: st) M Q) ∧
  (∀ (a0 : Nat) (a1 : Int32) (st : List Value) (M : xM) (Q : Option Value → xM → Prop), xW xSR 152 100 [.ref a0, .int a1] (.ref 0 :: st) M Q = xW xSR 152 103 [.ref a0, .int a1] (.ref 3 :: st) M Q) ∧
  (∀ (a0 : Nat) (a1 : Int32) (st : List Value) (M : xM) (Q : Option Value → xM → Prop), xW xSR 152 103 [.ref a0, .int a1] (st) M Q = xW xSR 152 104 [.ref a0, .int a1] (.int (nI 2) :: st) M Q) ∧
  (∀ (a0 : Nat) (a1 : Int32) (y0 : Int32) (y1 : Nat) (st : List Value) (M : xM) (Q : Option Value → xM → Prop), xW xSR 152 104 [.ref a0, .int a1] (.int y0 :: .ref y1 :: st) M Q = xW xSR 152 105 [.ref a0, .int a1] (.int y0 :: .ref y1 :: .int y0 :: .ref y1 :: st) M Q) ∧
  (∀ (a0 : Nat) (a1 : Int32) (y0 : Nat) (st : List Value) (M : xM) (Q : Option Value → xM → Prop), y0 < 156 → xW xSR 152 105 [.ref a0, .int a1] (.int (nI y0) :: .ref 3 :: st) M Q = xW xSR 152 106 [.ref a0, .int a1] (.int (M 3 y0) :: st) M Q) ∧
  (∀ (a0 : Nat) (a1 : Int32) (st : List Value) (M : xM) (Q : Option Value → xM → Prop), xW xSR 152 106 [.ref a0, .int a1] (st) M Q = xW xSR 152 107 [.ref a0, .int a1] (.int (nI 1) :: st) M Q) ∧
  (∀ (a0 : Nat) (a1 : Int32) (y0 : Int32) (y1 : Int32) (st : List Value) (M : xM) (Q : Option Value → xM → Prop), xW xSR 152 107 [.ref a0, .int a1] (.int y0 :: .int y1 :: st) M Q = xW xSR 152 108 [.ref a0, .int a1] (.int (y1 + y0) :: st) M Q) ∧
  (∀ (a0 : Nat) (a1 : Int32) (y0 : Int32) (y1 : Nat) (st : List Value) (M : xM) (Q : Option Value → xM → Prop), y1 < 156 → xW xSR 152 108 [.ref a0, .int a1] (.int y0 :: .int (nI y1) :: .ref 3 :: st) M Q = xW xSR 152 109 [.ref a0, .int a1] (st) (xup M 3 y1 y0) Q) ∧
  (∀ (a0 : Nat) (a1 : Int32) (y0 : Int32) (M : xM) (Q : Option Value → xM → Prop), y0 = 0 ∨ y0 = 1 → xW xSR 152 110 [.ref a0, .int a1] ([.int y0]) M Q = Q (some (.int y0)) M) :=
  ⟨fun a0 a1 st M Q => xw_s rfl rfl,
  fun a0 a1 st M Q => xw_s rfl rfl,
  fun a0 a1 st M Q => xw_s rfl rfl,
  fun a0 a1 y0 st M Q h0 => xw_ald rfl rfl rfl (by decide) h0,
  fun a0 a1 st M Q => xw_s rfl rfl,
  fun a0 a1 y0 y1 st M Q => xw_brn (c0 := y0 ≤ y1) (c1 := y1 < y0) rfl rfl (xge _ _),
  fun a0 a1 st M Q => xw_s rfl rfl,
  fun a0 a1 st M Q => xw_s rfl rfl,
  fun a0 a1 y0 M Q => xw_call rfl rfl rfl,
  fun a0 a1 y0 st M Q => xw_br (c0 := y0 = nI 0) rfl rfl,
  fun a0 a1 st M Q => xw_s rfl rfl,
  fun a0 a1 st M Q => xw_s rfl rfl,
  fun a0 a1 st M Q => xw_s rfl rfl,
  fun a0 a1 y0 st M Q h0 => xw_ald rfl rfl rfl (by decide) h0,
  fun a0 a1 st M Q => xw_s rfl rfl,
  fun a0 a1 st M Q => xw_s rfl rfl,
  fun a0 a1 st M Q => xw_s rfl rfl,
  fun a0 a1 y0 st M Q h0 => xw_ald rfl rfl rfl (by decide) h0,
  fun a0 a1 y0 y1 st M Q => xw_brn (c0 := y0 ≤ y1) (c1 := y1 < y0) rfl rfl (xge _ _),
  fun a0 a1 st M Q => xw_s rfl rfl,
  fun a0 a1 st M Q => xw_s rfl rfl,
  fun a0 a1 st M Q => xw_s rfl rfl,
  fun a0 a1 y0 st M Q h0 => xw_ald rfl rfl rfl (by decide) h0,
  fun a0 a1 st M Q => xw_s rfl rfl,
  fun a0 a1 y0 y1 st M Q => xw_brn (c0 := y0 ≤ y1) (c1 := y1 < y0) rfl rfl (xge _ _),
  fun a0 a1 st M Q => xw_s rfl rfl,
  fun a0 a1 st M Q => xw_s rfl rfl,
  fun a0 a1 st M Q => xw_s rfl rfl,
  fun a0 a1 y0 st M Q => xw_br (c0 := y0 = nI 0) rfl rfl,
  fun a0 a1 st M Q => xw_s rfl rfl,
  fun a0 a1 st M Q => xw_s rfl rfl,
  fun a0 a1 st M Q => xw_s rfl rfl,
  fun a0 a1 st M Q => xw_s rfl rfl,
  fun a0 a1 st M Q => xw_s rfl rfl,
  fun a0 a1 st M Q => xw_s rfl rfl,
  fun a0 a1 st M Q => xw_s rfl rfl,
  fun a0 a1 y0 st M Q h0 => xw_ald rfl rfl rfl (by decide) h0,
  fun a0 a1 y0 y1 st M Q => xw_s rfl rfl,
  fun a0 a1 y0 y1 st M Q => xw_s rfl rfl,
  fun a0 a1 st M Q => xw_s rfl rfl,
  fun a0 a1 st M Q => xw_s rfl rfl,
  fun a0 a1 st M Q => xw_s rfl rfl,
  fun a0 a1 y0 st M Q h0 => xw_ald rfl rfl rfl (by decide) h0,
  fun a0 a1 y0 y1 st M Q h0 => xw_ast (f := fun x => x) rfl rfl rfl (by decide) h0,
  fun a0 a1 st M Q => xw_s rfl rfl,
  fun a0 a1 st M Q => xw_s rfl rfl,
  fun a0 a1 st M Q => xw_s rfl rfl,
  fun a0 a1 st M Q => xw_s rfl rfl,
  fun a0 a1 st M Q => xw_s rfl rfl,
  fun a0 a1 st M Q => xw_s rfl rfl,
  fun a0 a1 st M Q => xw_s rfl rfl,
  fun a0 a1 y0 st M Q h0 => xw_ald rfl rfl rfl (by decide) h0,
  fun a0 a1 y0 y1 st M Q => xw_s rfl rfl,
  fun a0 a1 y0 y1 st M Q => xw_s rfl rfl,
  fun a0 a1 st M Q => xw_s rfl rfl,
  fun a0 a1 y0 y1 st M Q => xw_s rfl rfl,
  fun a0 a1 st M Q => xw_s rfl rfl,
  fun a0 a1 st M Q => xw_s rfl rfl,
  fun a0 a1 st M Q => xw_s rfl rfl,
  fun a0 a1 y0 st M Q h0 => xw_ald rfl rfl rfl (by decide) h0,
  fun a0 a1 y0 y1 st M Q h0 => xw_ast (f := fun x => x) rfl rfl rfl (by decide) h0,
  fun a0 a1 st M Q => xw_s rfl rfl,
  fun a0 a1 st M Q => xw_s rfl rfl,
  fun a0 a1 st M Q => xw_s rfl rfl,
  fun a0 a1 y0 y1 st M Q => xw_s rfl rfl,
  fun a0 a1 y0 st M Q h0 => xw_ald rfl rfl rfl (by decide) h0,
  fun a0 a1 st M Q => xw_s rfl rfl,
  fun a0 a1 y0 y1 st M Q => xw_s rfl rfl,
  fun a0 a1 y0 y1 st M Q h0 => xw_ast (f := fun x => x) rfl rfl rfl (by decide) h0,
  fun a0 a1 y0 M Q h0 => xw_retz rfl rfl h0⟩
set_option maxRecDepth 20000 in
theorem h152_47 :
  (∀ (a0 : Nat) (a1 : Value) (st : List Value) (M : xM) (Q : Option Value → xM → Prop), xW xSR 152 47 [.ref a0, a1] (st) M Q = xW xSR 152 48 [.ref a0, a1] (.int (nI 0) :: st) M Q) :=
  fun a0 a1 st M Q => xw_s rfl rfl
set_option maxRecDepth 20000 in
theorem h152_48 :
  (∀ (a0 : Nat) (a1 : Value) (y0 : Int32) (st : List Value) (M : xM) (Q : Option Value → xM → Prop), xW xSR 152 48 [.ref a0, a1] (.int y0 :: st) M Q = xW xSR 152 49 [.ref a0, .int y0] (st) M Q) :=
  fun a0 a1 y0 st M Q => xw_s rfl rfl
set_option maxRecDepth 20000 in
theorem h152_109 :
  (∀ (a0 : Nat) (a1 : Int32) (st : List Value) (M : xM) (Q : Option Value → xM → Prop), xW xSR 152 109 [.ref a0, .int a1] (st) M Q = xW xSR 152 110 [.ref a0, .int a1] (.int a1 :: st) M Q) :=
  fun a0 a1 st M Q => xw_s rfl rfl
set_option maxRecDepth 20000 in
theorem j152 :
  (∀ (a0 : Nat) (a1 : Value) (st : List Value) (M : xM) (Q : Option Value → xM → Prop), xW xSR 152 47 [.ref a0, a1] (st) M Q = xW xSR 152 48 [.ref a0, a1] (.int (nI 0) :: st) M Q) ∧
  (∀ (a0 : Nat) (a1 : Value) (y0 : Int32) (st : List Value) (M : xM) (Q : Option Value → xM → Prop), xW xSR 152 48 [.ref a0, a1] (.int y0 :: st) M Q = xW xSR 152 49 [.ref a0, .int y0] (st) M Q) ∧
  (∀ (a0 : Nat) (a1 : Int32) (st : List Value) (M : xM) (Q : Option Value → xM → Prop), xW xSR 152 109 [.ref a0, .int a1] (st) M Q = xW xSR 152 110 [.ref a0, .int a1] (.int a1 :: st) M Q) :=
  ⟨fun a0 a1 st M Q => xw_s rfl rfl,
  fun a0 a1 y0 st M Q => xw_s rfl rfl,
  fun a0 a1 st M Q => xw_s rfl rfl⟩

set_option maxRecDepth 20000 in
theorem s153 :
  (∀ (a0 : Nat) (a1 : Value) (a2 : Value) (a3 : Value) (a4 : Value) (st : List Value) (M : xM) (Q : Option Value → xM → Prop), xW xSR 153 0 [.ref a0, a1, a2, a3, a4] (st) M Q = xW xSR 153 1 [.ref a0, a1, a2, a3, a4] (.ref a0 :: st) M Q) ∧
  (∀ (a0 : Nat) (a1 : Value) (a2 : Value) (a3 : Value) (a4 : Value) (st : List Value) (M : xM) (Q : Option Value → xM → Prop), xW xSR 153 1 [.ref a0, a1, a2, a3, a4] (.ref 0 :: st) M Q = xW xSR 153 4 [.ref a0, a1, a2, a3, a4] (.ref 3 :: st) M Q) ∧
  (∀ (a0 : Nat) (a1 : Value) (a2 : Value) (a3 : Value) (a4 : Value) (y0 : Nat) (M : xM) (Q : Option Value → xM → Prop), xW xSR 153 4 [.ref a0, a1, a2, a3, a4] (.ref y0 :: []) M Q = xW xSR 137 0 [.ref y0, .null] [] M (fun v M' => xW xSR 153 7 [.ref a0, a1, a2, a3, a4] (xpush v []) M' Q)) ∧
  (∀ (a0 : Nat) (a1 : Value) (a2 : Value) (a3 : Value) (a4 : Value) (st : List Value) (M : xM) (Q : Option Value → xM → Prop), xW xSR 153 7 [.ref a0, a1, a2, a3, a4] (st) M Q = xW xSR 153 8 [.ref a0, a1, a2, a3, a4] (.ref a0 :: st) M Q) ∧
  (∀ (a0 : Nat) (a1 : Value) (a2 : Value) (a3 : Value) (a4 : Value) (st : List Value) (M : xM) (Q : Option Value → xM → Prop), xW xSR 153 8 [.ref a0, a1, a2, a3, a4] (st) M Q = xW xSR 153 9 [.ref a0, a1, a2, a3, a4] (.int (nI 0) :: st) M Q) ∧
  (∀ (a0 : Nat) (a1 : Value) (a2 : Value) (a3 : Value) (a4 : Value) (y0 : Int32) (st : List Value) (M : xM) (Q : Option Value → xM → Prop), xW xSR 153 9 [.ref a0, a1, a2, a3, a4] (.int y0 :: .ref 0 :: st) M Q = xW xSR 153 12 [.ref a0, a1, a2, a3, a4] (st) (xup M 0 4 y0) Q) ∧
  (∀ (a0 : Nat) (a1 : Value) (a2 : Value) (a3 : Value) (a4 : Value) (st : List Value) (M : xM) (Q : Option Value → xM → Prop), xW xSR 153 12 [.ref a0, a1, a2, a3, a4] (st) M Q = xW xSR 153 13 [.ref a0, a1, a2, a3, a4] (.int (nI 0) :: st) M Q) ∧
  (∀ (a0 : Nat) (a1 : Value) (a2 : Value) (a3 : Value) (a4 : Value) (y0 : Int32) (st : List Value) (M : xM) (Q : Option Value → xM → Prop), xW xSR 153 13 [.ref a0, a1, a2, a3, a4] (.int y0 :: st) M Q = xW xSR 153 14 [.ref a0, .int y0, a2, a3, a4] (st) M Q) ∧
  (∀ (a0 : Nat) (a1 : Int32) (a2 : Value) (a3 : Value) (a4 : Value) (st : List Value) (M : xM) (Q : Option Value → xM → Prop), xW xSR 153 15 [.ref a0, .int a1, a2, a3, a4] (.ref 0 :: st) M Q = xW xSR 153 18 [.ref a0, .int a1, a2, a3, a4] (.int (M 0 4) :: st) M Q) ∧
  (∀ (a0 : Nat) (a1 : Int32) (a2 : Value) (a3 : Value) (a4 : Value) (st : List Value) (M : xM) (Q : Option Value → xM → Prop), xW xSR 153 18 [.ref a0, .int a1, a2, a3, a4] (st) M Q = xW xSR 153 19 [.ref a0, .int a1, a2, a3, a4] (.ref a0 :: st) M Q) ∧
  (∀ (a0 : Nat) (a1 : Int32) (a2 : Value) (a3 : Value) (a4 : Value) (st : List Value) (M : xM) (Q : Option Value → xM → Prop), xW xSR 153 19 [.ref a0, .int a1, a2, a3, a4] (.ref 0 :: st) M Q = xW xSR 153 22 [.ref a0, .int a1, a2, a3, a4] (.int (M 0 2) :: st) M Q) ∧
  (∀ (a0 : Nat) (a1 : Int32) (a2 : Value) (a3 : Value) (a4 : Value) (y0 : Int32) (y1 : Int32) (st : List Value) (M : xM) (Q : Option Value → xM → Prop), xW xSR 153 22 [.ref a0, .int a1, a2, a3, a4] (.int y0 :: .int y1 :: st) M Q = if y1 < y0 then xW xSR 153 25 [.ref a0, .int a1, a2, a3, a4] (st) M Q else xW xSR 153 173 [.ref a0, .int a1, a2, a3, a4] (st) M Q) ∧
  (∀ (a0 : Nat) (a1 : Int32) (a2 : Value) (a3 : Value) (a4 : Value) (st : List Value) (M : xM) (Q : Option Value → xM → Prop), xW xSR 153 25 [.ref a0, .int a1, a2, a3, a4] (st) M Q = xW xSR 153 26 [.ref a0, .int a1, a2, a3, a4] (.ref a0 :: st) M Q) ∧
  (∀ (a0 : Nat) (a1 : Int32) (a2 : Value) (a3 : Value) (a4 : Value) (st : List Value) (M : xM) (Q : Option Value → xM → Prop), xW xSR 153 26 [.ref a0, .int a1, a2, a3, a4] (.ref 0 :: st) M Q = xW xSR 153 29 [.ref a0, .int a1, a2, a3, a4] (.int (M 0 4) :: st) M Q) ∧
  (∀ (a0 : Nat) (a1 : Int32) (a2 : Value) (a3 : Value) (a4 : Value) (y0 : Int32) (st : List Value) (M : xM) (Q : Option Value → xM → Prop), xW xSR 153 29 [.ref a0, .int a1, a2, a3, a4] (.int y0 :: st) M Q = xW xSR 153 30 [.ref a0, .int a1, .int y0, a3, a4] (st) M Q) ∧
  (∀ (a0 : Nat) (a1 : Int32) (a2 : Int32) (a3 : Value) (a4 : Value) (st : List Value) (M : xM) (Q : Option Value → xM → Prop), xW xSR 153 30 [.ref a0, .int a1, .int a2, a3, a4] (st) M Q = xW xSR 153 31 [.ref a0, .int a1, .int a2, a3, a4] (.ref a0 :: st) M Q) ∧
  (∀ (a0 : Nat) (a1 : Int32) (a2 : Int32) (a3 : Value) (a4 : Value) (st : List Value) (M : xM) (Q : Option Value → xM → Prop), xW xSR 153 31 [.ref a0, .int a1, .int a2, a3, a4] (.ref 0 :: st) M Q = xW xSR 153 34 [.ref a0, .int a1, .int a2, a3, a4] (.ref 2 :: st) M Q) ∧
  (∀ (a0 : Nat) (a1 : Int32) (a2 : Int32) (a3 : Value) (a4 : Value) (st : List Value) (M : xM) (Q : Option Value → xM → Prop), xW xSR 153 34 [.ref a0, .int a1, .int a2, a3, a4] (st) M Q = xW xSR 153 35 [.ref a0, .int a1, .int a2, a3, a4] (.ref a0 :: st) M Q) ∧
  (∀ (a0 : Nat) (a1 : Int32) (a2 : Int32) (a3 : Value) (a4 : Value) (st : List Value) (M : xM) (Q : Option Value → xM → Prop), xW xSR 153 35 [.ref a0, .int a1, .int a2, a3, a4] (.ref 0 :: st) M Q = xW xSR 153 38 [.ref a0, .int a1, .int a2, a3, a4] (.int (M 0 4) :: st) M Q) ∧
  (∀ (a0 : Nat) (a1 : Int32) (a2 : Int32) (a3 : Value) (a4 : Value) (y0 : Nat) (st : List Value) (M : xM) (Q : Option Value → xM → Prop), y0 < 200 → xW xSR 153 38 [.ref a0, .int a1, .int a2, a3, a4] (.int (nI y0) :: .ref 2 :: st) M Q = xW xSR 153 39 [.ref a0, .int a1, .int a2, a3, a4] (.int (M 2 y0) :: st) M Q) ∧
  (∀ (a0 : Nat) (a1 : Int32) (a2 : Int32) (a3 : Value) (a4 : Value) (y0 : Int32) (st : List Value) (M : xM) (Q : Option Value → xM → Prop), xW xSR 153 39 [.ref a0, .int a1, .int a2, a3, a4] (.int y0 :: st) M Q = xW xSR 153 40 [.ref a0, .int a1, .int a2, .int y0, a4] (st) M Q) ∧
  (∀ (a0 : Nat) (a1 : Int32) (a2 : Int32) (a3 : Int32) (a4 : Value) (st : List Value) (M : xM) (Q : Option Value → xM → Prop), xW xSR 153 40 [.ref a0, .int a1, .int a2, .int a3, a4] (st) M Q = xW xSR 153 41 [.ref a0, .int a1, .int a2, .int a3, a4] (.ref a0 :: st) M Q) ∧
  (∀ (a0 : Nat) (a1 : Int32) (a2 : Int32) (a3 : Int32) (a4 : Value) (y0 : Nat) (st : List Value) (M : xM) (Q : Option Value → xM → Prop), xW xSR 153 41 [.ref a0, .int a1, .int a2, .int a3, a4] (.ref y0 :: st) M Q = xW xSR 153 42 [.ref a0, .int a1, .int a2, .int a3, a4] (.ref y0 :: .ref y0 :: st) M Q) ∧
  (∀ (a0 : Nat) (a1 : Int32) (a2 : Int32) (a3 : Int32) (a4 : Value) (st : List Value) (M : xM) (Q : Option Value → xM → Prop), xW xSR 153 42 [.ref a0, .int a1, .int a2, .int a3, a4] (.ref 0 :: st) M Q = xW xSR 153 45 [.ref a0, .int a1, .int a2, .int a3, a4] (.int (M 0 4) :: st) M Q) ∧
  (∀ (a0 : Nat) (a1 : Int32) (a2 : Int32) (a3 : Int32) (a4 : Value) (st : List Value) (M : xM) (Q : Option Value → xM → Prop), xW xSR 153 45 [.ref a0, .int a1, .int a2, .int a3, a4] (st) M Q = xW xSR 153 46 [.ref a0, .int a1, .int a2, .int a3, a4] (.int (nI 1) :: st) M Q) ∧
  (∀ (a0 : Nat) (a1 : Int32) (a2 : Int32) (a3 : Int32) (a4 : Value) (y0 : Int32) (y1 : Int32) (st : List Value) (M : xM) (Q : Option Value → xM → Prop), xW xSR 153 46 [.ref a0, .int a1, .int a2, .int a3, a4] (.int y0 :: .int y1 :: st) M Q = xW xSR 153 47 [.ref a0, .int a1, .int a2, .int a3, a4] (.int (y1 + y0) :: st) M Q) ∧
  (∀ (a0 : Nat) (a1 : Int32) (a2 : Int32) (a3 : Int32) (a4 : Value) (y0 : Int32) (st : List Value) (M : xM) (Q : Option Value → xM → Prop), xW xSR 153 47 [.ref a0, .int a1, .int a2, .int a3, a4] (.int y0 :: .ref 0 :: st) M Q = xW xSR 153 50 [.ref a0, .int a1, .int a2, .int a3, a4] (st) (xup M 0 4 y0) Q) ∧
  (∀ (a0 : Nat) (a1 : Int32) (a2 : Int32) (a3 : Int32) (a4 : Value) (st : List Value) (M : xM) (Q : Option Value → xM → Prop), xW xSR 153 50 [.ref a0, .int a1, .int a2, .int a3, a4] (st) M Q = xW xSR 153 51 [.ref a0, .int a1, .int a2, .int a3, a4] (.int a3 :: st) M Q) ∧
  (∀ (a0 : Nat) (a1 : Int32) (a2 : Int32) (a3 : Int32) (a4 : Value) (st : List Value) (M : xM) (Q : Option Value → xM → Prop), xW xSR 153 51 [.ref a0, .int a1, .int a2, .int a3, a4] (st) M Q = xW xSR 153 53 [.ref a0, .int a1, .int a2, .int a3, a4] (.int (nI 114) :: st) M Q) ∧
  (∀ (a0 : Nat) (a1 : Int32) (a2 : Int32) (a3 : Int32) (a4 : Value) (y0 : Int32) (y1 : Int32) (st : List Value) (M : xM) (Q : Option Value → xM → Prop), xW xSR 153 53 [.ref a0, .int a1, .int a2, .int a3, a4] (.int y0 :: .int y1 :: st) M Q = if y1 = y0 then xW xSR 153 56 [.ref a0, .int a1, .int a2, .int a3, a4] (st) M Q else xW xSR 153 75 [.ref a0, .int a1, .int a2, .int a3, a4] (st) M Q) ∧
  (∀ (a0 : Nat) (a1 : Int32) (a2 : Int32) (a3 : Int32) (a4 : Value) (st : List Value) (M : xM) (Q : Option Value → xM → Prop), xW xSR 153 56 [.ref a0, .int a1, .int a2, .int a3, a4] (st) M Q = xW xSR 153 57 [.ref a0, .int a1, .int a2, .int a3, a4] (.int a1 :: st) M Q) ∧
  (∀ (a0 : Nat) (a1 : Int32) (a2 : Int32) (a3 : Int32) (a4 : Value) (y0 : Int32) (st : List Value) (M : xM) (Q : Option Value → xM → Prop), xW xSR 153 57 [.ref a0, .int a1, .int a2, .int a3, a4] (.int y0 :: st) M Q = if y0 = nI 0 then xW xSR 153 60 [.ref a0, .int a1, .int a2, .int a3, a4] (st) M Q else xW xSR 153 71 [.ref a0, .int a1, .int a2, .int a3, a4] (st) M Q) ∧
  (∀ (a0 : Nat) (a1 : Int32) (a2 : Int32) (a3 : Int32) (a4 : Value) (st : List Value) (M : xM) (Q : Option Value → xM → Prop), xW xSR 153 60 [.ref a0, .int a1, .int a2, .int a3, a4] (st) M Q = xW xSR 153 61 [.ref a0, .int a1, .int a2, .int a3, a4] (.ref a0 :: st) M Q) ∧
  (∀ (a0 : Nat) (a1 : Int32) (a2 : Int32) (a3 : Int32) (a4 : Value) (M : xM) (Q : Option Value → xM → Prop), xW xSR 153 61 [.ref a0, .int a1, .int a2, .int a3, a4] (.ref 0 :: []) M Q = xW xSR 147 0 [.ref 0, .null] [] M (fun v M' => xW xSR 153 64 [.ref a0, .int a1, .int a2, .int a3, a4] (xpush v []) M' Q)) ∧
  (∀ (a0 : Nat) (a1 : Int32) (a2 : Int32) (a3 : Int32) (a4 : Value) (y0 : Int32) (st : List Value) (M : xM) (Q : Option Value → xM → Prop), xW xSR 153 64 [.ref a0, .int a1, .int a2, .int a3, a4] (.int y0 :: st) M Q = if y0 = nI 0 then xW xSR 153 71 [.ref a0, .int a1, .int a2, .int a3, a4] (st) M Q else xW xSR 153 67 [.ref a0, .int a1, .int a2, .int a3, a4] (st) M Q) ∧
  (∀ (a0 : Nat) (a1 : Int32) (a2 : Int32) (a3 : Int32) (a4 : Value) (st : List Value) (M : xM) (Q : Option Value → xM → Prop), xW xSR 153 67 [.ref a0, .int a1, .int a2, .int a3, a4] (st) M Q = xW xSR 153 68 [.ref a0, .int a1, .int a2, .int a3, a4] (.int (nI 1) :: st) M Q) ∧
  (∀ (a0 : Nat) (a1 : Int32) (a2 : Int32) (a3 : Int32) (a4 : Value) (st : List Value) (M : xM) (Q : Option Value → xM → Prop), xW xSR 153 68 [.ref a0, .int a1, .int a2, .int a3, a4] (st) M Q = xW xSR 153 145 [.ref a0, .int a1, .int a2, .int a3, a4] (st) M Q) ∧
  (∀ (a0 : Nat) (a1 : Int32) (a2 : Int32) (a3 : Int32) (a4 : Value) (st : List Value) (M : xM) (Q : Option Value → xM → Prop), xW xSR 153 72 [.ref a0, .int a1, .int a2, .int a3, a4] (st) M Q = xW xSR 153 145 [.ref a0, .int a1, .int a2, .int a3, a4] (st) M Q) ∧
  (∀ (a0 : Nat) (a1 : Int32) (a2 : Int32) (a3 : Int32) (a4 : Value) (st : List Value) (M : xM) (Q : Option Value → xM → Prop), xW xSR 153 75 [.ref a0, .int a1, .int a2, .int a3, a4] (st) M Q = xW xSR 153 76 [.ref a0, .int a1, .int a2, .int a3, a4] (.int a3 :: st) M Q) ∧
  (∀ (a0 : Nat) (a1 : Int32) (a2 : Int32) (a3 : Int32) (a4 : Value) (st : List Value) (M : xM) (Q : Option Value → xM → Prop), xW xSR 153 76 [.ref a0, .int a1, .int a2, .int a3, a4] (st) M Q = xW xSR 153 78 [.ref a0, .int a1, .int a2, .int a3, a4] (.int (nI 100) :: st) M Q) ∧
  (∀ (a0 : Nat) (a1 : Int32) (a2 : Int32) (a3 : Int32) (a4 : Value) (y0 : Int32) (y1 : Int32) (st : List Value) (M : xM) (Q : Option Value → xM → Prop), xW xSR 153 78 [.ref a0, .int a1, .int a2, .int a3, a4] (.int y0 :: .int y1 :: st) M Q = if y1 = y0 then xW xSR 153 81 [.ref a0, .int a1, .int a2, .int a3, a4] (st) M Q else xW xSR 153 88 [.ref a0, .int a1, .int a2, .int a3, a4] (st) M Q) ∧
  (∀ (a0 : Nat) (a1 : Int32) (a2 : Int32) (a3 : Int32) (a4 : Value) (st : List Value) (M : xM) (Q : Option Value → xM → Prop), xW xSR 153 81 [.ref a0, .int a1, .int a2, .int a3, a4] (st) M Q = xW xSR 153 82 [.ref a0, .int a1, .int a2, .int a3, a4] (.ref a0 :: st) M Q) ∧
  (∀ (a0 : Nat) (a1 : Int32) (a2 : Int32) (a3 : Int32) (a4 : Value) (M : xM) (Q : Option Value → xM → Prop), xW xSR 153 82 [.ref a0, .int a1, .int a2, .int a3, a4] (.ref 0 :: []) M Q = xW xSR 148 0 [.ref 0, .null] [] M (fun v M' => xW xSR 153 85 [.ref a0, .int a1, .int a2, .int a3, a4] (xpush v []) M' Q)) ∧
  (∀ (a0 : Nat) (a1 : Int32) (a2 : Int32) (a3 : Int32) (a4 : Value) (st : List Value) (M : xM) (Q : Option Value → xM → Prop), xW xSR 153 85 [.ref a0, .int a1, .int a2, .int a3, a4] (st) M Q = xW xSR 153 145 [.ref a0, .int a1, .int a2, .int a3, a4] (st) M Q) ∧
  (∀ (a0 : Nat) (a1 : Int32) (a2 : Int32) (a3 : Int32) (a4 : Value) (st : List Value) (M : xM) (Q : Option Value → xM → Prop), xW xSR 153 88 [.ref a0, .int a1, .int a2, .int a3, a4] (st) M Q = xW xSR 153 89 [.ref a0, .int a1, .int a2, .int a3, a4] (.int a3 :: st) M Q) ∧
  (∀ (a0 : Nat) (a1 : Int32) (a2 : Int32) (a3 : Int32) (a4 : Value) (st : List Value) (M : xM) (Q : Option Value → xM → Prop), xW xSR 153 89 [.ref a0, .int a1, .int a2, .int a3, a4] (st) M Q = xW xSR 153 91 [.ref a0, .int a1, .int a2, .int a3, a4] (.int (nI 115) :: st) M Q) ∧
  (∀ (a0 : Nat) (a1 : Int32) (a2 : Int32) (a3 : Int32) (a4 : Value) (y0 : Int32) (y1 : Int32) (st : List Value) (M : xM) (Q : Option Value → xM → Prop), xW xSR 153 91 [.ref a0, .int a1, .int a2, .int a3, a4] (.int y0 :: .int y1 :: st) M Q = if y1 = y0 then xW xSR 153 94 [.ref a0, .int a1, .int a2, .int a3, a4] (st) M Q else xW xSR 153 101 [.ref a0, .int a1, .int a2, .int a3, a4] (st) M Q) ∧
  (∀ (a0 : Nat) (a1 : Int32) (a2 : Int32) (a3 : Int32) (a4 : Value) (st : List Value) (M : xM) (Q : Option Value → xM → Prop), xW xSR 153 94 [.ref a0, .int a1, .int a2, .int a3, a4] (st) M Q = xW xSR 153 95 [.ref a0, .int a1, .int a2, .int a3, a4] (.ref a0 :: st) M Q) ∧
  (∀ (a0 : Nat) (a1 : Int32) (a2 : Int32) (a3 : Int32) (a4 : Value) (M : xM) (Q : Option Value → xM → Prop), xW xSR 153 95 [.ref a0, .int a1, .int a2, .int a3, a4] (.ref 0 :: []) M Q = xW xSR 149 0 [.ref 0, .null] [] M (fun v M' => xW xSR 153 98 [.ref a0, .int a1, .int a2, .int a3, a4] (xpush v []) M' Q)) ∧
  (∀ (a0 : Nat) (a1 : Int32) (a2 : Int32) (a3 : Int32) (a4 : Value) (st : List Value) (M : xM) (Q : Option Value → xM → Prop), xW xSR 153 98 [.ref a0, .int a1, .int a2, .int a3, a4] (st) M Q = xW xSR 153 145 [.ref a0, .int a1, .int a2, .int a3, a4] (st) M Q) ∧
  (∀ (a0 : Nat) (a1 : Int32) (a2 : Int32) (a3 : Int32) (a4 : Value) (st : List Value) (M : xM) (Q : Option Value → xM → Prop), xW xSR 153 101 [.ref a0, .int a1, .int a2, .int a3, a4] (st) M Q = xW xSR 153 102 [.ref a0, .int a1, .int a2, .int a3, a4] (.int a3 :: st) M Q) ∧
  (∀ (a0 : Nat) (a1 : Int32) (a2 : Int32) (a3 : Int32) (a4 : Value) (st : List Value) (M : xM) (Q : Option Value → xM → Prop), xW xSR 153 102 [.ref a0, .int a1, .int a2, .int a3, a4] (st) M Q = xW xSR 153 104 [.ref a0, .int a1, .int a2, .int a3, a4] (.int (nI 119) :: st) M Q) ∧
  (∀ (a0 : Nat) (a1 : Int32) (a2 : Int32) (a3 : Int32) (a4 : Value) (y0 : Int32) (y1 : Int32) (st : List Value) (M : xM) (Q : Option Value → xM → Prop), xW xSR 153 104 [.ref a0, .int a1, .int a2, .int a3, a4] (.int y0 :: .int y1 :: st) M Q = if y1 = y0 then xW xSR 153 107 [.ref a0, .int a1, .int a2, .int a3, a4] (st) M Q else xW xSR 153 114 [.ref a0, .int a1, .int a2, .int a3, a4] (st) M Q) ∧
  (∀ (a0 : Nat) (a1 : Int32) (a2 : Int32) (a3 : Int32) (a4 : Value) (st : List Value) (M : xM) (Q : Option Value → xM → Prop), xW xSR 153 107 [.ref a0, .int a1, .int a2, .int a3, a4] (st) M Q = xW xSR 153 108 [.ref a0, .int a1, .int a2, .int a3, a4] (.ref a0 :: st) M Q) ∧
  (∀ (a0 : Nat) (a1 : Int32) (a2 : Int32) (a3 : Int32) (a4 : Value) (M : xM) (Q : Option Value → xM → Prop), xW xSR 153 108 [.ref a0, .int a1, .int a2, .int a3, a4] (.ref 0 :: []) M Q = xW xSR 150 0 [.ref 0, .null, .null] [] M (fun v M' => xW xSR 153 111 [.ref a0, .int a1, .int a2, .int a3, a4] (xpush v []) M' Q)) ∧
  (∀ (a0 : Nat) (a1 : Int32) (a2 : Int32) (a3 : Int32) (a4 : Value) (st : List Value) (M : xM) (Q : Option Value → xM → Prop), xW xSR 153 111 [.ref a0, .int a1, .int a2, .int a3, a4] (st) M Q = xW xSR 153 145 [.ref a0, .int a1, .int a2, .int a3, a4] (st) M Q) ∧
  (∀ (a0 : Nat) (a1 : Int32) (a2 : Int32) (a3 : Int32) (a4 : Value) (st : List Value) (M : xM) (Q : Option Value → xM → Prop), xW xSR 153 114 [.ref a0, .int a1, .int a2, .int a3, a4] (st) M Q = xW xSR 153 115 [.ref a0, .int a1, .int a2, .int a3, a4] (.int a3 :: st) M Q) ∧
  (∀ (a0 : Nat) (a1 : Int32) (a2 : Int32) (a3 : Int32) (a4 : Value) (st : List Value) (M : xM) (Q : Option Value → xM → Prop), xW xSR 153 115 [.ref a0, .int a1, .int a2, .int a3, a4] (st) M Q = xW xSR 153 117 [.ref a0, .int a1, .int a2, .int a3, a4] (.int (nI 99) :: st) M Q) ∧
  (∀ (a0 : Nat) (a1 : Int32) (a2 : Int32) (a3 : Int32) (a4 : Value) (y0 : Int32) (y1 : Int32) (st : List Value) (M : xM) (Q : Option Value → xM → Prop), xW xSR 153 117 [.ref a0, .int a1, .int a2, .int a3, a4] (.int y0 :: .int y1 :: st) M Q = if y1 = y0 then xW xSR 153 120 [.ref a0, .int a1, .int a2, .int a3, a4] (st) M Q else xW xSR 153 127 [.ref a0, .int a1, .int a2, .int a3, a4] (st) M Q) ∧
  (∀ (a0 : Nat) (a1 : Int32) (a2 : Int32) (a3 : Int32) (a4 : Value) (st : List Value) (M : xM) (Q : Option Value → xM → Prop), xW xSR 153 120 [.ref a0, .int a1, .int a2, .int a3, a4] (st) M Q = xW xSR 153 121 [.ref a0, .int a1, .int a2, .int a3, a4] (.ref a0 :: st) M Q) ∧
  (∀ (a0 : Nat) (a1 : Int32) (a2 : Int32) (a3 : Int32) (a4 : Value) (M : xM) (Q : Option Value → xM → Prop), xW xSR 153 121 [.ref a0, .int a1, .int a2, .int a3, a4] (.ref 0 :: []) M Q = xW xSR 151 0 [.ref 0, .null] [] M (fun v M' => xW xSR 153 124 [.ref a0, .int a1, .int a2, .int a3, a4] (xpush v []) M' Q)) ∧
  (∀ (a0 : Nat) (a1 : Int32) (a2 : Int32) (a3 : Int32) (a4 : Value) (st : List Value) (M : xM) (Q : Option Value → xM → Prop), xW xSR 153 124 [.ref a0, .int a1, .int a2, .int a3, a4] (st) M Q = xW xSR 153 145 [.ref a0, .int a1, .int a2, .int a3, a4] (st) M Q) ∧
  (∀ (a0 : Nat) (a1 : Int32) (a2 : Int32) (a3 : Int32) (a4 : Value) (st : List Value) (M : xM) (Q : Option Value → xM → Prop), xW xSR 153 127 [.ref a0, .int a1, .int a2, .int a3, a4] (st) M Q = xW xSR 153 128 [.ref a0, .int a1, .int a2, .int a3, a4] (.int a3 :: st) M Q) ∧
  (∀ (a0 : Nat) (a1 : Int32) (a2 : Int32) (a3 : Int32) (a4 : Value) (st : List Value) (M : xM) (Q : Option Value → xM → Prop), xW xSR 153 128 [.ref a0, .int a1, .int a2, .int a3, a4] (st) M Q = xW xSR 153 130 [.ref a0, .int a1, .int a2, .int a3, a4] (.int (nI 112) :: st) M Q) ∧
  (∀ (a0 : Nat) (a1 : Int32) (a2 : Int32) (a3 : Int32) (a4 : Value) (y0 : Int32) (y1 : Int32) (st : List Value) (M : xM) (Q : Option Value → xM → Prop), xW xSR 153 130 [.ref a0, .int a1, .int a2, .int a3, a4] (.int y0 :: .int y1 :: st) M Q = if y1 = y0 then xW xSR 153 133 [.ref a0, .int a1, .int a2, .int a3, a4] (st) M Q else xW xSR 153 144 [.ref a0, .int a1, .int a2, .int a3, a4] (st) M Q) ∧
  (∀ (a0 : Nat) (a1 : Int32) (a2 : Int32) (a3 : Int32) (a4 : Value) (st : List Value) (M : xM) (Q : Option Value → xM → Prop), xW xSR 153 133 [.ref a0, .int a1, .int a2, .int a3, a4] (st) M Q = xW xSR 153 134 [.ref a0, .int a1, .int a2, .int a3, a4] (.ref a0 :: st) M Q) ∧
  (∀ (a0 : Nat) (a1 : Int32) (a2 : Int32) (a3 : Int32) (a4 : Value) (M : xM) (Q : Option Value → xM → Prop), xW xSR 153 134 [.ref a0, .int a1, .int a2, .int a3, a4] (.ref 0 :: []) M Q = xW xSR 152 0 [.ref 0, .null] [] M (fun v M' => xW xSR 153 137 [.ref a0, .int a1, .int a2, .int a3, a4] (xpush v []) M' Q)) ∧
  (∀ (a0 : Nat) (a1 : Int32) (a2 : Int32) (a3 : Int32) (a4 : Value) (y0 : Int32) (st : List Value) (M : xM) (Q : Option Value → xM → Prop), xW xSR 153 137 [.ref a0, .int a1, .int a2, .int a3, a4] (.int y0 :: st) M Q = if y0 = nI 0 then xW xSR 153 144 [.ref a0, .int a1, .int a2, .int a3, a4] (st) M Q else xW xSR 153 140 [.ref a0, .int a1, .int a2, .int a3, a4] (st) M Q) ∧
  (∀ (a0 : Nat) (a1 : Int32) (a2 : Int32) (a3 : Int32) (a4 : Value) (st : List Value) (M : xM) (Q : Option Value → xM → Prop), xW xSR 153 140 [.ref a0, .int a1, .int a2, .int a3, a4] (st) M Q = xW xSR 153 141 [.ref a0, .int a1, .int a2, .int a3, a4] (.int (nI 1) :: st) M Q) ∧
  (∀ (a0 : Nat) (a1 : Int32) (a2 : Int32) (a3 : Int32) (a4 : Value) (st : List Value) (M : xM) (Q : Option Value → xM → Prop), xW xSR 153 141 [.ref a0, .int a1, .int a2, .int a3, a4] (st) M Q = xW xSR 153 145 [.ref a0, .int a1, .int a2, .int a3, a4] (st) M Q) ∧
  (∀ (a0 : Nat) (a1 : Int32) (a2 : Int32) (a3 : Int32) (a4 : Int32) (st : List Value) (M : xM) (Q : Option Value → xM → Prop), xW xSR 153 147 [.ref a0, .int a1, .int a2, .int a3, .int a4] (st) M Q = xW xSR 153 148 [.ref a0, .int a1, .int a2, .int a3, .int a4] (.int a1 :: st) M Q) ∧
  (∀ (a0 : Nat) (a1 : Int32) (a2 : Int32) (a3 : Int32) (a4 : Int32) (y0 : Int32) (st : List Value) (M : xM) (Q : Option Value → xM → Prop), xW xSR 153 148 [.ref a0, .int a1, .int a2, .int a3, .int a4] (.int y0 :: st) M Q = if y0 = nI 0 then xW xSR 153 151 [.ref a0, .int a1, .int a2, .int a3, .int a4] (st) M Q else xW xSR 153 157 [.ref a0, .int a1, .int a2, .int a3, .int a4] (st) M Q) ∧
  (∀ (a0 : Nat) (a1 : Int32) (a2 : Int32) (a3 : Int32) (a4 : Int32) (st : List Value) (M : xM) (Q : Option Value → xM → Prop), xW xSR 153 151 [.ref a0, .int a1, .int a2, .int a3, .int a4] (st) M Q = xW xSR 153 152 [.ref a0, .int a1, .int a2, .int a3, .int a4] (.int a3 :: st) M Q) ∧
  (∀ (a0 : Nat) (a1 : Int32) (a2 : Int32) (a3 : Int32) (a4 : Int32) (st : List Value) (M : xM) (Q : Option Value → xM → Prop), xW xSR 153 152 [.ref a0, .int a1, .int a2, .int a3, .int a4] (st) M Q = xW xSR 153 154 [.ref a0, .int a1, .int a2, .int a3, .int a4] (.int (nI 114) :: st) M Q) ∧
  (∀ (a0 : Nat) (a1 : Int32) (a2 : Int32) (a3 : Int32) (a4 : Int32) (y0 : Int32) (y1 : Int32) (st : List Value) (M : xM) (Q : Option Value → xM → Prop), xW xSR 153 154 [.ref a0, .int a1, .int a2, .int a3, .int a4] (.int y0 :: .int y1 :: st) M Q = if y1 = y0 then xW xSR 153 161 [.ref a0, .int a1, .int a2, .int a3, .int a4] (st) M Q else xW xSR 153 157 [.ref a0, .int a1, .int a2, .int a3, .int a4] (st) M Q) ∧
  (∀ (a0 : Nat) (a1 : Int32) (a2 : Int32) (a3 : Int32) (a4 : Int32) (st : List Value) (M : xM) (Q : Option Value → xM → Prop), xW xSR 153 158 [.ref a0, .int a1, .int a2, .int a3, .int a4] (st) M Q = xW xSR 153 162 [.ref a0, .int a1, .int a2, .int a3, .int a4] (st) M Q) ∧
  (∀ (a0 : Nat) (a1 : Int32) (a2 : Int32) (a3 : Int32) (a4 : Int32) (st : List Value) (M : xM) (Q : Option Value → xM → Prop), xW xSR 153 161 [.ref a0, .int a1, .int a2, .int a3, .int a4] (st) M Q = xW xSR 153 162 [.ref a0, .int a1, .int a2, .int a3, .int a4] (.int (nI 0) :: st) M Q) ∧
  (∀ (a0 : Nat) (a1 : Int32) (a2 : Int32) (a3 : Int32) (a4 : Int32) (st : List Value) (M : xM) (Q : Option Value → xM → Prop), xW xSR 153 163 [.ref a0, .int a1, .int a2, .int a3, .int a4] (st) M Q = xW xSR 153 165 [.ref a0, .int a1, .int a2, .int a3, .int a4] (.int a4 :: st) M Q) ∧
  (∀ (a0 : Nat) (a1 : Int32) (a2 : Int32) (a3 : Int32) (a4 : Int32) (y0 : Int32) (st : List Value) (M : xM) (Q : Option Value → xM → Prop), xW xSR 153 165 [.ref a0, .int a1, .int a2, .int a3, .int a4] (.int y0 :: st) M Q = if y0 = nI 0 then xW xSR 153 168 [.ref a0, .int a1, .int a2, .int a3, .int a4] (st) M Q else xW xSR 153 170 [.ref a0, .int a1, .int a2, .int a3, .int a4] (st) M Q) ∧
  (∀ (a0 : Nat) (a1 : Int32) (a2 : Int32) (a3 : Int32) (a4 : Int32) (st : List Value) (M : xM) (Q : Option Value → xM → Prop), xW xSR 153 168 [.ref a0, .int a1, .int a2, .int a3, .int a4] (st) M Q = xW xSR 153 169 [.ref a0, .int a1, .int a2, .int a3, .int a4] (.int a2 :: st) M Q) ∧
  (∀ (a0 : Nat) (a1 : Int32) (a2 : Int32) (a3 : Int32) (a4 : Int32) (y0 : Int32) (M : xM) (Q : Option Value → xM → Prop), xW xSR 153 169 [.ref a0, .int a1, .int a2, .int a3, .int a4] ([.int y0]) M Q = Q (some (.int y0)) M) ∧
  (∀ (a0 : Nat) (a1 : Int32) (a2 : Int32) (a3 : Int32) (a4 : Int32) (st : List Value) (M : xM) (Q : Option Value → xM → Prop), xW xSR 153 170 [.ref a0, .int a1, .int a2, .int a3, .int a4] (st) M Q = xW xSR 153 14 [.ref a0, .int a1, .int a2, .int a3, .int a4] (st) M Q) ∧
  (∀ (a0 : Nat) (a1 : Int32) (a2 : Value) (a3 : Value) (a4 : Value) (st : List Value) (M : xM) (Q : Option Value → xM → Prop), xW xSR 153 173 [.ref a0, .int a1, a2, a3, a4] (st) M Q = xW xSR 153 175 [.ref a0, .int a1, a2, a3, a4] (.int (-4) :: st) M Q) ∧
  (∀ (a0 : Nat) (a1 : Int32) (a2 : Value) (a3 : Value) (a4 : Value) (y0 : Int32) (M : xM) (Q : Option Value → xM → Prop), xW xSR 153 175 [.ref a0, .int a1, a2, a3, a4] ([.int y0]) M Q = Q (some (.int y0)) M) :=
  ⟨fun a0 a1 a2 a3 a4 st M Q => xw_s rfl rfl,
  fun a0 a1 a2 a3 a4 st M Q => xw_s rfl rfl,
  fun a0 a1 a2 a3 a4 y0 M Q => xw_call rfl rfl rfl,
  fun a0 a1 a2 a3 a4 st M Q => xw_s rfl rfl,
  fun a0 a1 a2 a3 a4 st M Q => xw_s rfl rfl,
  fun a0 a1 a2 a3 a4 y0 st M Q => xw_s rfl rfl,
  fun a0 a1 a2 a3 a4 st M Q => xw_s rfl rfl,
  fun a0 a1 a2 a3 a4 y0 st M Q => xw_s rfl rfl,
  fun a0 a1 a2 a3 a4 st M Q => xw_s rfl rfl,
  fun a0 a1 a2 a3 a4 st M Q => xw_s rfl rfl,
  fun a0 a1 a2 a3 a4 st M Q => xw_s rfl rfl,
  fun a0 a1 a2 a3 a4 y0 y1 st M Q => xw_brn (c0 := y0 ≤ y1) (c1 := y1 < y0) rfl rfl (xge _ _),
  fun a0 a1 a2 a3 a4 st M Q => xw_s rfl rfl,
  fun a0 a1 a2 a3 a4 st M Q => xw_s rfl rfl,
  fun a0 a1 a2 a3 a4 y0 st M Q => xw_s rfl rfl,
  fun a0 a1 a2 a3 a4 st M Q => xw_s rfl rfl,
  fun a0 a1 a2 a3 a4 st M Q => xw_s rfl rfl,
  fun a0 a1 a2 a3 a4 st M Q => xw_s rfl rfl,
  fun a0 a1 a2 a3 a4 st M Q => xw_s rfl rfl,
  fun a0 a1 a2 a3 a4 y0 st M Q h0 => xw_ald rfl rfl rfl (by decide) h0,
  fun a0 a1 a2 a3 a4 y0 st M Q => xw_s rfl rfl,
  fun a0 a1 a2 a3 a4 st M Q => xw_s rfl rfl,
  fun a0 a1 a2 a3 a4 y0 st M Q => xw_s rfl rfl,
  fun a0 a1 a2 a3 a4 st M Q => xw_s rfl rfl,
  fun a0 a1 a2 a3 a4 st M Q => xw_s rfl rfl,
  fun a0 a1 a2 a3 a4 y0 y1 st M Q => xw_s rfl rfl,
  fun a0 a1 a2 a3 a4 y0 st M Q => xw_s rfl rfl,
  fun a0 a1 a2 a3 a4 st M Q => xw_s rfl rfl,
  fun a0 a1 a2 a3 a4 st M Q => xw_s rfl rfl,
  fun a0 a1 a2 a3 a4 y0 y1 st M Q => xw_brn (c0 := y1 ≠ y0) (c1 := y1 = y0) rfl rfl (Iff.rfl),
  fun a0 a1 a2 a3 a4 st M Q => xw_s rfl rfl,
  fun a0 a1 a2 a3 a4 y0 st M Q => xw_brn (c0 := y0 ≠ nI 0) (c1 := y0 = nI 0) rfl rfl (Iff.rfl),
  fun a0 a1 a2 a3 a4 st M Q => xw_s rfl rfl,
  fun a0 a1 a2 a3 a4 M Q => xw_call rfl rfl rfl,
  fun a0 a1 a2 a3 a4 y0 st M Q => xw_br (c0 := y0 = nI 0) rfl rfl,
  fun a0 a1 a2 a3 a4 st M Q => xw_s rfl rfl,
  fun a0 a1 a2 a3 a4 st M Q => xw_s rfl rfl,
  fun a0 a1 a2 a3 a4 st M Q => xw_s rfl rfl,
  fun a0 a1 a2 a3 a4 st M Q => xw_s rfl rfl,
  fun a0 a1 a2 a3 a4 st M Q => xw_s rfl rfl,
  fun a0 a1 a2 a3 a4 y0 y1 st M Q => xw_brn (c0 := y1 ≠ y0) (c1 := y1 = y0) rfl rfl (Iff.rfl),
  fun a0 a1 a2 a3 a4 st M Q => xw_s rfl rfl,
  fun a0 a1 a2 a3 a4 M Q => xw_call rfl rfl rfl,
  fun a0 a1 a2 a3 a4 st M Q => xw_s rfl rfl,
  fun a0 a1 a2 a3 a4 st M Q => xw_s rfl rfl,
  fun a0 a1 a2 a3 a4 st M Q => xw_s rfl rfl,
  fun a0 a1 a2 a3 a4 y0 y1 st M Q => xw_brn (c0 := y1 ≠ y0) (c1 := y1 = y0) rfl rfl (Iff.rfl),
  fun a0 a1 a2 a3 a4 st M Q => xw_s rfl rfl,
  fun a0 a1 a2 a3 a4 M Q => xw_call rfl rfl rfl,
  fun a0 a1 a2 a3 a4 st M Q => xw_s rfl rfl,
  fun a0 a1 a2 a3 a4 st M Q => xw_s rfl rfl,
  fun a0 a1 a2 a3 a4 st M Q => xw_s rfl rfl,
  fun a0 a1 a2 a3 a4 y0 y1 st M Q => xw_brn (c0 := y1 ≠ y0) (c1 := y1 = y0) rfl rfl (Iff.rfl),
  fun a0 a1 a2 a3 a4 st M Q => xw_s rfl rfl,
  fun a0 a1 a2 a3 a4 M Q => xw_call rfl rfl rfl,
  fun a0 a1 a2 a3 a4 st M Q => xw_s rfl rfl,
  fun a0 a1 a2 a3 a4 st M Q => xw_s rfl rfl,
  fun a0 a1 a2 a3 a4 st M Q => xw_s rfl rfl,
  fun a0 a1 a2 a3 a4 y0 y1 st M Q => xw_brn (c0 := y1 ≠ y0) (c1 := y1 = y0) rfl rfl (Iff.rfl),
  fun a0 a1 a2 a3 a4 st M Q => xw_s rfl rfl,
  fun a0 a1 a2 a3 a4 M Q => xw_call rfl rfl rfl,
  fun a0 a1 a2 a3 a4 st M Q => xw_s rfl rfl,
  fun a0 a1 a2 a3 a4 st M Q => xw_s rfl rfl,
  fun a0 a1 a2 a3 a4 st M Q => xw_s rfl rfl,
  fun a0 a1 a2 a3 a4 y0 y1 st M Q => xw_brn (c0 := y1 ≠ y0) (c1 := y1 = y0) rfl rfl (Iff.rfl),
  fun a0 a1 a2 a3 a4 st M Q => xw_s rfl rfl,
  fun a0 a1 a2 a3 a4 M Q => xw_call rfl rfl rfl,
  fun a0 a1 a2 a3 a4 y0 st M Q => xw_br (c0 := y0 = nI 0) rfl rfl,
  fun a0 a1 a2 a3 a4 st M Q => xw_s rfl rfl,
  fun a0 a1 a2 a3 a4 st M Q => xw_s rfl rfl,
  fun a0 a1 a2 a3 a4 st M Q => xw_s rfl rfl,
  fun a0 a1 a2 a3 a4 y0 st M Q => xw_brn (c0 := y0 ≠ nI 0) (c1 := y0 = nI 0) rfl rfl (Iff.rfl),
  fun a0 a1 a2 a3 a4 st M Q => xw_s rfl rfl,
  fun a0 a1 a2 a3 a4 st M Q => xw_s rfl rfl,
  fun a0 a1 a2 a3 a4 y0 y1 st M Q => xw_br (c0 := y1 = y0) rfl rfl,
  fun a0 a1 a2 a3 a4 st M Q => xw_s rfl rfl,
  fun a0 a1 a2 a3 a4 st M Q => xw_s rfl rfl,
  fun a0 a1 a2 a3 a4 st M Q => xw_s rfl rfl,
  fun a0 a1 a2 a3 a4 y0 st M Q => xw_brn (c0 := y0 ≠ nI 0) (c1 := y0 = nI 0) rfl rfl (Iff.rfl),
  fun a0 a1 a2 a3 a4 st M Q => xw_s rfl rfl,
  fun a0 a1 a2 a3 a4 y0 M Q => xw_ret rfl rfl,
  fun a0 a1 a2 a3 a4 st M Q => xw_s rfl rfl,
  fun a0 a1 a2 a3 a4 st M Q => xw_s rfl rfl,
  fun a0 a1 a2 a3 a4 y0 M Q => xw_ret rfl rfl⟩
set_option maxRecDepth 20000 in
theorem h153_14 :
  (∀ (a0 : Nat) (a1 : Int32) (a2 : Value) (a3 : Value) (a4 : Value) (st : List Value) (M : xM) (Q : Option Value → xM → Prop), xW xSR 153 14 [.ref a0, .int a1, a2, a3, a4] (st) M Q = xW xSR 153 15 [.ref a0, .int a1, a2, a3, a4] (.ref a0 :: st) M Q) :=
  fun a0 a1 a2 a3 a4 st M Q => xw_s rfl rfl
set_option maxRecDepth 20000 in
theorem h153_71 :
  (∀ (a0 : Nat) (a1 : Int32) (a2 : Int32) (a3 : Int32) (a4 : Value) (st : List Value) (M : xM) (Q : Option Value → xM → Prop), xW xSR 153 71 [.ref a0, .int a1, .int a2, .int a3, a4] (st) M Q = xW xSR 153 72 [.ref a0, .int a1, .int a2, .int a3, a4] (.int (nI 0) :: st) M Q) :=
  fun a0 a1 a2 a3 a4 st M Q => xw_s rfl rfl
set_option maxRecDepth 20000 in
theorem h153_144 :
  (∀ (a0 : Nat) (a1 : Int32) (a2 : Int32) (a3 : Int32) (a4 : Value) (st : List Value) (M : xM) (Q : Option Value → xM → Prop), xW xSR 153 144 [.ref a0, .int a1, .int a2, .int a3, a4] (st) M Q = xW xSR 153 145 [.ref a0, .int a1, .int a2, .int a3, a4] (.int (nI 0) :: st) M Q) :=
  fun a0 a1 a2 a3 a4 st M Q => xw_s rfl rfl
set_option maxRecDepth 20000 in
theorem h153_145 :
  (∀ (a0 : Nat) (a1 : Int32) (a2 : Int32) (a3 : Int32) (a4 : Value) (y0 : Int32) (st : List Value) (M : xM) (Q : Option Value → xM → Prop), xW xSR 153 145 [.ref a0, .int a1, .int a2, .int a3, a4] (.int y0 :: st) M Q = xW xSR 153 147 [.ref a0, .int a1, .int a2, .int a3, .int y0] (st) M Q) :=
  fun a0 a1 a2 a3 a4 y0 st M Q => xw_s rfl rfl
set_option maxRecDepth 20000 in
theorem h153_157 :
  (∀ (a0 : Nat) (a1 : Int32) (a2 : Int32) (a3 : Int32) (a4 : Int32) (st : List Value) (M : xM) (Q : Option Value → xM → Prop), xW xSR 153 157 [.ref a0, .int a1, .int a2, .int a3, .int a4] (st) M Q = xW xSR 153 158 [.ref a0, .int a1, .int a2, .int a3, .int a4] (.int (nI 1) :: st) M Q) :=
  fun a0 a1 a2 a3 a4 st M Q => xw_s rfl rfl
set_option maxRecDepth 20000 in
theorem h153_162 :
  (∀ (a0 : Nat) (a1 : Int32) (a2 : Int32) (a3 : Int32) (a4 : Int32) (y0 : Int32) (st : List Value) (M : xM) (Q : Option Value → xM → Prop), xW xSR 153 162 [.ref a0, .int a1, .int a2, .int a3, .int a4] (.int y0 :: st) M Q = xW xSR 153 163 [.ref a0, .int y0, .int a2, .int a3, .int a4] (st) M Q) :=
  fun a0 a1 a2 a3 a4 y0 st M Q => xw_s rfl rfl
set_option maxRecDepth 20000 in
theorem j153 :
  (∀ (a0 : Nat) (a1 : Int32) (a2 : Int32) (a3 : Int32) (a4 : Value) (st : List Value) (M : xM) (Q : Option Value → xM → Prop), xW xSR 153 71 [.ref a0, .int a1, .int a2, .int a3, a4] (st) M Q = xW xSR 153 72 [.ref a0, .int a1, .int a2, .int a3, a4] (.int (nI 0) :: st) M Q) ∧
  (∀ (a0 : Nat) (a1 : Int32) (a2 : Int32) (a3 : Int32) (a4 : Value) (st : List Value) (M : xM) (Q : Option Value → xM → Prop), xW xSR 153 144 [.ref a0, .int a1, .int a2, .int a3, a4] (st) M Q = xW xSR 153 145 [.ref a0, .int a1, .int a2, .int a3, a4] (.int (nI 0) :: st) M Q) ∧
  (∀ (a0 : Nat) (a1 : Int32) (a2 : Int32) (a3 : Int32) (a4 : Value) (y0 : Int32) (st : List Value) (M : xM) (Q : Option Value → xM → Prop), xW xSR 153 145 [.ref a0, .int a1, .int a2, .int a3, a4] (.int y0 :: st) M Q = xW xSR 153 147 [.ref a0, .int a1, .int a2, .int a3, .int y0] (st) M Q) ∧
  (∀ (a0 : Nat) (a1 : Int32) (a2 : Int32) (a3 : Int32) (a4 : Int32) (st : List Value) (M : xM) (Q : Option Value → xM → Prop), xW xSR 153 157 [.ref a0, .int a1, .int a2, .int a3, .int a4] (st) M Q = xW xSR 153 158 [.ref a0, .int a1, .int a2, .int a3, .int a4] (.int (nI 1) :: st) M Q) ∧
  (∀ (a0 : Nat) (a1 : Int32) (a2 : Int32) (a3 : Int32) (a4 : Int32) (y0 : Int32) (st : List Value) (M : xM) (Q : Option Value → xM → Prop), xW xSR 153 162 [.ref a0, .int a1, .int a2, .int a3, .int a4] (.int y0 :: st) M Q = xW xSR 153 163 [.ref a0, .int y0, .int a2, .int a3, .int a4] (st) M Q) :=
  ⟨fun a0 a1 a2 a3 a4 st M Q => xw_s rfl rfl,
  fun a0 a1 a2 a3 a4 st M Q => xw_s rfl rfl,
  fun a0 a1 a2 a3 a4 y0 st M Q => xw_s rfl rfl,
  fun a0 a1 a2 a3 a4 st M Q => xw_s rfl rfl,
  fun a0 a1 a2 a3 a4 y0 st M Q => xw_s rfl rfl⟩

set_option maxRecDepth 20000 in
theorem s154 :
  (∀ (a0 : Nat) (st : List Value) (M : xM) (Q : Option Value → xM → Prop), xW xSR 154 0 [.ref a0] (st) M Q = xW xSR 154 1 [.ref a0] (.ref a0 :: st) M Q) ∧
  (∀ (a0 : Nat) (M : xM) (Q : Option Value → xM → Prop), xW xSR 154 1 [.ref a0] (.ref 0 :: []) M Q = xW xSR 153 0 [.ref 0, .null, .null, .null, .null] [] M (fun v M' => xW xSR 154 4 [.ref a0] (xpush v []) M' Q)) ∧
  (∀ (a0 : Nat) (y0 : Int32) (M : xM) (Q : Option Value → xM → Prop), xW xSR 154 4 [.ref a0] ([.int y0]) M Q = Q (some (.int y0)) M) :=
  ⟨fun a0 st M Q => xw_s rfl rfl,
  fun a0 M Q => xw_call rfl rfl rfl,
  fun a0 y0 M Q => xw_ret rfl rfl⟩
theorem j154 : True := trivial

set_option maxRecDepth 20000 in
theorem s155 :
  (∀ (a0 : Nat) (a1 : Value) (st : List Value) (M : xM) (Q : Option Value → xM → Prop), xW xSR 155 0 [.ref a0, a1] (st) M Q = xW xSR 155 1 [.ref a0, a1] (.ref a0 :: st) M Q) ∧
  (∀ (a0 : Nat) (a1 : Value) (M : xM) (Q : Option Value → xM → Prop), xW xSR 155 1 [.ref a0, a1] (.ref 0 :: []) M Q = xW xSR 153 0 [.ref 0, .null, .null, .null, .null] [] M (fun v M' => xW xSR 155 4 [.ref a0, a1] (xpush v []) M' Q)) ∧
  (∀ (a0 : Nat) (a1 : Value) (st : List Value) (M : xM) (Q : Option Value → xM → Prop), xW xSR 155 4 [.ref a0, a1] (st) M Q = xW xSR 155 6 [.ref a0, a1] (.int (-4) :: st) M Q) ∧
  (∀ (a0 : Nat) (a1 : Value) (y0 : Int32) (y1 : Int32) (st : List Value) (M : xM) (Q : Option Value → xM → Prop), xW xSR 155 6 [.ref a0, a1] (.int y0 :: .int y1 :: st) M Q = if y1 = y0 then xW xSR 155 9 [.ref a0, a1] (st) M Q else xW xSR 155 27 [.ref a0, a1] (st) M Q) ∧
  (∀ (a0 : Nat) (a1 : Value) (st : List Value) (M : xM) (Q : Option Value → xM → Prop), xW xSR 155 9 [.ref a0, a1] (st) M Q = xW xSR 155 10 [.ref a0, a1] (.ref a0 :: st) M Q) ∧
  (∀ (a0 : Nat) (a1 : Value) (st : List Value) (M : xM) (Q : Option Value → xM → Prop), xW xSR 155 10 [.ref a0, a1] (.ref 0 :: st) M Q = xW xSR 155 13 [.ref a0, a1] (.ref 3 :: st) M Q) ∧
  (∀ (a0 : Nat) (a1 : Value) (st : List Value) (M : xM) (Q : Option Value → xM → Prop), xW xSR 155 13 [.ref a0, a1] (st) M Q = xW xSR 155 14 [.ref a0, a1] (.int (nI 1) :: st) M Q) ∧
  (∀ (a0 : Nat) (a1 : Value) (y0 : Nat) (st : List Value) (M : xM) (Q : Option Value → xM → Prop), y0 < 156 → xW xSR 155 14 [.ref a0, a1] (.int (nI y0) :: .ref 3 :: st) M Q = xW xSR 155 15 [.ref a0, a1] (.int (M 3 y0) :: st) M Q) ∧
  (∀ (a0 : Nat) (a1 : Value) (y0 : Int32) (st : List Value) (M : xM) (Q : Option Value → xM → Prop), xW xSR 155 15 [.ref a0, a1] (.int y0 :: st) M Q = if y0 = nI 0 then xW xSR 155 27 [.ref a0, a1] (st) M Q else xW xSR 155 18 [.ref a0, a1] (st) M Q) ∧
  (∀ (a0 : Nat) (a1 : Value) (st : List Value) (M : xM) (Q : Option Value → xM → Prop), xW xSR 155 18 [.ref a0, a1] (st) M Q = xW xSR 155 19 [.ref a0, a1] (.ref a0 :: st) M Q) ∧
  (∀ (a0 : Nat) (a1 : Value) (st : List Value) (M : xM) (Q : Option Value → xM → Prop), xW xSR 155 19 [.ref a0, a1] (.ref 0 :: st) M Q = xW xSR 155 22 [.ref a0, a1] (.ref 3 :: st) M Q) ∧
  (∀ (a0 : Nat) (a1 : Value) (st : List Value) (M : xM) (Q : Option Value → xM → Prop), xW xSR 155 22 [.ref a0, a1] (st) M Q = xW xSR 155 23 [.ref a0, a1] (.int (nI 2) :: st) M Q) ∧
  (∀ (a0 : Nat) (a1 : Value) (y0 : Nat) (st : List Value) (M : xM) (Q : Option Value → xM → Prop), y0 < 156 → xW xSR 155 23 [.ref a0, a1] (.int (nI y0) :: .ref 3 :: st) M Q = xW xSR 155 24 [.ref a0, a1] (.int (M 3 y0) :: st) M Q) ∧
  (∀ (a0 : Nat) (a1 : Value) (y0 : Int32) (st : List Value) (M : xM) (Q : Option Value → xM → Prop), xW xSR 155 24 [.ref a0, a1] (.int y0 :: st) M Q = if y0 = nI 0 then xW xSR 155 27 [.ref a0, a1] (st) M Q else xW xSR 155 30 [.ref a0, a1] (st) M Q) ∧
  (∀ (a0 : Nat) (a1 : Value) (y0 : Int32) (M : xM) (Q : Option Value → xM → Prop), xW xSR 155 29 [.ref a0, a1] ([.int y0]) M Q = Q (some (.int y0)) M) ∧
  (∀ (a0 : Nat) (a1 : Value) (st : List Value) (M : xM) (Q : Option Value → xM → Prop), xW xSR 155 30 [.ref a0, a1] (st) M Q = xW xSR 155 31 [.ref a0, a1] (.int (nI 0) :: st) M Q) ∧
  (∀ (a0 : Nat) (a1 : Value) (y0 : Int32) (st : List Value) (M : xM) (Q : Option Value → xM → Prop), xW xSR 155 31 [.ref a0, a1] (.int y0 :: st) M Q = xW xSR 155 32 [.ref a0, .int y0] (st) M Q) ∧
  (∀ (a0 : Nat) (a1 : Int32) (st : List Value) (M : xM) (Q : Option Value → xM → Prop), xW xSR 155 33 [.ref a0, .int a1] (st) M Q = xW xSR 155 36 [.ref a0, .int a1] (.int (nI 156) :: st) M Q) ∧
  (∀ (a0 : Nat) (a1 : Int32) (y0 : Int32) (y1 : Int32) (st : List Value) (M : xM) (Q : Option Value → xM → Prop), xW xSR 155 36 [.ref a0, .int a1] (.int y0 :: .int y1 :: st) M Q = if y1 < y0 then xW xSR 155 39 [.ref a0, .int a1] (st) M Q else xW xSR 155 57 [.ref a0, .int a1] (st) M Q) ∧
  (∀ (a0 : Nat) (a1 : Int32) (st : List Value) (M : xM) (Q : Option Value → xM → Prop), xW xSR 155 39 [.ref a0, .int a1] (st) M Q = xW xSR 155 40 [.ref a0, .int a1] (.ref a0 :: st) M Q) ∧
  (∀ (a0 : Nat) (a1 : Int32) (st : List Value) (M : xM) (Q : Option Value → xM → Prop), xW xSR 155 40 [.ref a0, .int a1] (.ref 0 :: st) M Q = xW xSR 155 43 [.ref a0, .int a1] (.ref 1 :: st) M Q) ∧
  (∀ (a0 : Nat) (a1 : Int32) (st : List Value) (M : xM) (Q : Option Value → xM → Prop), xW xSR 155 43 [.ref a0, .int a1] (st) M Q = xW xSR 155 44 [.ref a0, .int a1] (.int a1 :: st) M Q) ∧
  (∀ (a0 : Nat) (a1 : Int32) (st : List Value) (M : xM) (Q : Option Value → xM → Prop), xW xSR 155 44 [.ref a0, .int a1] (st) M Q = xW xSR 155 45 [.ref a0, .int a1] (.ref a0 :: st) M Q) ∧
  (∀ (a0 : Nat) (a1 : Int32) (st : List Value) (M : xM) (Q : Option Value → xM → Prop), xW xSR 155 45 [.ref a0, .int a1] (.ref 0 :: st) M Q = xW xSR 155 48 [.ref a0, .int a1] (.ref 3 :: st) M Q) ∧
  (∀ (a0 : Nat) (a1 : Int32) (st : List Value) (M : xM) (Q : Option Value → xM → Prop), xW xSR 155 48 [.ref a0, .int a1] (st) M Q = xW xSR 155 49 [.ref a0, .int a1] (.int a1 :: st) M Q) ∧
  (∀ (a0 : Nat) (a1 : Int32) (y0 : Nat) (st : List Value) (M : xM) (Q : Option Value → xM → Prop), y0 < 156 → xW xSR 155 49 [.ref a0, .int a1] (.int (nI y0) :: .ref 3 :: st) M Q = xW xSR 155 50 [.ref a0, .int a1] (.int (M 3 y0) :: st) M Q) ∧
  (∀ (a0 : Nat) (a1 : Int32) (y0 : Int32) (y1 : Nat) (st : List Value) (M : xM) (Q : Option Value → xM → Prop), y1 < 156 → xW xSR 155 50 [.ref a0, .int a1] (.int y0 :: .int (nI y1) :: .ref 1 :: st) M Q = xW xSR 155 51 [.ref a0, .int a1] (st) (xup M 1 y1 y0) Q) ∧
  (∀ (a0 : Nat) (a1 : Int32) (st : List Value) (M : xM) (Q : Option Value → xM → Prop), xW xSR 155 51 [.ref a0, .int a1] (st) M Q = xW xSR 155 54 [.ref a0, .int (a1 + nI 1)] (st) M Q) ∧
  (∀ (a0 : Nat) (a1 : Int32) (st : List Value) (M : xM) (Q : Option Value → xM → Prop), xW xSR 155 54 [.ref a0, .int a1] (st) M Q = xW xSR 155 32 [.ref a0, .int a1] (st) M Q) ∧
  (∀ (a0 : Nat) (a1 : Int32) (st : List Value) (M : xM) (Q : Option Value → xM → Prop), xW xSR 155 57 [.ref a0, .int a1] (st) M Q = xW xSR 155 58 [.ref a0, .int a1] (.ref a0 :: st) M Q) ∧
  (∀ (a0 : Nat) (a1 : Int32) (st : List Value) (M : xM) (Q : Option Value → xM → Prop), xW xSR 155 58 [.ref a0, .int a1] (st) M Q = xW xSR 155 59 [.ref a0, .int a1] (.int (nI 0) :: st) M Q) ∧
  (∀ (a0 : Nat) (a1 : Int32) (y0 : Int32) (st : List Value) (M : xM) (Q : Option Value → xM → Prop), xW xSR 155 59 [.ref a0, .int a1] (.int y0 :: .ref 0 :: st) M Q = xW xSR 155 62 [.ref a0, .int a1] (st) (xup M 0 11 y0) Q) ∧
  (∀ (a0 : Nat) (a1 : Int32) (st : List Value) (M : xM) (Q : Option Value → xM → Prop), xW xSR 155 62 [.ref a0, .int a1] (st) M Q = xW xSR 155 63 [.ref a0, .int a1] (.ref a0 :: st) M Q) ∧
  (∀ (a0 : Nat) (a1 : Int32) (st : List Value) (M : xM) (Q : Option Value → xM → Prop), xW xSR 155 63 [.ref a0, .int a1] (st) M Q = xW xSR 155 64 [.ref a0, .int a1] (.int (nI 0) :: st) M Q) ∧
  (∀ (a0 : Nat) (a1 : Int32) (y0 : Int32) (st : List Value) (M : xM) (Q : Option Value → xM → Prop), xW xSR 155 64 [.ref a0, .int a1] (.int y0 :: .ref 0 :: st) M Q = xW xSR 155 67 [.ref a0, .int a1] (st) (xup M 0 16 y0) Q) ∧
  (∀ (a0 : Nat) (a1 : Int32) (st : List Value) (M : xM) (Q : Option Value → xM → Prop), xW xSR 155 67 [.ref a0, .int a1] (st) M Q = xW xSR 155 68 [.ref a0, .int a1] (.ref a0 :: st) M Q) ∧
  (∀ (a0 : Nat) (a1 : Int32) (st : List Value) (M : xM) (Q : Option Value → xM → Prop), xW xSR 155 68 [.ref a0, .int a1] (st) M Q = xW xSR 155 69 [.ref a0, .int a1] (.int (nI 0) :: st) M Q) ∧
  (∀ (a0 : Nat) (a1 : Int32) (y0 : Int32) (st : List Value) (M : xM) (Q : Option Value → xM → Prop), xW xSR 155 69 [.ref a0, .int a1] (.int y0 :: .ref 0 :: st) M Q = xW xSR 155 72 [.ref a0, .int a1] (st) (xup M 0 10 y0) Q) ∧
  (∀ (a0 : Nat) (a1 : Int32) (st : List Value) (M : xM) (Q : Option Value → xM → Prop), xW xSR 155 72 [.ref a0, .int a1] (st) M Q = xW xSR 155 73 [.ref a0, .int a1] (.ref a0 :: st) M Q) ∧
  (∀ (a0 : Nat) (a1 : Int32) (st : List Value) (M : xM) (Q : Option Value → xM → Prop), xW xSR 155 73 [.ref a0, .int a1] (st) M Q = xW xSR 155 74 [.ref a0, .int a1] (.int (nI 0) :: st) M Q) ∧
  (∀ (a0 : Nat) (a1 : Int32) (y0 : Int32) (st : List Value) (M : xM) (Q : Option Value → xM → Prop), xW xSR 155 74 [.ref a0, .int a1] (.int y0 :: .ref 0 :: st) M Q = xW xSR 155 77 [.ref a0, .int a1] (st) (xup M 0 18 y0) Q) ∧
  (∀ (a0 : Nat) (a1 : Int32) (st : List Value) (M : xM) (Q : Option Value → xM → Prop), xW xSR 155 77 [.ref a0, .int a1] (st) M Q = xW xSR 155 78 [.ref a0, .int a1] (.ref a0 :: st) M Q) ∧
  (∀ (a0 : Nat) (a1 : Int32) (st : List Value) (M : xM) (Q : Option Value → xM → Prop), xW xSR 155 78 [.ref a0, .int a1] (.ref 0 :: st) M Q = xW xSR 155 81 [.ref a0, .int a1] (.ref 1 :: st) M Q) ∧
  (∀ (a0 : Nat) (a1 : Int32) (st : List Value) (M : xM) (Q : Option Value → xM → Prop), xW xSR 155 81 [.ref a0, .int a1] (st) M Q = xW xSR 155 82 [.ref a0, .int a1] (.int (nI 0) :: st) M Q) ∧
  (∀ (a0 : Nat) (a1 : Int32) (y0 : Nat) (st : List Value) (M : xM) (Q : Option Value → xM → Prop), y0 < 156 → xW xSR 155 82 [.ref a0, .int a1] (.int (nI y0) :: .ref 1 :: st) M Q = xW xSR 155 83 [.ref a0, .int a1] (.int (M 1 y0) :: st) M Q) ∧
  (∀ (a0 : Nat) (a1 : Int32) (y0 : Int32) (M : xM) (Q : Option Value → xM → Prop), xW xSR 155 83 [.ref a0, .int a1] ([.int y0]) M Q = Q (some (.int y0)) M) :=
  ⟨fun a0 a1 st M Q => xw_s rfl rfl,
  fun a0 a1 M Q => xw_call rfl rfl rfl,
  fun a0 a1 st M Q => xw_s rfl rfl,
  fun a0 a1 y0 y1 st M Q => xw_brn (c0 := y1 ≠ y0) (c1 := y1 = y0) rfl rfl (Iff.rfl),
  fun a0 a1 st M Q => xw_s rfl rfl,
  fun a0 a1 st M Q => xw_s rfl rfl,
  fun a0 a1 st M Q => xw_s rfl rfl,
  fun a0 a1 y0 st M Q h0 => xw_ald rfl rfl rfl (by decide) h0,
  fun a0 a1 y0 st M Q => xw_br (c0 := y0 = nI 0) rfl rfl,
  fun a0 a1 st M Q => xw_s rfl rfl,
  fun a0 a1 st M Q => xw_s rfl rfl,
  fun a0 a1 st M Q => xw_s rfl rfl,
  fun a0 a1 y0 st M Q h0 => xw_ald rfl rfl rfl (by decide) h0,
  fun a0 a1 y0 st M Q => xw_brn (c0 := y0 ≠ nI 0) (c1 := y0 = nI 0) rfl rfl (Iff.rfl),
  fun a0 a1 y0 M Q => xw_ret rfl rfl,
  fun a0 a1 st M Q => xw_s rfl rfl,
  fun a0 a1 y0 st M Q => xw_s rfl rfl,
  fun a0 a1 st M Q => xw_s rfl rfl,
  fun a0 a1 y0 y1 st M Q => xw_brn (c0 := y0 ≤ y1) (c1 := y1 < y0) rfl rfl (xge _ _),
  fun a0 a1 st M Q => xw_s rfl rfl,
  fun a0 a1 st M Q => xw_s rfl rfl,
  fun a0 a1 st M Q => xw_s rfl rfl,
  fun a0 a1 st M Q => xw_s rfl rfl,
  fun a0 a1 st M Q => xw_s rfl rfl,
  fun a0 a1 st M Q => xw_s rfl rfl,
  fun a0 a1 y0 st M Q h0 => xw_ald rfl rfl rfl (by decide) h0,
  fun a0 a1 y0 y1 st M Q h0 => xw_ast (f := fun x => x) rfl rfl rfl (by decide) h0,
  fun a0 a1 st M Q => xw_s rfl rfl,
  fun a0 a1 st M Q => xw_s rfl rfl,
  fun a0 a1 st M Q => xw_s rfl rfl,
  fun a0 a1 st M Q => xw_s rfl rfl,
  fun a0 a1 y0 st M Q => xw_s rfl rfl,
  fun a0 a1 st M Q => xw_s rfl rfl,
  fun a0 a1 st M Q => xw_s rfl rfl,
  fun a0 a1 y0 st M Q => xw_s rfl rfl,
  fun a0 a1 st M Q => xw_s rfl rfl,
  fun a0 a1 st M Q => xw_s rfl rfl,
  fun a0 a1 y0 st M Q => xw_s rfl rfl,
  fun a0 a1 st M Q => xw_s rfl rfl,
  fun a0 a1 st M Q => xw_s rfl rfl,
  fun a0 a1 y0 st M Q => xw_s rfl rfl,
  fun a0 a1 st M Q => xw_s rfl rfl,
  fun a0 a1 st M Q => xw_s rfl rfl,
  fun a0 a1 st M Q => xw_s rfl rfl,
  fun a0 a1 y0 st M Q h0 => xw_ald rfl rfl rfl (by decide) h0,
  fun a0 a1 y0 M Q => xw_ret rfl rfl⟩
set_option maxRecDepth 20000 in
theorem h155_27 :
  (∀ (a0 : Nat) (a1 : Value) (st : List Value) (M : xM) (Q : Option Value → xM → Prop), xW xSR 155 27 [.ref a0, a1] (st) M Q = xW xSR 155 29 [.ref a0, a1] (.int (-2) :: st) M Q) :=
  fun a0 a1 st M Q => xw_s rfl rfl
set_option maxRecDepth 20000 in
theorem h155_32 :
  (∀ (a0 : Nat) (a1 : Int32) (st : List Value) (M : xM) (Q : Option Value → xM → Prop), xW xSR 155 32 [.ref a0, .int a1] (st) M Q = xW xSR 155 33 [.ref a0, .int a1] (.int a1 :: st) M Q) :=
  fun a0 a1 st M Q => xw_s rfl rfl
set_option maxRecDepth 20000 in
theorem j155 :
  (∀ (a0 : Nat) (a1 : Value) (st : List Value) (M : xM) (Q : Option Value → xM → Prop), xW xSR 155 27 [.ref a0, a1] (st) M Q = xW xSR 155 29 [.ref a0, a1] (.int (-2) :: st) M Q) :=
  fun a0 a1 st M Q => xw_s rfl rfl

set_option maxRecDepth 20000 in
theorem s156 :
  (∀ (a0 : Nat) (a1 : Int32) (a2 : Int32) (st : List Value) (M : xM) (Q : Option Value → xM → Prop), xW xSR 156 0 [.ref a0, .int a1, .int a2] (st) M Q = xW xSR 156 1 [.ref a0, .int a1, .int a2] (.ref a0 :: st) M Q) ∧
  (∀ (a0 : Nat) (a1 : Int32) (a2 : Int32) (st : List Value) (M : xM) (Q : Option Value → xM → Prop), xW xSR 156 1 [.ref a0, .int a1, .int a2] (st) M Q = xW xSR 156 2 [.ref a0, .int a1, .int a2] (.int a1 :: st) M Q) ∧
  (∀ (a0 : Nat) (a1 : Int32) (a2 : Int32) (y0 : Int32) (M : xM) (Q : Option Value → xM → Prop), xW xSR 156 2 [.ref a0, .int a1, .int a2] (.int y0 :: .ref 0 :: []) M Q = xW xSR 140 0 [.ref 0, .int y0] [] M (fun v M' => xW xSR 156 5 [.ref a0, .int a1, .int a2] (xpush v []) M' Q)) ∧
  (∀ (a0 : Nat) (a1 : Int32) (a2 : Int32) (y0 : Int32) (st : List Value) (M : xM) (Q : Option Value → xM → Prop), xW xSR 156 5 [.ref a0, .int a1, .int a2] (.int y0 :: st) M Q = if y0 = nI 0 then xW xSR 156 20 [.ref a0, .int a1, .int a2] (st) M Q else xW xSR 156 8 [.ref a0, .int a1, .int a2] (st) M Q) ∧
  (∀ (a0 : Nat) (a1 : Int32) (a2 : Int32) (st : List Value) (M : xM) (Q : Option Value → xM → Prop), xW xSR 156 8 [.ref a0, .int a1, .int a2] (st) M Q = xW xSR 156 9 [.ref a0, .int a1, .int a2] (.int a2 :: st) M Q) ∧
  (∀ (a0 : Nat) (a1 : Int32) (a2 : Int32) (y0 : Int32) (st : List Value) (M : xM) (Q : Option Value → xM → Prop), xW xSR 156 9 [.ref a0, .int a1, .int a2] (.int y0 :: st) M Q = xW xSR 156 10 [.ref a0, .int a1, .int a2] (.long y0.toInt64 :: st) M Q) ∧
  (∀ (a0 : Nat) (a1 : Int32) (a2 : Int32) (st : List Value) (M : xM) (Q : Option Value → xM → Prop), xW xSR 156 10 [.ref a0, .int a1, .int a2] (st) M Q = xW xSR 156 11 [.ref a0, .int a1, .int a2] (.long (lN 0) :: st) M Q) ∧
  (∀ (a0 : Nat) (a1 : Int32) (a2 : Int32) (st : List Value) (M : xM) (Q : Option Value → xM → Prop), xW xSR 156 11 [.ref a0, .int a1, .int a2] (st) M Q = xW xSR 156 14 [.ref a0, .int a1, .int a2] (.long (lN 7) :: st) M Q) ∧
  (∀ (a0 : Nat) (a1 : Int32) (a2 : Int32) (y0 : Int64) (y1 : Int64) (y2 : Int64) (M : xM) (Q : Option Value → xM → Prop), xW xSR 156 14 [.ref a0, .int a1, .int a2] (.long y0 :: .long y1 :: .long y2 :: []) M Q = xW xSR 135 0 [.long y2, .null, .long y1, .null, .long y0, .null] [] M (fun v M' => xW xSR 156 17 [.ref a0, .int a1, .int a2] (xpush v []) M' Q)) ∧
  (∀ (a0 : Nat) (a1 : Int32) (a2 : Int32) (y0 : Int32) (st : List Value) (M : xM) (Q : Option Value → xM → Prop), xW xSR 156 17 [.ref a0, .int a1, .int a2] (.int y0 :: st) M Q = if y0 = nI 0 then xW xSR 156 20 [.ref a0, .int a1, .int a2] (st) M Q else xW xSR 156 22 [.ref a0, .int a1, .int a2] (st) M Q) ∧
  (∀ (a0 : Nat) (a1 : Int32) (a2 : Int32) (y0 : Int32) (M : xM) (Q : Option Value → xM → Prop), xW xSR 156 21 [.ref a0, .int a1, .int a2] ([.int y0]) M Q = Q (some (.int y0)) M) ∧
  (∀ (a0 : Nat) (a1 : Int32) (a2 : Int32) (st : List Value) (M : xM) (Q : Option Value → xM → Prop), xW xSR 156 22 [.ref a0, .int a1, .int a2] (st) M Q = xW xSR 156 23 [.ref a0, .int a1, .int a2] (.int a2 :: st) M Q) ∧
  (∀ (a0 : Nat) (a1 : Int32) (a2 : Int32) (st : List Value) (M : xM) (Q : Option Value → xM → Prop), xW xSR 156 23 [.ref a0, .int a1, .int a2] (st) M Q = xW xSR 156 25 [.ref a0, .int a1, .int a2] (.int (nI 6) :: st) M Q) ∧
  (∀ (a0 : Nat) (a1 : Int32) (a2 : Int32) (y0 : Int32) (y1 : Int32) (st : List Value) (M : xM) (Q : Option Value → xM → Prop), xW xSR 156 25 [.ref a0, .int a1, .int a2] (.int y0 :: .int y1 :: st) M Q = if y1 < y0 then xW xSR 156 28 [.ref a0, .int a1, .int a2] (st) M Q else xW xSR 156 44 [.ref a0, .int a1, .int a2] (st) M Q) ∧
  (∀ (a0 : Nat) (a1 : Int32) (a2 : Int32) (st : List Value) (M : xM) (Q : Option Value → xM → Prop), xW xSR 156 28 [.ref a0, .int a1, .int a2] (st) M Q = xW xSR 156 29 [.ref a0, .int a1, .int a2] (.ref a0 :: st) M Q) ∧
  (∀ (a0 : Nat) (a1 : Int32) (a2 : Int32) (st : List Value) (M : xM) (Q : Option Value → xM → Prop), xW xSR 156 29 [.ref a0, .int a1, .int a2] (.ref 0 :: st) M Q = xW xSR 156 32 [.ref a0, .int a1, .int a2] (.ref 1 :: st) M Q) ∧
  (∀ (a0 : Nat) (a1 : Int32) (a2 : Int32) (st : List Value) (M : xM) (Q : Option Value → xM → Prop), xW xSR 156 32 [.ref a0, .int a1, .int a2] (st) M Q = xW xSR 156 33 [.ref a0, .int a1, .int a2] (.int (nI 3) :: st) M Q) ∧
  (∀ (a0 : Nat) (a1 : Int32) (a2 : Int32) (st : List Value) (M : xM) (Q : Option Value → xM → Prop), xW xSR 156 33 [.ref a0, .int a1, .int a2] (st) M Q = xW xSR 156 35 [.ref a0, .int a1, .int a2] (.int (nI 6) :: st) M Q) ∧
  (∀ (a0 : Nat) (a1 : Int32) (a2 : Int32) (st : List Value) (M : xM) (Q : Option Value → xM → Prop), xW xSR 156 35 [.ref a0, .int a1, .int a2] (st) M Q = xW xSR 156 36 [.ref a0, .int a1, .int a2] (.int a1 :: st) M Q) ∧
  (∀ (a0 : Nat) (a1 : Int32) (a2 : Int32) (y0 : Int32) (y1 : Int32) (st : List Value) (M : xM) (Q : Option Value → xM → Prop), xW xSR 156 36 [.ref a0, .int a1, .int a2] (.int y0 :: .int y1 :: st) M Q = xW xSR 156 37 [.ref a0, .int a1, .int a2] (.int (y1 * y0) :: st) M Q) ∧
  (∀ (a0 : Nat) (a1 : Int32) (a2 : Int32) (y0 : Int32) (y1 : Int32) (st : List Value) (M : xM) (Q : Option Value → xM → Prop), xW xSR 156 37 [.ref a0, .int a1, .int a2] (.int y0 :: .int y1 :: st) M Q = xW xSR 156 38 [.ref a0, .int a1, .int a2] (.int (y1 + y0) :: st) M Q) ∧
  (∀ (a0 : Nat) (a1 : Int32) (a2 : Int32) (st : List Value) (M : xM) (Q : Option Value → xM → Prop), xW xSR 156 38 [.ref a0, .int a1, .int a2] (st) M Q = xW xSR 156 39 [.ref a0, .int a1, .int a2] (.int a2 :: st) M Q) ∧
  (∀ (a0 : Nat) (a1 : Int32) (a2 : Int32) (y0 : Int32) (y1 : Int32) (st : List Value) (M : xM) (Q : Option Value → xM → Prop), xW xSR 156 39 [.ref a0, .int a1, .int a2] (.int y0 :: .int y1 :: st) M Q = xW xSR 156 40 [.ref a0, .int a1, .int a2] (.int (y1 + y0) :: st) M Q) ∧
  (∀ (a0 : Nat) (a1 : Int32) (a2 : Int32) (y0 : Nat) (st : List Value) (M : xM) (Q : Option Value → xM → Prop), y0 < 156 → xW xSR 156 40 [.ref a0, .int a1, .int a2] (.int (nI y0) :: .ref 1 :: st) M Q = xW xSR 156 41 [.ref a0, .int a1, .int a2] (.int (M 1 y0) :: st) M Q) ∧
  (∀ (a0 : Nat) (a1 : Int32) (a2 : Int32) (st : List Value) (M : xM) (Q : Option Value → xM → Prop), xW xSR 156 41 [.ref a0, .int a1, .int a2] (st) M Q = xW xSR 156 53 [.ref a0, .int a1, .int a2] (st) M Q) ∧
  (∀ (a0 : Nat) (a1 : Int32) (a2 : Int32) (st : List Value) (M : xM) (Q : Option Value → xM → Prop), xW xSR 156 44 [.ref a0, .int a1, .int a2] (st) M Q = xW xSR 156 45 [.ref a0, .int a1, .int a2] (.ref a0 :: st) M Q) ∧
  (∀ (a0 : Nat) (a1 : Int32) (a2 : Int32) (st : List Value) (M : xM) (Q : Option Value → xM → Prop), xW xSR 156 45 [.ref a0, .int a1, .int a2] (st) M Q = xW xSR 156 46 [.ref a0, .int a1, .int a2] (.int a1 :: st) M Q) ∧
  (∀ (a0 : Nat) (a1 : Int32) (a2 : Int32) (st : List Value) (M : xM) (Q : Option Value → xM → Prop), xW xSR 156 46 [.ref a0, .int a1, .int a2] (st) M Q = xW xSR 156 47 [.ref a0, .int a1, .int a2] (.int a2 :: st) M Q) ∧
  (∀ (a0 : Nat) (a1 : Int32) (a2 : Int32) (st : List Value) (M : xM) (Q : Option Value → xM → Prop), xW xSR 156 47 [.ref a0, .int a1, .int a2] (st) M Q = xW xSR 156 49 [.ref a0, .int a1, .int a2] (.int (nI 6) :: st) M Q) ∧
  (∀ (a0 : Nat) (a1 : Int32) (a2 : Int32) (y0 : Int32) (y1 : Int32) (st : List Value) (M : xM) (Q : Option Value → xM → Prop), xW xSR 156 49 [.ref a0, .int a1, .int a2] (.int y0 :: .int y1 :: st) M Q = xW xSR 156 50 [.ref a0, .int a1, .int a2] (.int (y1 - y0) :: st) M Q) ∧
  (∀ (a0 : Nat) (a1 : Int32) (a2 : Int32) (y0 : Int32) (y1 : Int32) (M : xM) (Q : Option Value → xM → Prop), xW xSR 156 50 [.ref a0, .int a1, .int a2] (.int y0 :: .int y1 :: .ref 0 :: []) M Q = xW xSR 161 0 [.ref 0, .int y1, .int y0, .null] [] M (fun v M' => xW xSR 156 53 [.ref a0, .int a1, .int a2] (xpush v []) M' Q)) :=
  ⟨fun a0 a1 a2 st M Q => xw_s rfl rfl,
  fun a0 a1 a2 st M Q => xw_s rfl rfl,
  fun a0 a1 a2 y0 M Q => xw_call rfl rfl rfl,
  fun a0 a1 a2 y0 st M Q => xw_br (c0 := y0 = nI 0) rfl rfl,
  fun a0 a1 a2 st M Q => xw_s rfl rfl,
  fun a0 a1 a2 y0 st M Q => xw_s rfl rfl,
  fun a0 a1 a2 st M Q => xw_s rfl rfl,
  fun a0 a1 a2 st M Q => xw_s rfl rfl,
  fun a0 a1 a2 y0 y1 y2 M Q => xw_call rfl rfl rfl,
  fun a0 a1 a2 y0 st M Q => xw_brn (c0 := y0 ≠ nI 0) (c1 := y0 = nI 0) rfl rfl (Iff.rfl),
  fun a0 a1 a2 y0 M Q => xw_ret rfl rfl,
  fun a0 a1 a2 st M Q => xw_s rfl rfl,
  fun a0 a1 a2 st M Q => xw_s rfl rfl,
  fun a0 a1 a2 y0 y1 st M Q => xw_brn (c0 := y0 ≤ y1) (c1 := y1 < y0) rfl rfl (xge _ _),
  fun a0 a1 a2 st M Q => xw_s rfl rfl,
  fun a0 a1 a2 st M Q => xw_s rfl rfl,
  fun a0 a1 a2 st M Q => xw_s rfl rfl,
  fun a0 a1 a2 st M Q => xw_s rfl rfl,
  fun a0 a1 a2 st M Q => xw_s rfl rfl,
  fun a0 a1 a2 y0 y1 st M Q => xw_s rfl rfl,
  fun a0 a1 a2 y0 y1 st M Q => xw_s rfl rfl,
  fun a0 a1 a2 st M Q => xw_s rfl rfl,
  fun a0 a1 a2 y0 y1 st M Q => xw_s rfl rfl,
  fun a0 a1 a2 y0 st M Q h0 => xw_ald rfl rfl rfl (by decide) h0,
  fun a0 a1 a2 st M Q => xw_s rfl rfl,
  fun a0 a1 a2 st M Q => xw_s rfl rfl,
  fun a0 a1 a2 st M Q => xw_s rfl rfl,
  fun a0 a1 a2 st M Q => xw_s rfl rfl,
  fun a0 a1 a2 st M Q => xw_s rfl rfl,
  fun a0 a1 a2 y0 y1 st M Q => xw_s rfl rfl,
  fun a0 a1 a2 y0 y1 M Q => xw_call rfl rfl rfl⟩
set_option maxRecDepth 20000 in
theorem h156_20 :
  (∀ (a0 : Nat) (a1 : Int32) (a2 : Int32) (st : List Value) (M : xM) (Q : Option Value → xM → Prop), xW xSR 156 20 [.ref a0, .int a1, .int a2] (st) M Q = xW xSR 156 21 [.ref a0, .int a1, .int a2] (.int (-1) :: st) M Q) :=
  fun a0 a1 a2 st M Q => xw_s rfl rfl
set_option maxRecDepth 20000 in
theorem h156_53 :
  (∀ (a0 : Nat) (a1 : Int32) (a2 : Int32) (y0 : Int32) (M : xM) (Q : Option Value → xM → Prop), xW xSR 156 53 [.ref a0, .int a1, .int a2] ([.int y0]) M Q = Q (some (.int y0)) M) :=
  fun a0 a1 a2 y0 M Q => xw_ret rfl rfl
set_option maxRecDepth 20000 in
theorem j156 :
  (∀ (a0 : Nat) (a1 : Int32) (a2 : Int32) (st : List Value) (M : xM) (Q : Option Value → xM → Prop), xW xSR 156 20 [.ref a0, .int a1, .int a2] (st) M Q = xW xSR 156 21 [.ref a0, .int a1, .int a2] (.int (-1) :: st) M Q) ∧
  (∀ (a0 : Nat) (a1 : Int32) (a2 : Int32) (y0 : Int32) (M : xM) (Q : Option Value → xM → Prop), xW xSR 156 53 [.ref a0, .int a1, .int a2] ([.int y0]) M Q = Q (some (.int y0)) M) :=
  ⟨fun a0 a1 a2 st M Q => xw_s rfl rfl,
  fun a0 a1 a2 y0 M Q => xw_ret rfl rfl⟩

set_option maxRecDepth 20000 in
theorem s157 :
  (∀ (a0 : Nat) (a1 : Int32) (a2 : Int32) (st : List Value) (M : xM) (Q : Option Value → xM → Prop), xW xSR 157 0 [.ref a0, .int a1, .int a2] (st) M Q = xW xSR 157 1 [.ref a0, .int a1, .int a2] (.ref a0 :: st) M Q) ∧
  (∀ (a0 : Nat) (a1 : Int32) (a2 : Int32) (st : List Value) (M : xM) (Q : Option Value → xM → Prop), xW xSR 157 1 [.ref a0, .int a1, .int a2] (st) M Q = xW xSR 157 2 [.ref a0, .int a1, .int a2] (.int a1 :: st) M Q) ∧
  (∀ (a0 : Nat) (a1 : Int32) (a2 : Int32) (y0 : Int32) (M : xM) (Q : Option Value → xM → Prop), xW xSR 157 2 [.ref a0, .int a1, .int a2] (.int y0 :: .ref 0 :: []) M Q = xW xSR 141 0 [.ref 0, .int y0] [] M (fun v M' => xW xSR 157 5 [.ref a0, .int a1, .int a2] (xpush v []) M' Q)) ∧
  (∀ (a0 : Nat) (a1 : Int32) (a2 : Int32) (y0 : Int32) (st : List Value) (M : xM) (Q : Option Value → xM → Prop), xW xSR 157 5 [.ref a0, .int a1, .int a2] (.int y0 :: st) M Q = if y0 = nI 0 then xW xSR 157 36 [.ref a0, .int a1, .int a2] (st) M Q else xW xSR 157 8 [.ref a0, .int a1, .int a2] (st) M Q) ∧
  (∀ (a0 : Nat) (a1 : Int32) (a2 : Int32) (st : List Value) (M : xM) (Q : Option Value → xM → Prop), xW xSR 157 8 [.ref a0, .int a1, .int a2] (st) M Q = xW xSR 157 9 [.ref a0, .int a1, .int a2] (.int a2 :: st) M Q) ∧
  (∀ (a0 : Nat) (a1 : Int32) (a2 : Int32) (y0 : Int32) (st : List Value) (M : xM) (Q : Option Value → xM → Prop), xW xSR 157 9 [.ref a0, .int a1, .int a2] (.int y0 :: st) M Q = xW xSR 157 10 [.ref a0, .int a1, .int a2] (.long y0.toInt64 :: st) M Q) ∧
  (∀ (a0 : Nat) (a1 : Int32) (a2 : Int32) (st : List Value) (M : xM) (Q : Option Value → xM → Prop), xW xSR 157 10 [.ref a0, .int a1, .int a2] (st) M Q = xW xSR 157 11 [.ref a0, .int a1, .int a2] (.long (lN 0) :: st) M Q) ∧
  (∀ (a0 : Nat) (a1 : Int32) (a2 : Int32) (st : List Value) (M : xM) (Q : Option Value → xM → Prop), xW xSR 157 11 [.ref a0, .int a1, .int a2] (st) M Q = xW xSR 157 14 [.ref a0, .int a1, .int a2] (.long (lN 2) :: st) M Q) ∧
  (∀ (a0 : Nat) (a1 : Int32) (a2 : Int32) (y0 : Int64) (y1 : Int64) (y2 : Int64) (M : xM) (Q : Option Value → xM → Prop), xW xSR 157 14 [.ref a0, .int a1, .int a2] (.long y0 :: .long y1 :: .long y2 :: []) M Q = xW xSR 135 0 [.long y2, .null, .long y1, .null, .long y0, .null] [] M (fun v M' => xW xSR 157 17 [.ref a0, .int a1, .int a2] (xpush v []) M' Q)) ∧
  (∀ (a0 : Nat) (a1 : Int32) (a2 : Int32) (y0 : Int32) (st : List Value) (M : xM) (Q : Option Value → xM → Prop), xW xSR 157 17 [.ref a0, .int a1, .int a2] (.int y0 :: st) M Q = if y0 = nI 0 then xW xSR 157 36 [.ref a0, .int a1, .int a2] (st) M Q else xW xSR 157 20 [.ref a0, .int a1, .int a2] (st) M Q) ∧
  (∀ (a0 : Nat) (a1 : Int32) (a2 : Int32) (st : List Value) (M : xM) (Q : Option Value → xM → Prop), xW xSR 157 20 [.ref a0, .int a1, .int a2] (st) M Q = xW xSR 157 21 [.ref a0, .int a1, .int a2] (.ref a0 :: st) M Q) ∧
  (∀ (a0 : Nat) (a1 : Int32) (a2 : Int32) (st : List Value) (M : xM) (Q : Option Value → xM → Prop), xW xSR 157 21 [.ref a0, .int a1, .int a2] (.ref 0 :: st) M Q = xW xSR 157 24 [.ref a0, .int a1, .int a2] (.ref 1 :: st) M Q) ∧
  (∀ (a0 : Nat) (a1 : Int32) (a2 : Int32) (st : List Value) (M : xM) (Q : Option Value → xM → Prop), xW xSR 157 24 [.ref a0, .int a1, .int a2] (st) M Q = xW xSR 157 26 [.ref a0, .int a1, .int a2] (.int (nI 51) :: st) M Q) ∧
  (∀ (a0 : Nat) (a1 : Int32) (a2 : Int32) (st : List Value) (M : xM) (Q : Option Value → xM → Prop), xW xSR 157 26 [.ref a0, .int a1, .int a2] (st) M Q = xW xSR 157 27 [.ref a0, .int a1, .int a2] (.int (nI 3) :: st) M Q) ∧
  (∀ (a0 : Nat) (a1 : Int32) (a2 : Int32) (st : List Value) (M : xM) (Q : Option Value → xM → Prop), xW xSR 157 27 [.ref a0, .int a1, .int a2] (st) M Q = xW xSR 157 28 [.ref a0, .int a1, .int a2] (.int a1 :: st) M Q) ∧
  (∀ (a0 : Nat) (a1 : Int32) (a2 : Int32) (y0 : Int32) (y1 : Int32) (st : List Value) (M : xM) (Q : Option Value → xM → Prop), xW xSR 157 28 [.ref a0, .int a1, .int a2] (.int y0 :: .int y1 :: st) M Q = xW xSR 157 29 [.ref a0, .int a1, .int a2] (.int (y1 * y0) :: st) M Q) ∧
  (∀ (a0 : Nat) (a1 : Int32) (a2 : Int32) (y0 : Int32) (y1 : Int32) (st : List Value) (M : xM) (Q : Option Value → xM → Prop), xW xSR 157 29 [.ref a0, .int a1, .int a2] (.int y0 :: .int y1 :: st) M Q = xW xSR 157 30 [.ref a0, .int a1, .int a2] (.int (y1 + y0) :: st) M Q) ∧
  (∀ (a0 : Nat) (a1 : Int32) (a2 : Int32) (st : List Value) (M : xM) (Q : Option Value → xM → Prop), xW xSR 157 30 [.ref a0, .int a1, .int a2] (st) M Q = xW xSR 157 31 [.ref a0, .int a1, .int a2] (.int a2 :: st) M Q) ∧
  (∀ (a0 : Nat) (a1 : Int32) (a2 : Int32) (y0 : Int32) (y1 : Int32) (st : List Value) (M : xM) (Q : Option Value → xM → Prop), xW xSR 157 31 [.ref a0, .int a1, .int a2] (.int y0 :: .int y1 :: st) M Q = xW xSR 157 32 [.ref a0, .int a1, .int a2] (.int (y1 + y0) :: st) M Q) ∧
  (∀ (a0 : Nat) (a1 : Int32) (a2 : Int32) (y0 : Nat) (st : List Value) (M : xM) (Q : Option Value → xM → Prop), y0 < 156 → xW xSR 157 32 [.ref a0, .int a1, .int a2] (.int (nI y0) :: .ref 1 :: st) M Q = xW xSR 157 33 [.ref a0, .int a1, .int a2] (.int (M 1 y0) :: st) M Q) ∧
  (∀ (a0 : Nat) (a1 : Int32) (a2 : Int32) (st : List Value) (M : xM) (Q : Option Value → xM → Prop), xW xSR 157 33 [.ref a0, .int a1, .int a2] (st) M Q = xW xSR 157 37 [.ref a0, .int a1, .int a2] (st) M Q) :=
  ⟨fun a0 a1 a2 st M Q => xw_s rfl rfl,
  fun a0 a1 a2 st M Q => xw_s rfl rfl,
  fun a0 a1 a2 y0 M Q => xw_call rfl rfl rfl,
  fun a0 a1 a2 y0 st M Q => xw_br (c0 := y0 = nI 0) rfl rfl,
  fun a0 a1 a2 st M Q => xw_s rfl rfl,
  fun a0 a1 a2 y0 st M Q => xw_s rfl rfl,
  fun a0 a1 a2 st M Q => xw_s rfl rfl,
  fun a0 a1 a2 st M Q => xw_s rfl rfl,
  fun a0 a1 a2 y0 y1 y2 M Q => xw_call rfl rfl rfl,
  fun a0 a1 a2 y0 st M Q => xw_br (c0 := y0 = nI 0) rfl rfl,
  fun a0 a1 a2 st M Q => xw_s rfl rfl,
  fun a0 a1 a2 st M Q => xw_s rfl rfl,
  fun a0 a1 a2 st M Q => xw_s rfl rfl,
  fun a0 a1 a2 st M Q => xw_s rfl rfl,
  fun a0 a1 a2 st M Q => xw_s rfl rfl,
  fun a0 a1 a2 y0 y1 st M Q => xw_s rfl rfl,
  fun a0 a1 a2 y0 y1 st M Q => xw_s rfl rfl,
  fun a0 a1 a2 st M Q => xw_s rfl rfl,
  fun a0 a1 a2 y0 y1 st M Q => xw_s rfl rfl,
  fun a0 a1 a2 y0 st M Q h0 => xw_ald rfl rfl rfl (by decide) h0,
  fun a0 a1 a2 st M Q => xw_s rfl rfl⟩
set_option maxRecDepth 20000 in
theorem h157_36 :
  (∀ (a0 : Nat) (a1 : Int32) (a2 : Int32) (st : List Value) (M : xM) (Q : Option Value → xM → Prop), xW xSR 157 36 [.ref a0, .int a1, .int a2] (st) M Q = xW xSR 157 37 [.ref a0, .int a1, .int a2] (.int (-1) :: st) M Q) :=
  fun a0 a1 a2 st M Q => xw_s rfl rfl
set_option maxRecDepth 20000 in
theorem h157_37 :
  (∀ (a0 : Nat) (a1 : Int32) (a2 : Int32) (y0 : Int32) (M : xM) (Q : Option Value → xM → Prop), xW xSR 157 37 [.ref a0, .int a1, .int a2] ([.int y0]) M Q = Q (some (.int y0)) M) :=
  fun a0 a1 a2 y0 M Q => xw_ret rfl rfl
set_option maxRecDepth 20000 in
theorem j157 :
  (∀ (a0 : Nat) (a1 : Int32) (a2 : Int32) (st : List Value) (M : xM) (Q : Option Value → xM → Prop), xW xSR 157 36 [.ref a0, .int a1, .int a2] (st) M Q = xW xSR 157 37 [.ref a0, .int a1, .int a2] (.int (-1) :: st) M Q) ∧
  (∀ (a0 : Nat) (a1 : Int32) (a2 : Int32) (y0 : Int32) (M : xM) (Q : Option Value → xM → Prop), xW xSR 157 37 [.ref a0, .int a1, .int a2] ([.int y0]) M Q = Q (some (.int y0)) M) :=
  ⟨fun a0 a1 a2 st M Q => xw_s rfl rfl,
  fun a0 a1 a2 y0 M Q => xw_ret rfl rfl⟩

set_option maxRecDepth 20000 in
theorem s158 :
  (∀ (a0 : Int32) (a1 : Int32) (a2 : Int32) (st : List Value) (M : xM) (Q : Option Value → xM → Prop), xW xSR 158 0 [.int a0, .int a1, .int a2] (st) M Q = xW xSR 158 2 [.int a0, .int a1, .int a2] (.int (nI 66) :: st) M Q) ∧
  (∀ (a0 : Int32) (a1 : Int32) (a2 : Int32) (st : List Value) (M : xM) (Q : Option Value → xM → Prop), xW xSR 158 2 [.int a0, .int a1, .int a2] (st) M Q = xW xSR 158 4 [.int a0, .int a1, .int a2] (.int (nI 16) :: st) M Q) ∧
  (∀ (a0 : Int32) (a1 : Int32) (a2 : Int32) (st : List Value) (M : xM) (Q : Option Value → xM → Prop), xW xSR 158 4 [.int a0, .int a1, .int a2] (st) M Q = xW xSR 158 5 [.int a0, .int a1, .int a2] (.int a0 :: st) M Q) ∧
  (∀ (a0 : Int32) (a1 : Int32) (a2 : Int32) (y0 : Int32) (y1 : Int32) (st : List Value) (M : xM) (Q : Option Value → xM → Prop), xW xSR 158 5 [.int a0, .int a1, .int a2] (.int y0 :: .int y1 :: st) M Q = xW xSR 158 6 [.int a0, .int a1, .int a2] (.int (y1 * y0) :: st) M Q) ∧
  (∀ (a0 : Int32) (a1 : Int32) (a2 : Int32) (y0 : Int32) (y1 : Int32) (st : List Value) (M : xM) (Q : Option Value → xM → Prop), xW xSR 158 6 [.int a0, .int a1, .int a2] (.int y0 :: .int y1 :: st) M Q = xW xSR 158 7 [.int a0, .int a1, .int a2] (.int (y1 + y0) :: st) M Q) ∧
  (∀ (a0 : Int32) (a1 : Int32) (a2 : Int32) (st : List Value) (M : xM) (Q : Option Value → xM → Prop), xW xSR 158 7 [.int a0, .int a1, .int a2] (st) M Q = xW xSR 158 8 [.int a0, .int a1, .int a2] (.int (nI 2) :: st) M Q) ∧
  (∀ (a0 : Int32) (a1 : Int32) (a2 : Int32) (st : List Value) (M : xM) (Q : Option Value → xM → Prop), xW xSR 158 8 [.int a0, .int a1, .int a2] (st) M Q = xW xSR 158 9 [.int a0, .int a1, .int a2] (.int a1 :: st) M Q) ∧
  (∀ (a0 : Int32) (a1 : Int32) (a2 : Int32) (y0 : Int32) (y1 : Int32) (st : List Value) (M : xM) (Q : Option Value → xM → Prop), xW xSR 158 9 [.int a0, .int a1, .int a2] (.int y0 :: .int y1 :: st) M Q = xW xSR 158 10 [.int a0, .int a1, .int a2] (.int (y1 * y0) :: st) M Q) ∧
  (∀ (a0 : Int32) (a1 : Int32) (a2 : Int32) (y0 : Int32) (y1 : Int32) (st : List Value) (M : xM) (Q : Option Value → xM → Prop), xW xSR 158 10 [.int a0, .int a1, .int a2] (.int y0 :: .int y1 :: st) M Q = xW xSR 158 11 [.int a0, .int a1, .int a2] (.int (y1 + y0) :: st) M Q) ∧
  (∀ (a0 : Int32) (a1 : Int32) (a2 : Int32) (st : List Value) (M : xM) (Q : Option Value → xM → Prop), xW xSR 158 11 [.int a0, .int a1, .int a2] (st) M Q = xW xSR 158 12 [.int a0, .int a1, .int a2] (.int a2 :: st) M Q) ∧
  (∀ (a0 : Int32) (a1 : Int32) (a2 : Int32) (y0 : Int32) (y1 : Int32) (st : List Value) (M : xM) (Q : Option Value → xM → Prop), xW xSR 158 12 [.int a0, .int a1, .int a2] (.int y0 :: .int y1 :: st) M Q = xW xSR 158 13 [.int a0, .int a1, .int a2] (.int (y1 + y0) :: st) M Q) ∧
  (∀ (a0 : Int32) (a1 : Int32) (a2 : Int32) (y0 : Int32) (M : xM) (Q : Option Value → xM → Prop), xW xSR 158 13 [.int a0, .int a1, .int a2] ([.int y0]) M Q = Q (some (.int y0)) M) :=
  ⟨fun a0 a1 a2 st M Q => xw_s rfl rfl,
  fun a0 a1 a2 st M Q => xw_s rfl rfl,
  fun a0 a1 a2 st M Q => xw_s rfl rfl,
  fun a0 a1 a2 y0 y1 st M Q => xw_s rfl rfl,
  fun a0 a1 a2 y0 y1 st M Q => xw_s rfl rfl,
  fun a0 a1 a2 st M Q => xw_s rfl rfl,
  fun a0 a1 a2 st M Q => xw_s rfl rfl,
  fun a0 a1 a2 y0 y1 st M Q => xw_s rfl rfl,
  fun a0 a1 a2 y0 y1 st M Q => xw_s rfl rfl,
  fun a0 a1 a2 st M Q => xw_s rfl rfl,
  fun a0 a1 a2 y0 y1 st M Q => xw_s rfl rfl,
  fun a0 a1 a2 y0 M Q => xw_ret rfl rfl⟩
theorem j158 : True := trivial

set_option maxRecDepth 20000 in
theorem s159 :
  (∀ (a0 : Nat) (a1 : Int32) (a2 : Int32) (a3 : Int32) (st : List Value) (M : xM) (Q : Option Value → xM → Prop), xW xSR 159 0 [.ref a0, .int a1, .int a2, .int a3] (st) M Q = xW xSR 159 1 [.ref a0, .int a1, .int a2, .int a3] (.ref a0 :: st) M Q) ∧
  (∀ (a0 : Nat) (a1 : Int32) (a2 : Int32) (a3 : Int32) (st : List Value) (M : xM) (Q : Option Value → xM → Prop), xW xSR 159 1 [.ref a0, .int a1, .int a2, .int a3] (st) M Q = xW xSR 159 2 [.ref a0, .int a1, .int a2, .int a3] (.int a1 :: st) M Q) ∧
  (∀ (a0 : Nat) (a1 : Int32) (a2 : Int32) (a3 : Int32) (y0 : Int32) (M : xM) (Q : Option Value → xM → Prop), xW xSR 159 2 [.ref a0, .int a1, .int a2, .int a3] (.int y0 :: .ref 0 :: []) M Q = xW xSR 141 0 [.ref 0, .int y0] [] M (fun v M' => xW xSR 159 5 [.ref a0, .int a1, .int a2, .int a3] (xpush v []) M' Q)) ∧
  (∀ (a0 : Nat) (a1 : Int32) (a2 : Int32) (a3 : Int32) (y0 : Int32) (st : List Value) (M : xM) (Q : Option Value → xM → Prop), xW xSR 159 5 [.ref a0, .int a1, .int a2, .int a3] (.int y0 :: st) M Q = if y0 = nI 0 then xW xSR 159 37 [.ref a0, .int a1, .int a2, .int a3] (st) M Q else xW xSR 159 8 [.ref a0, .int a1, .int a2, .int a3] (st) M Q) ∧
  (∀ (a0 : Nat) (a1 : Int32) (a2 : Int32) (a3 : Int32) (st : List Value) (M : xM) (Q : Option Value → xM → Prop), xW xSR 159 8 [.ref a0, .int a1, .int a2, .int a3] (st) M Q = xW xSR 159 9 [.ref a0, .int a1, .int a2, .int a3] (.ref a0 :: st) M Q) ∧
  (∀ (a0 : Nat) (a1 : Int32) (a2 : Int32) (a3 : Int32) (st : List Value) (M : xM) (Q : Option Value → xM → Prop), xW xSR 159 9 [.ref a0, .int a1, .int a2, .int a3] (st) M Q = xW xSR 159 10 [.ref a0, .int a1, .int a2, .int a3] (.int a2 :: st) M Q) ∧
  (∀ (a0 : Nat) (a1 : Int32) (a2 : Int32) (a3 : Int32) (y0 : Int32) (M : xM) (Q : Option Value → xM → Prop), xW xSR 159 10 [.ref a0, .int a1, .int a2, .int a3] (.int y0 :: .ref 0 :: []) M Q = xW xSR 140 0 [.ref 0, .int y0] [] M (fun v M' => xW xSR 159 13 [.ref a0, .int a1, .int a2, .int a3] (xpush v []) M' Q)) ∧
  (∀ (a0 : Nat) (a1 : Int32) (a2 : Int32) (a3 : Int32) (y0 : Int32) (st : List Value) (M : xM) (Q : Option Value → xM → Prop), xW xSR 159 13 [.ref a0, .int a1, .int a2, .int a3] (.int y0 :: st) M Q = if y0 = nI 0 then xW xSR 159 37 [.ref a0, .int a1, .int a2, .int a3] (st) M Q else xW xSR 159 16 [.ref a0, .int a1, .int a2, .int a3] (st) M Q) ∧
  (∀ (a0 : Nat) (a1 : Int32) (a2 : Int32) (a3 : Int32) (st : List Value) (M : xM) (Q : Option Value → xM → Prop), xW xSR 159 16 [.ref a0, .int a1, .int a2, .int a3] (st) M Q = xW xSR 159 17 [.ref a0, .int a1, .int a2, .int a3] (.int a3 :: st) M Q) ∧
  (∀ (a0 : Nat) (a1 : Int32) (a2 : Int32) (a3 : Int32) (y0 : Int32) (M : xM) (Q : Option Value → xM → Prop), xW xSR 159 17 [.ref a0, .int a1, .int a2, .int a3] (.int y0 :: []) M Q = xW xSR 142 0 [.int y0] [] M (fun v M' => xW xSR 159 20 [.ref a0, .int a1, .int a2, .int a3] (xpush v []) M' Q)) ∧
  (∀ (a0 : Nat) (a1 : Int32) (a2 : Int32) (a3 : Int32) (y0 : Int32) (st : List Value) (M : xM) (Q : Option Value → xM → Prop), xW xSR 159 20 [.ref a0, .int a1, .int a2, .int a3] (.int y0 :: st) M Q = if y0 = nI 0 then xW xSR 159 37 [.ref a0, .int a1, .int a2, .int a3] (st) M Q else xW xSR 159 23 [.ref a0, .int a1, .int a2, .int a3] (st) M Q) ∧
  (∀ (a0 : Nat) (a1 : Int32) (a2 : Int32) (a3 : Int32) (st : List Value) (M : xM) (Q : Option Value → xM → Prop), xW xSR 159 23 [.ref a0, .int a1, .int a2, .int a3] (st) M Q = xW xSR 159 24 [.ref a0, .int a1, .int a2, .int a3] (.ref a0 :: st) M Q) ∧
  (∀ (a0 : Nat) (a1 : Int32) (a2 : Int32) (a3 : Int32) (st : List Value) (M : xM) (Q : Option Value → xM → Prop), xW xSR 159 24 [.ref a0, .int a1, .int a2, .int a3] (.ref 0 :: st) M Q = xW xSR 159 27 [.ref a0, .int a1, .int a2, .int a3] (.ref 1 :: st) M Q) ∧
  (∀ (a0 : Nat) (a1 : Int32) (a2 : Int32) (a3 : Int32) (st : List Value) (M : xM) (Q : Option Value → xM → Prop), xW xSR 159 27 [.ref a0, .int a1, .int a2, .int a3] (st) M Q = xW xSR 159 28 [.ref a0, .int a1, .int a2, .int a3] (.int a1 :: st) M Q) ∧
  (∀ (a0 : Nat) (a1 : Int32) (a2 : Int32) (a3 : Int32) (st : List Value) (M : xM) (Q : Option Value → xM → Prop), xW xSR 159 28 [.ref a0, .int a1, .int a2, .int a3] (st) M Q = xW xSR 159 29 [.ref a0, .int a1, .int a2, .int a3] (.int a2 :: st) M Q) ∧
  (∀ (a0 : Nat) (a1 : Int32) (a2 : Int32) (a3 : Int32) (st : List Value) (M : xM) (Q : Option Value → xM → Prop), xW xSR 159 29 [.ref a0, .int a1, .int a2, .int a3] (st) M Q = xW xSR 159 30 [.ref a0, .int a1, .int a2, .int a3] (.int a3 :: st) M Q) ∧
  (∀ (a0 : Nat) (a1 : Int32) (a2 : Int32) (a3 : Int32) (y0 : Int32) (y1 : Int32) (y2 : Int32) (y3 : Nat) (M : xM) (Q : Option Value → xM → Prop), xW xSR 159 30 [.ref a0, .int a1, .int a2, .int a3] (.int y0 :: .int y1 :: .int y2 :: .ref y3 :: []) M Q = xW xSR 158 0 [.int y2, .int y1, .int y0] [] M (fun v M' => xW xSR 159 33 [.ref a0, .int a1, .int a2, .int a3] (xpush v [.ref y3]) M' Q)) ∧
  (∀ (a0 : Nat) (a1 : Int32) (a2 : Int32) (a3 : Int32) (y0 : Nat) (st : List Value) (M : xM) (Q : Option Value → xM → Prop), y0 < 156 → xW xSR 159 33 [.ref a0, .int a1, .int a2, .int a3] (.int (nI y0) :: .ref 1 :: st) M Q = xW xSR 159 34 [.ref a0, .int a1, .int a2, .int a3] (.int (M 1 y0) :: st) M Q) ∧
  (∀ (a0 : Nat) (a1 : Int32) (a2 : Int32) (a3 : Int32) (st : List Value) (M : xM) (Q : Option Value → xM → Prop), xW xSR 159 34 [.ref a0, .int a1, .int a2, .int a3] (st) M Q = xW xSR 159 38 [.ref a0, .int a1, .int a2, .int a3] (st) M Q) :=
  ⟨fun a0 a1 a2 a3 st M Q => xw_s rfl rfl,
  fun a0 a1 a2 a3 st M Q => xw_s rfl rfl,
  fun a0 a1 a2 a3 y0 M Q => xw_call rfl rfl rfl,
  fun a0 a1 a2 a3 y0 st M Q => xw_br (c0 := y0 = nI 0) rfl rfl,
  fun a0 a1 a2 a3 st M Q => xw_s rfl rfl,
  fun a0 a1 a2 a3 st M Q => xw_s rfl rfl,
  fun a0 a1 a2 a3 y0 M Q => xw_call rfl rfl rfl,
  fun a0 a1 a2 a3 y0 st M Q => xw_br (c0 := y0 = nI 0) rfl rfl,
  fun a0 a1 a2 a3 st M Q => xw_s rfl rfl,
  fun a0 a1 a2 a3 y0 M Q => xw_call rfl rfl rfl,
  fun a0 a1 a2 a3 y0 st M Q => xw_br (c0 := y0 = nI 0) rfl rfl,
  fun a0 a1 a2 a3 st M Q => xw_s rfl rfl,
  fun a0 a1 a2 a3 st M Q => xw_s rfl rfl,
  fun a0 a1 a2 a3 st M Q => xw_s rfl rfl,
  fun a0 a1 a2 a3 st M Q => xw_s rfl rfl,
  fun a0 a1 a2 a3 st M Q => xw_s rfl rfl,
  fun a0 a1 a2 a3 y0 y1 y2 y3 M Q => xw_call rfl rfl rfl,
  fun a0 a1 a2 a3 y0 st M Q h0 => xw_ald rfl rfl rfl (by decide) h0,
  fun a0 a1 a2 a3 st M Q => xw_s rfl rfl⟩
set_option maxRecDepth 20000 in
theorem h159_37 :
  (∀ (a0 : Nat) (a1 : Int32) (a2 : Int32) (a3 : Int32) (st : List Value) (M : xM) (Q : Option Value → xM → Prop), xW xSR 159 37 [.ref a0, .int a1, .int a2, .int a3] (st) M Q = xW xSR 159 38 [.ref a0, .int a1, .int a2, .int a3] (.int (-1) :: st) M Q) :=
  fun a0 a1 a2 a3 st M Q => xw_s rfl rfl
set_option maxRecDepth 20000 in
theorem h159_38 :
  (∀ (a0 : Nat) (a1 : Int32) (a2 : Int32) (a3 : Int32) (y0 : Int32) (M : xM) (Q : Option Value → xM → Prop), xW xSR 159 38 [.ref a0, .int a1, .int a2, .int a3] ([.int y0]) M Q = Q (some (.int y0)) M) :=
  fun a0 a1 a2 a3 y0 M Q => xw_ret rfl rfl
set_option maxRecDepth 20000 in
theorem j159 :
  (∀ (a0 : Nat) (a1 : Int32) (a2 : Int32) (a3 : Int32) (st : List Value) (M : xM) (Q : Option Value → xM → Prop), xW xSR 159 37 [.ref a0, .int a1, .int a2, .int a3] (st) M Q = xW xSR 159 38 [.ref a0, .int a1, .int a2, .int a3] (.int (-1) :: st) M Q) ∧
  (∀ (a0 : Nat) (a1 : Int32) (a2 : Int32) (a3 : Int32) (y0 : Int32) (M : xM) (Q : Option Value → xM → Prop), xW xSR 159 38 [.ref a0, .int a1, .int a2, .int a3] ([.int y0]) M Q = Q (some (.int y0)) M) :=
  ⟨fun a0 a1 a2 a3 st M Q => xw_s rfl rfl,
  fun a0 a1 a2 a3 y0 M Q => xw_ret rfl rfl⟩

set_option maxRecDepth 20000 in
theorem s160 :
  (∀ (a0 : Nat) (a1 : Int32) (st : List Value) (M : xM) (Q : Option Value → xM → Prop), xW xSR 160 0 [.ref a0, .int a1] (st) M Q = xW xSR 160 1 [.ref a0, .int a1] (.int a1 :: st) M Q) ∧
  (∀ (a0 : Nat) (a1 : Int32) (y0 : Int32) (st : List Value) (M : xM) (Q : Option Value → xM → Prop), xW xSR 160 1 [.ref a0, .int a1] (.int y0 :: st) M Q = xW xSR 160 2 [.ref a0, .int a1] (.long y0.toInt64 :: st) M Q) ∧
  (∀ (a0 : Nat) (a1 : Int32) (st : List Value) (M : xM) (Q : Option Value → xM → Prop), xW xSR 160 2 [.ref a0, .int a1] (st) M Q = xW xSR 160 3 [.ref a0, .int a1] (.long (lN 0) :: st) M Q) ∧
  (∀ (a0 : Nat) (a1 : Int32) (st : List Value) (M : xM) (Q : Option Value → xM → Prop), xW xSR 160 3 [.ref a0, .int a1] (st) M Q = xW xSR 160 6 [.ref a0, .int a1] (.long (lN 9) :: st) M Q) ∧
  (∀ (a0 : Nat) (a1 : Int32) (y0 : Int64) (y1 : Int64) (y2 : Int64) (M : xM) (Q : Option Value → xM → Prop), xW xSR 160 6 [.ref a0, .int a1] (.long y0 :: .long y1 :: .long y2 :: []) M Q = xW xSR 135 0 [.long y2, .null, .long y1, .null, .long y0, .null] [] M (fun v M' => xW xSR 160 9 [.ref a0, .int a1] (xpush v []) M' Q)) ∧
  (∀ (a0 : Nat) (a1 : Int32) (y0 : Int32) (st : List Value) (M : xM) (Q : Option Value → xM → Prop), xW xSR 160 9 [.ref a0, .int a1] (.int y0 :: st) M Q = if y0 = nI 0 then xW xSR 160 25 [.ref a0, .int a1] (st) M Q else xW xSR 160 12 [.ref a0, .int a1] (st) M Q) ∧
  (∀ (a0 : Nat) (a1 : Int32) (st : List Value) (M : xM) (Q : Option Value → xM → Prop), xW xSR 160 12 [.ref a0, .int a1] (st) M Q = xW xSR 160 13 [.ref a0, .int a1] (.ref a0 :: st) M Q) ∧
  (∀ (a0 : Nat) (a1 : Int32) (st : List Value) (M : xM) (Q : Option Value → xM → Prop), xW xSR 160 13 [.ref a0, .int a1] (.ref 0 :: st) M Q = xW xSR 160 16 [.ref a0, .int a1] (.ref 1 :: st) M Q) ∧
  (∀ (a0 : Nat) (a1 : Int32) (st : List Value) (M : xM) (Q : Option Value → xM → Prop), xW xSR 160 16 [.ref a0, .int a1] (st) M Q = xW xSR 160 19 [.ref a0, .int a1] (.int (nI 146) :: st) M Q) ∧
  (∀ (a0 : Nat) (a1 : Int32) (st : List Value) (M : xM) (Q : Option Value → xM → Prop), xW xSR 160 19 [.ref a0, .int a1] (st) M Q = xW xSR 160 20 [.ref a0, .int a1] (.int a1 :: st) M Q) ∧
  (∀ (a0 : Nat) (a1 : Int32) (y0 : Int32) (y1 : Int32) (st : List Value) (M : xM) (Q : Option Value → xM → Prop), xW xSR 160 20 [.ref a0, .int a1] (.int y0 :: .int y1 :: st) M Q = xW xSR 160 21 [.ref a0, .int a1] (.int (y1 + y0) :: st) M Q) ∧
  (∀ (a0 : Nat) (a1 : Int32) (y0 : Nat) (st : List Value) (M : xM) (Q : Option Value → xM → Prop), y0 < 156 → xW xSR 160 21 [.ref a0, .int a1] (.int (nI y0) :: .ref 1 :: st) M Q = xW xSR 160 22 [.ref a0, .int a1] (.int (M 1 y0) :: st) M Q) ∧
  (∀ (a0 : Nat) (a1 : Int32) (st : List Value) (M : xM) (Q : Option Value → xM → Prop), xW xSR 160 22 [.ref a0, .int a1] (st) M Q = xW xSR 160 26 [.ref a0, .int a1] (st) M Q) ∧
  (∀ (a0 : Nat) (a1 : Int32) (st : List Value) (M : xM) (Q : Option Value → xM → Prop), xW xSR 160 25 [.ref a0, .int a1] (st) M Q = xW xSR 160 26 [.ref a0, .int a1] (.int (-1) :: st) M Q) :=
  ⟨fun a0 a1 st M Q => xw_s rfl rfl,
  fun a0 a1 y0 st M Q => xw_s rfl rfl,
  fun a0 a1 st M Q => xw_s rfl rfl,
  fun a0 a1 st M Q => xw_s rfl rfl,
  fun a0 a1 y0 y1 y2 M Q => xw_call rfl rfl rfl,
  fun a0 a1 y0 st M Q => xw_br (c0 := y0 = nI 0) rfl rfl,
  fun a0 a1 st M Q => xw_s rfl rfl,
  fun a0 a1 st M Q => xw_s rfl rfl,
  fun a0 a1 st M Q => xw_s rfl rfl,
  fun a0 a1 st M Q => xw_s rfl rfl,
  fun a0 a1 y0 y1 st M Q => xw_s rfl rfl,
  fun a0 a1 y0 st M Q h0 => xw_ald rfl rfl rfl (by decide) h0,
  fun a0 a1 st M Q => xw_s rfl rfl,
  fun a0 a1 st M Q => xw_s rfl rfl⟩
set_option maxRecDepth 20000 in
theorem h160_26 :
  (∀ (a0 : Nat) (a1 : Int32) (y0 : Int32) (M : xM) (Q : Option Value → xM → Prop), xW xSR 160 26 [.ref a0, .int a1] ([.int y0]) M Q = Q (some (.int y0)) M) :=
  fun a0 a1 y0 M Q => xw_ret rfl rfl
set_option maxRecDepth 20000 in
theorem j160 :
  (∀ (a0 : Nat) (a1 : Int32) (y0 : Int32) (M : xM) (Q : Option Value → xM → Prop), xW xSR 160 26 [.ref a0, .int a1] ([.int y0]) M Q = Q (some (.int y0)) M) :=
  fun a0 a1 y0 M Q => xw_ret rfl rfl

set_option maxRecDepth 20000 in
theorem s161 :
  (∀ (a0 : Nat) (a1 : Int32) (a2 : Int32) (a3 : Value) (st : List Value) (M : xM) (Q : Option Value → xM → Prop), xW xSR 161 0 [.ref a0, .int a1, .int a2, a3] (st) M Q = xW xSR 161 1 [.ref a0, .int a1, .int a2, a3] (.ref a0 :: st) M Q) ∧
  (∀ (a0 : Nat) (a1 : Int32) (a2 : Int32) (a3 : Value) (st : List Value) (M : xM) (Q : Option Value → xM → Prop), xW xSR 161 1 [.ref a0, .int a1, .int a2, a3] (.ref 0 :: st) M Q = xW xSR 161 4 [.ref a0, .int a1, .int a2, a3] (.ref 1 :: st) M Q) ∧
  (∀ (a0 : Nat) (a1 : Int32) (a2 : Int32) (a3 : Value) (st : List Value) (M : xM) (Q : Option Value → xM → Prop), xW xSR 161 4 [.ref a0, .int a1, .int a2, a3] (st) M Q = xW xSR 161 5 [.ref a0, .int a1, .int a2, a3] (.int (nI 3) :: st) M Q) ∧
  (∀ (a0 : Nat) (a1 : Int32) (a2 : Int32) (a3 : Value) (st : List Value) (M : xM) (Q : Option Value → xM → Prop), xW xSR 161 5 [.ref a0, .int a1, .int a2, a3] (st) M Q = xW xSR 161 7 [.ref a0, .int a1, .int a2, a3] (.int (nI 6) :: st) M Q) ∧
  (∀ (a0 : Nat) (a1 : Int32) (a2 : Int32) (a3 : Value) (st : List Value) (M : xM) (Q : Option Value → xM → Prop), xW xSR 161 7 [.ref a0, .int a1, .int a2, a3] (st) M Q = xW xSR 161 8 [.ref a0, .int a1, .int a2, a3] (.int a1 :: st) M Q) ∧
  (∀ (a0 : Nat) (a1 : Int32) (a2 : Int32) (a3 : Value) (y0 : Int32) (y1 : Int32) (st : List Value) (M : xM) (Q : Option Value → xM → Prop), xW xSR 161 8 [.ref a0, .int a1, .int a2, a3] (.int y0 :: .int y1 :: st) M Q = xW xSR 161 9 [.ref a0, .int a1, .int a2, a3] (.int (y1 * y0) :: st) M Q) ∧
  (∀ (a0 : Nat) (a1 : Int32) (a2 : Int32) (a3 : Value) (y0 : Int32) (y1 : Int32) (st : List Value) (M : xM) (Q : Option Value → xM → Prop), xW xSR 161 9 [.ref a0, .int a1, .int a2, a3] (.int y0 :: .int y1 :: st) M Q = xW xSR 161 10 [.ref a0, .int a1, .int a2, a3] (.int (y1 + y0) :: st) M Q) ∧
  (∀ (a0 : Nat) (a1 : Int32) (a2 : Int32) (a3 : Value) (st : List Value) (M : xM) (Q : Option Value → xM → Prop), xW xSR 161 10 [.ref a0, .int a1, .int a2, a3] (st) M Q = xW xSR 161 11 [.ref a0, .int a1, .int a2, a3] (.int (nI 2) :: st) M Q) ∧
  (∀ (a0 : Nat) (a1 : Int32) (a2 : Int32) (a3 : Value) (y0 : Int32) (y1 : Int32) (st : List Value) (M : xM) (Q : Option Value → xM → Prop), xW xSR 161 11 [.ref a0, .int a1, .int a2, a3] (.int y0 :: .int y1 :: st) M Q = xW xSR 161 12 [.ref a0, .int a1, .int a2, a3] (.int (y1 + y0) :: st) M Q) ∧
  (∀ (a0 : Nat) (a1 : Int32) (a2 : Int32) (a3 : Value) (y0 : Nat) (st : List Value) (M : xM) (Q : Option Value → xM → Prop), y0 < 156 → xW xSR 161 12 [.ref a0, .int a1, .int a2, a3] (.int (nI y0) :: .ref 1 :: st) M Q = xW xSR 161 13 [.ref a0, .int a1, .int a2, a3] (.int (M 1 y0) :: st) M Q) ∧
  (∀ (a0 : Nat) (a1 : Int32) (a2 : Int32) (a3 : Value) (y0 : Int32) (st : List Value) (M : xM) (Q : Option Value → xM → Prop), xW xSR 161 13 [.ref a0, .int a1, .int a2, a3] (.int y0 :: st) M Q = xW xSR 161 14 [.ref a0, .int a1, .int a2, .int y0] (st) M Q) ∧
  (∀ (a0 : Nat) (a1 : Int32) (a2 : Int32) (a3 : Int32) (st : List Value) (M : xM) (Q : Option Value → xM → Prop), xW xSR 161 14 [.ref a0, .int a1, .int a2, .int a3] (st) M Q = xW xSR 161 15 [.ref a0, .int a1, .int a2, .int a3] (.int a3 :: st) M Q) ∧
  (∀ (a0 : Nat) (a1 : Int32) (a2 : Int32) (a3 : Int32) (st : List Value) (M : xM) (Q : Option Value → xM → Prop), xW xSR 161 15 [.ref a0, .int a1, .int a2, .int a3] (st) M Q = xW xSR 161 16 [.ref a0, .int a1, .int a2, .int a3] (.int (nI 2) :: st) M Q) ∧
  (∀ (a0 : Nat) (a1 : Int32) (a2 : Int32) (a3 : Int32) (y0 : Int32) (y1 : Int32) (st : List Value) (M : xM) (Q : Option Value → xM → Prop), xW xSR 161 16 [.ref a0, .int a1, .int a2, .int a3] (.int y0 :: .int y1 :: st) M Q = if y1 = y0 then xW xSR 161 19 [.ref a0, .int a1, .int a2, .int a3] (st) M Q else xW xSR 161 23 [.ref a0, .int a1, .int a2, .int a3] (st) M Q) ∧
  (∀ (a0 : Nat) (a1 : Int32) (a2 : Int32) (a3 : Int32) (st : List Value) (M : xM) (Q : Option Value → xM → Prop), xW xSR 161 19 [.ref a0, .int a1, .int a2, .int a3] (st) M Q = xW xSR 161 20 [.ref a0, .int a1, .int a2, .int a3] (.int (nI 2) :: st) M Q) ∧
  (∀ (a0 : Nat) (a1 : Int32) (a2 : Int32) (a3 : Int32) (st : List Value) (M : xM) (Q : Option Value → xM → Prop), xW xSR 161 20 [.ref a0, .int a1, .int a2, .int a3] (st) M Q = xW xSR 161 28 [.ref a0, .int a1, .int a2, .int a3] (st) M Q) ∧
  (∀ (a0 : Nat) (a1 : Int32) (a2 : Int32) (a3 : Int32) (st : List Value) (M : xM) (Q : Option Value → xM → Prop), xW xSR 161 23 [.ref a0, .int a1, .int a2, .int a3] (st) M Q = xW xSR 161 24 [.ref a0, .int a1, .int a2, .int a3] (.int a3 :: st) M Q) ∧
  (∀ (a0 : Nat) (a1 : Int32) (a2 : Int32) (a3 : Int32) (st : List Value) (M : xM) (Q : Option Value → xM → Prop), xW xSR 161 24 [.ref a0, .int a1, .int a2, .int a3] (st) M Q = xW xSR 161 25 [.ref a0, .int a1, .int a2, .int a3] (.int a2 :: st) M Q) ∧
  (∀ (a0 : Nat) (a1 : Int32) (a2 : Int32) (a3 : Int32) (y0 : Int32) (y1 : Int32) (st : List Value) (M : xM) (Q : Option Value → xM → Prop), xW xSR 161 25 [.ref a0, .int a1, .int a2, .int a3] (.int y0 :: .int y1 :: st) M Q = xW xSR 161 26 [.ref a0, .int a1, .int a2, .int a3] (.int (y1 + y0) :: st) M Q) ∧
  (∀ (a0 : Nat) (a1 : Int32) (a2 : Int32) (a3 : Int32) (st : List Value) (M : xM) (Q : Option Value → xM → Prop), xW xSR 161 26 [.ref a0, .int a1, .int a2, .int a3] (st) M Q = xW xSR 161 27 [.ref a0, .int a1, .int a2, .int a3] (.int (nI 2) :: st) M Q) ∧
  (∀ (a0 : Nat) (a1 : Int32) (a2 : Int32) (a3 : Int32) (y0 : Nat) (y1 : Int32) (st : List Value) (M : xM) (Q : Option Value → xM → Prop), 0 < y0 → y0 < 2 ^ 31 → xW xSR 161 27 [.ref a0, .int a1, .int a2, .int a3] (.int (nI y0) :: .int y1 :: st) M Q = xW xSR 161 28 [.ref a0, .int a1, .int a2, .int a3] (.int (y1 - y1 / nI y0 * nI y0) :: st) M Q) :=
  ⟨fun a0 a1 a2 a3 st M Q => xw_s rfl rfl,
  fun a0 a1 a2 a3 st M Q => xw_s rfl rfl,
  fun a0 a1 a2 a3 st M Q => xw_s rfl rfl,
  fun a0 a1 a2 a3 st M Q => xw_s rfl rfl,
  fun a0 a1 a2 a3 st M Q => xw_s rfl rfl,
  fun a0 a1 a2 a3 y0 y1 st M Q => xw_s rfl rfl,
  fun a0 a1 a2 a3 y0 y1 st M Q => xw_s rfl rfl,
  fun a0 a1 a2 a3 st M Q => xw_s rfl rfl,
  fun a0 a1 a2 a3 y0 y1 st M Q => xw_s rfl rfl,
  fun a0 a1 a2 a3 y0 st M Q h0 => xw_ald rfl rfl rfl (by decide) h0,
  fun a0 a1 a2 a3 y0 st M Q => xw_s rfl rfl,
  fun a0 a1 a2 a3 st M Q => xw_s rfl rfl,
  fun a0 a1 a2 a3 st M Q => xw_s rfl rfl,
  fun a0 a1 a2 a3 y0 y1 st M Q => xw_brn (c0 := y1 ≠ y0) (c1 := y1 = y0) rfl rfl (Iff.rfl),
  fun a0 a1 a2 a3 st M Q => xw_s rfl rfl,
  fun a0 a1 a2 a3 st M Q => xw_s rfl rfl,
  fun a0 a1 a2 a3 st M Q => xw_s rfl rfl,
  fun a0 a1 a2 a3 st M Q => xw_s rfl rfl,
  fun a0 a1 a2 a3 y0 y1 st M Q => xw_s rfl rfl,
  fun a0 a1 a2 a3 st M Q => xw_s rfl rfl,
  fun a0 a1 a2 a3 y0 y1 st M Q h0 h1 => xw_div (f := fun x y => x - x / y * y) rfl rfl (nI_ne0 h0 h1)⟩
set_option maxRecDepth 20000 in
theorem h161_28 :
  (∀ (a0 : Nat) (a1 : Int32) (a2 : Int32) (a3 : Int32) (y0 : Int32) (M : xM) (Q : Option Value → xM → Prop), xW xSR 161 28 [.ref a0, .int a1, .int a2, .int a3] ([.int y0]) M Q = Q (some (.int y0)) M) :=
  fun a0 a1 a2 a3 y0 M Q => xw_ret rfl rfl
set_option maxRecDepth 20000 in
theorem j161 :
  (∀ (a0 : Nat) (a1 : Int32) (a2 : Int32) (a3 : Int32) (y0 : Int32) (M : xM) (Q : Option Value → xM → Prop), xW xSR 161 28 [.ref a0, .int a1, .int a2, .int a3] ([.int y0]) M Q = Q (some (.int y0)) M) :=
  fun a0 a1 a2 a3 y0 M Q => xw_ret rfl rfl

set_option maxRecDepth 20000 in
theorem s162 :
  (∀ (a0 : Nat) (a1 : Int32) (a2 : Int32) (st : List Value) (M : xM) (Q : Option Value → xM → Prop), xW xSR 162 0 [.ref a0, .int a1, .int a2] (st) M Q = xW xSR 162 1 [.ref a0, .int a1, .int a2] (.ref a0 :: st) M Q) ∧
  (∀ (a0 : Nat) (a1 : Int32) (a2 : Int32) (st : List Value) (M : xM) (Q : Option Value → xM → Prop), xW xSR 162 1 [.ref a0, .int a1, .int a2] (.ref 0 :: st) M Q = xW xSR 162 4 [.ref a0, .int a1, .int a2] (.ref 1 :: st) M Q) ∧
  (∀ (a0 : Nat) (a1 : Int32) (a2 : Int32) (st : List Value) (M : xM) (Q : Option Value → xM → Prop), xW xSR 162 4 [.ref a0, .int a1, .int a2] (st) M Q = xW xSR 162 5 [.ref a0, .int a1, .int a2] (.int (nI 3) :: st) M Q) ∧
  (∀ (a0 : Nat) (a1 : Int32) (a2 : Int32) (st : List Value) (M : xM) (Q : Option Value → xM → Prop), xW xSR 162 5 [.ref a0, .int a1, .int a2] (st) M Q = xW xSR 162 7 [.ref a0, .int a1, .int a2] (.int (nI 6) :: st) M Q) ∧
  (∀ (a0 : Nat) (a1 : Int32) (a2 : Int32) (st : List Value) (M : xM) (Q : Option Value → xM → Prop), xW xSR 162 7 [.ref a0, .int a1, .int a2] (st) M Q = xW xSR 162 8 [.ref a0, .int a1, .int a2] (.int a1 :: st) M Q) ∧
  (∀ (a0 : Nat) (a1 : Int32) (a2 : Int32) (y0 : Int32) (y1 : Int32) (st : List Value) (M : xM) (Q : Option Value → xM → Prop), xW xSR 162 8 [.ref a0, .int a1, .int a2] (.int y0 :: .int y1 :: st) M Q = xW xSR 162 9 [.ref a0, .int a1, .int a2] (.int (y1 * y0) :: st) M Q) ∧
  (∀ (a0 : Nat) (a1 : Int32) (a2 : Int32) (y0 : Int32) (y1 : Int32) (st : List Value) (M : xM) (Q : Option Value → xM → Prop), xW xSR 162 9 [.ref a0, .int a1, .int a2] (.int y0 :: .int y1 :: st) M Q = xW xSR 162 10 [.ref a0, .int a1, .int a2] (.int (y1 + y0) :: st) M Q) ∧
  (∀ (a0 : Nat) (a1 : Int32) (a2 : Int32) (st : List Value) (M : xM) (Q : Option Value → xM → Prop), xW xSR 162 10 [.ref a0, .int a1, .int a2] (st) M Q = xW xSR 162 11 [.ref a0, .int a1, .int a2] (.int (nI 4) :: st) M Q) ∧
  (∀ (a0 : Nat) (a1 : Int32) (a2 : Int32) (y0 : Int32) (y1 : Int32) (st : List Value) (M : xM) (Q : Option Value → xM → Prop), xW xSR 162 11 [.ref a0, .int a1, .int a2] (.int y0 :: .int y1 :: st) M Q = xW xSR 162 12 [.ref a0, .int a1, .int a2] (.int (y1 + y0) :: st) M Q) ∧
  (∀ (a0 : Nat) (a1 : Int32) (a2 : Int32) (st : List Value) (M : xM) (Q : Option Value → xM → Prop), xW xSR 162 12 [.ref a0, .int a1, .int a2] (st) M Q = xW xSR 162 13 [.ref a0, .int a1, .int a2] (.int a2 :: st) M Q) ∧
  (∀ (a0 : Nat) (a1 : Int32) (a2 : Int32) (y0 : Int32) (y1 : Int32) (st : List Value) (M : xM) (Q : Option Value → xM → Prop), xW xSR 162 13 [.ref a0, .int a1, .int a2] (.int y0 :: .int y1 :: st) M Q = xW xSR 162 14 [.ref a0, .int a1, .int a2] (.int (y1 + y0) :: st) M Q) ∧
  (∀ (a0 : Nat) (a1 : Int32) (a2 : Int32) (y0 : Nat) (st : List Value) (M : xM) (Q : Option Value → xM → Prop), y0 < 156 → xW xSR 162 14 [.ref a0, .int a1, .int a2] (.int (nI y0) :: .ref 1 :: st) M Q = xW xSR 162 15 [.ref a0, .int a1, .int a2] (.int (M 1 y0) :: st) M Q) ∧
  (∀ (a0 : Nat) (a1 : Int32) (a2 : Int32) (y0 : Int32) (M : xM) (Q : Option Value → xM → Prop), xW xSR 162 15 [.ref a0, .int a1, .int a2] ([.int y0]) M Q = Q (some (.int y0)) M) :=
  ⟨fun a0 a1 a2 st M Q => xw_s rfl rfl,
  fun a0 a1 a2 st M Q => xw_s rfl rfl,
  fun a0 a1 a2 st M Q => xw_s rfl rfl,
  fun a0 a1 a2 st M Q => xw_s rfl rfl,
  fun a0 a1 a2 st M Q => xw_s rfl rfl,
  fun a0 a1 a2 y0 y1 st M Q => xw_s rfl rfl,
  fun a0 a1 a2 y0 y1 st M Q => xw_s rfl rfl,
  fun a0 a1 a2 st M Q => xw_s rfl rfl,
  fun a0 a1 a2 y0 y1 st M Q => xw_s rfl rfl,
  fun a0 a1 a2 st M Q => xw_s rfl rfl,
  fun a0 a1 a2 y0 y1 st M Q => xw_s rfl rfl,
  fun a0 a1 a2 y0 st M Q h0 => xw_ald rfl rfl rfl (by decide) h0,
  fun a0 a1 a2 y0 M Q => xw_ret rfl rfl⟩
theorem j162 : True := trivial

set_option maxRecDepth 20000 in
theorem s163 :
  (∀ (a0 : Nat) (a1 : Int32) (a2 : Int32) (a3 : Value) (a4 : Value) (a5 : Value) (st : List Value) (M : xM) (Q : Option Value → xM → Prop), xW xSR 163 0 [.ref a0, .int a1, .int a2, a3, a4, a5] (st) M Q = xW xSR 163 1 [.ref a0, .int a1, .int a2, a3, a4, a5] (.ref a0 :: st) M Q) ∧
  (∀ (a0 : Nat) (a1 : Int32) (a2 : Int32) (a3 : Value) (a4 : Value) (a5 : Value) (st : List Value) (M : xM) (Q : Option Value → xM → Prop), xW xSR 163 1 [.ref a0, .int a1, .int a2, a3, a4, a5] (st) M Q = xW xSR 163 2 [.ref a0, .int a1, .int a2, a3, a4, a5] (.int a1 :: st) M Q) ∧
  (∀ (a0 : Nat) (a1 : Int32) (a2 : Int32) (a3 : Value) (a4 : Value) (a5 : Value) (st : List Value) (M : xM) (Q : Option Value → xM → Prop), xW xSR 163 2 [.ref a0, .int a1, .int a2, a3, a4, a5] (st) M Q = xW xSR 163 3 [.ref a0, .int a1, .int a2, a3, a4, a5] (.int a2 :: st) M Q) ∧
  (∀ (a0 : Nat) (a1 : Int32) (a2 : Int32) (a3 : Value) (a4 : Value) (a5 : Value) (y0 : Int32) (y1 : Int32) (M : xM) (Q : Option Value → xM → Prop), xW xSR 163 3 [.ref a0, .int a1, .int a2, a3, a4, a5] (.int y0 :: .int y1 :: .ref 0 :: []) M Q = xW xSR 162 0 [.ref 0, .int y1, .int y0] [] M (fun v M' => xW xSR 163 6 [.ref a0, .int a1, .int a2, a3, a4, a5] (xpush v []) M' Q)) ∧
  (∀ (a0 : Nat) (a1 : Int32) (a2 : Int32) (a3 : Value) (a4 : Value) (a5 : Value) (y0 : Int32) (st : List Value) (M : xM) (Q : Option Value → xM → Prop), xW xSR 163 6 [.ref a0, .int a1, .int a2, a3, a4, a5] (.int y0 :: st) M Q = xW xSR 163 7 [.ref a0, .int a1, .int a2, .int y0, a4, a5] (st) M Q) ∧
  (∀ (a0 : Nat) (a1 : Int32) (a2 : Int32) (a3 : Int32) (a4 : Value) (a5 : Value) (st : List Value) (M : xM) (Q : Option Value → xM → Prop), xW xSR 163 7 [.ref a0, .int a1, .int a2, .int a3, a4, a5] (st) M Q = xW xSR 163 8 [.ref a0, .int a1, .int a2, .int a3, a4, a5] (.ref a0 :: st) M Q) ∧
  (∀ (a0 : Nat) (a1 : Int32) (a2 : Int32) (a3 : Int32) (a4 : Value) (a5 : Value) (st : List Value) (M : xM) (Q : Option Value → xM → Prop), xW xSR 163 8 [.ref a0, .int a1, .int a2, .int a3, a4, a5] (st) M Q = xW xSR 163 9 [.ref a0, .int a1, .int a2, .int a3, a4, a5] (.int a1 :: st) M Q) ∧
  (∀ (a0 : Nat) (a1 : Int32) (a2 : Int32) (a3 : Int32) (a4 : Value) (a5 : Value) (st : List Value) (M : xM) (Q : Option Value → xM → Prop), xW xSR 163 9 [.ref a0, .int a1, .int a2, .int a3, a4, a5] (st) M Q = xW xSR 163 10 [.ref a0, .int a1, .int a2, .int a3, a4, a5] (.int (nI 1) :: st) M Q) ∧
  (∀ (a0 : Nat) (a1 : Int32) (a2 : Int32) (a3 : Int32) (a4 : Value) (a5 : Value) (st : List Value) (M : xM) (Q : Option Value → xM → Prop), xW xSR 163 10 [.ref a0, .int a1, .int a2, .int a3, a4, a5] (st) M Q = xW xSR 163 11 [.ref a0, .int a1, .int a2, .int a3, a4, a5] (.int a2 :: st) M Q) ∧
  (∀ (a0 : Nat) (a1 : Int32) (a2 : Int32) (a3 : Int32) (a4 : Value) (a5 : Value) (y0 : Int32) (y1 : Int32) (st : List Value) (M : xM) (Q : Option Value → xM → Prop), xW xSR 163 11 [.ref a0, .int a1, .int a2, .int a3, a4, a5] (.int y0 :: .int y1 :: st) M Q = xW xSR 163 12 [.ref a0, .int a1, .int a2, .int a3, a4, a5] (.int (y1 - y0) :: st) M Q) ∧
  (∀ (a0 : Nat) (a1 : Int32) (a2 : Int32) (a3 : Int32) (a4 : Value) (a5 : Value) (y0 : Int32) (y1 : Int32) (M : xM) (Q : Option Value → xM → Prop), xW xSR 163 12 [.ref a0, .int a1, .int a2, .int a3, a4, a5] (.int y0 :: .int y1 :: .ref 0 :: []) M Q = xW xSR 162 0 [.ref 0, .int y1, .int y0] [] M (fun v M' => xW xSR 163 15 [.ref a0, .int a1, .int a2, .int a3, a4, a5] (xpush v []) M' Q)) ∧
  (∀ (a0 : Nat) (a1 : Int32) (a2 : Int32) (a3 : Int32) (a4 : Value) (a5 : Value) (y0 : Int32) (st : List Value) (M : xM) (Q : Option Value → xM → Prop), xW xSR 163 15 [.ref a0, .int a1, .int a2, .int a3, a4, a5] (.int y0 :: st) M Q = xW xSR 163 17 [.ref a0, .int a1, .int a2, .int a3, .int y0, a5] (st) M Q) ∧
  (∀ (a0 : Nat) (a1 : Int32) (a2 : Int32) (a3 : Int32) (a4 : Int32) (a5 : Value) (st : List Value) (M : xM) (Q : Option Value → xM → Prop), xW xSR 163 17 [.ref a0, .int a1, .int a2, .int a3, .int a4, a5] (st) M Q = xW xSR 163 18 [.ref a0, .int a1, .int a2, .int a3, .int a4, a5] (.ref a0 :: st) M Q) ∧
  (∀ (a0 : Nat) (a1 : Int32) (a2 : Int32) (a3 : Int32) (a4 : Int32) (a5 : Value) (st : List Value) (M : xM) (Q : Option Value → xM → Prop), xW xSR 163 18 [.ref a0, .int a1, .int a2, .int a3, .int a4, a5] (.ref 0 :: st) M Q = xW xSR 163 21 [.ref a0, .int a1, .int a2, .int a3, .int a4, a5] (.ref 5 :: st) M Q) ∧
  (∀ (a0 : Nat) (a1 : Int32) (a2 : Int32) (a3 : Int32) (a4 : Int32) (a5 : Value) (st : List Value) (M : xM) (Q : Option Value → xM → Prop), xW xSR 163 21 [.ref a0, .int a1, .int a2, .int a3, .int a4, a5] (st) M Q = xW xSR 163 22 [.ref a0, .int a1, .int a2, .int a3, .int a4, a5] (.int (nI 0) :: st) M Q) ∧
  (∀ (a0 : Nat) (a1 : Int32) (a2 : Int32) (a3 : Int32) (a4 : Int32) (a5 : Value) (y0 : Int32) (y1 : Nat) (st : List Value) (M : xM) (Q : Option Value → xM → Prop), xW xSR 163 22 [.ref a0, .int a1, .int a2, .int a3, .int a4, a5] (.int y0 :: .ref y1 :: st) M Q = xW xSR 163 23 [.ref a0, .int a1, .int a2, .int a3, .int a4, a5] (.int y0 :: .ref y1 :: .int y0 :: .ref y1 :: st) M Q) ∧
  (∀ (a0 : Nat) (a1 : Int32) (a2 : Int32) (a3 : Int32) (a4 : Int32) (a5 : Value) (y0 : Nat) (st : List Value) (M : xM) (Q : Option Value → xM → Prop), y0 < 3 → xW xSR 163 23 [.ref a0, .int a1, .int a2, .int a3, .int a4, a5] (.int (nI y0) :: .ref 5 :: st) M Q = xW xSR 163 24 [.ref a0, .int a1, .int a2, .int a3, .int a4, a5] (.int (M 5 y0) :: st) M Q) ∧
  (∀ (a0 : Nat) (a1 : Int32) (a2 : Int32) (a3 : Int32) (a4 : Int32) (a5 : Value) (st : List Value) (M : xM) (Q : Option Value → xM → Prop), xW xSR 163 24 [.ref a0, .int a1, .int a2, .int a3, .int a4, a5] (st) M Q = xW xSR 163 25 [.ref a0, .int a1, .int a2, .int a3, .int a4, a5] (.int a3 :: st) M Q) ∧
  (∀ (a0 : Nat) (a1 : Int32) (a2 : Int32) (a3 : Int32) (a4 : Int32) (a5 : Value) (st : List Value) (M : xM) (Q : Option Value → xM → Prop), xW xSR 163 25 [.ref a0, .int a1, .int a2, .int a3, .int a4, a5] (st) M Q = xW xSR 163 26 [.ref a0, .int a1, .int a2, .int a3, .int a4, a5] (.int (nI 1) :: st) M Q) ∧
  (∀ (a0 : Nat) (a1 : Int32) (a2 : Int32) (a3 : Int32) (a4 : Int32) (a5 : Value) (y0 : Int32) (y1 : Int32) (st : List Value) (M : xM) (Q : Option Value → xM → Prop), xW xSR 163 26 [.ref a0, .int a1, .int a2, .int a3, .int a4, a5] (.int y0 :: .int y1 :: st) M Q = xW xSR 163 27 [.ref a0, .int a1, .int a2, .int a3, .int a4, a5] (.int (y1 >>> (y0 &&& nI 31)) :: st) M Q) ∧
  (∀ (a0 : Nat) (a1 : Int32) (a2 : Int32) (a3 : Int32) (a4 : Int32) (a5 : Value) (st : List Value) (M : xM) (Q : Option Value → xM → Prop), xW xSR 163 27 [.ref a0, .int a1, .int a2, .int a3, .int a4, a5] (st) M Q = xW xSR 163 28 [.ref a0, .int a1, .int a2, .int a3, .int a4, a5] (.int (nI 1) :: st) M Q) ∧
  (∀ (a0 : Nat) (a1 : Int32) (a2 : Int32) (a3 : Int32) (a4 : Int32) (a5 : Value) (y0 : Int32) (y1 : Int32) (st : List Value) (M : xM) (Q : Option Value → xM → Prop), xW xSR 163 28 [.ref a0, .int a1, .int a2, .int a3, .int a4, a5] (.int y0 :: .int y1 :: st) M Q = xW xSR 163 29 [.ref a0, .int a1, .int a2, .int a3, .int a4, a5] (.int (y1 &&& y0) :: st) M Q) ∧
  (∀ (a0 : Nat) (a1 : Int32) (a2 : Int32) (a3 : Int32) (a4 : Int32) (a5 : Value) (st : List Value) (M : xM) (Q : Option Value → xM → Prop), xW xSR 163 29 [.ref a0, .int a1, .int a2, .int a3, .int a4, a5] (st) M Q = xW xSR 163 30 [.ref a0, .int a1, .int a2, .int a3, .int a4, a5] (.ref a0 :: st) M Q) ∧
  (∀ (a0 : Nat) (a1 : Int32) (a2 : Int32) (a3 : Int32) (a4 : Int32) (a5 : Value) (st : List Value) (M : xM) (Q : Option Value → xM → Prop), xW xSR 163 30 [.ref a0, .int a1, .int a2, .int a3, .int a4, a5] (.ref 0 :: st) M Q = xW xSR 163 33 [.ref a0, .int a1, .int a2, .int a3, .int a4, a5] (.ref 1 :: st) M Q) ∧
  (∀ (a0 : Nat) (a1 : Int32) (a2 : Int32) (a3 : Int32) (a4 : Int32) (a5 : Value) (st : List Value) (M : xM) (Q : Option Value → xM → Prop), xW xSR 163 33 [.ref a0, .int a1, .int a2, .int a3, .int a4, a5] (st) M Q = xW xSR 163 36 [.ref a0, .int a1, .int a2, .int a3, .int a4, a5] (.int (nI 147) :: st) M Q) ∧
  (∀ (a0 : Nat) (a1 : Int32) (a2 : Int32) (a3 : Int32) (a4 : Int32) (a5 : Value) (y0 : Nat) (st : List Value) (M : xM) (Q : Option Value → xM → Prop), y0 < 156 → xW xSR 163 36 [.ref a0, .int a1, .int a2, .int a3, .int a4, a5] (.int (nI y0) :: .ref 1 :: st) M Q = xW xSR 163 37 [.ref a0, .int a1, .int a2, .int a3, .int a4, a5] (.int (M 1 y0) :: st) M Q) ∧
  (∀ (a0 : Nat) (a1 : Int32) (a2 : Int32) (a3 : Int32) (a4 : Int32) (a5 : Value) (y0 : Int32) (y1 : Int32) (st : List Value) (M : xM) (Q : Option Value → xM → Prop), xW xSR 163 37 [.ref a0, .int a1, .int a2, .int a3, .int a4, a5] (.int y0 :: .int y1 :: st) M Q = xW xSR 163 38 [.ref a0, .int a1, .int a2, .int a3, .int a4, a5] (.int (y1 * y0) :: st) M Q) ∧
  (∀ (a0 : Nat) (a1 : Int32) (a2 : Int32) (a3 : Int32) (a4 : Int32) (a5 : Value) (st : List Value) (M : xM) (Q : Option Value → xM → Prop), xW xSR 163 38 [.ref a0, .int a1, .int a2, .int a3, .int a4, a5] (st) M Q = xW xSR 163 39 [.ref a0, .int a1, .int a2, .int a3, .int a4, a5] (.int a3 :: st) M Q) ∧
  (∀ (a0 : Nat) (a1 : Int32) (a2 : Int32) (a3 : Int32) (a4 : Int32) (a5 : Value) (st : List Value) (M : xM) (Q : Option Value → xM → Prop), xW xSR 163 39 [.ref a0, .int a1, .int a2, .int a3, .int a4, a5] (st) M Q = xW xSR 163 40 [.ref a0, .int a1, .int a2, .int a3, .int a4, a5] (.int (nI 2) :: st) M Q) ∧
  (∀ (a0 : Nat) (a1 : Int32) (a2 : Int32) (a3 : Int32) (a4 : Int32) (a5 : Value) (y0 : Int32) (y1 : Int32) (st : List Value) (M : xM) (Q : Option Value → xM → Prop), xW xSR 163 40 [.ref a0, .int a1, .int a2, .int a3, .int a4, a5] (.int y0 :: .int y1 :: st) M Q = xW xSR 163 41 [.ref a0, .int a1, .int a2, .int a3, .int a4, a5] (.int (y1 >>> (y0 &&& nI 31)) :: st) M Q) ∧
  (∀ (a0 : Nat) (a1 : Int32) (a2 : Int32) (a3 : Int32) (a4 : Int32) (a5 : Value) (st : List Value) (M : xM) (Q : Option Value → xM → Prop), xW xSR 163 41 [.ref a0, .int a1, .int a2, .int a3, .int a4, a5] (st) M Q = xW xSR 163 42 [.ref a0, .int a1, .int a2, .int a3, .int a4, a5] (.int (nI 1) :: st) M Q) ∧
  (∀ (a0 : Nat) (a1 : Int32) (a2 : Int32) (a3 : Int32) (a4 : Int32) (a5 : Value) (y0 : Int32) (y1 : Int32) (st : List Value) (M : xM) (Q : Option Value → xM → Prop), xW xSR 163 42 [.ref a0, .int a1, .int a2, .int a3, .int a4, a5] (.int y0 :: .int y1 :: st) M Q = xW xSR 163 43 [.ref a0, .int a1, .int a2, .int a3, .int a4, a5] (.int (y1 &&& y0) :: st) M Q) ∧
  (∀ (a0 : Nat) (a1 : Int32) (a2 : Int32) (a3 : Int32) (a4 : Int32) (a5 : Value) (st : List Value) (M : xM) (Q : Option Value → xM → Prop), xW xSR 163 43 [.ref a0, .int a1, .int a2, .int a3, .int a4, a5] (st) M Q = xW xSR 163 44 [.ref a0, .int a1, .int a2, .int a3, .int a4, a5] (.ref a0 :: st) M Q) ∧
  (∀ (a0 : Nat) (a1 : Int32) (a2 : Int32) (a3 : Int32) (a4 : Int32) (a5 : Value) (st : List Value) (M : xM) (Q : Option Value → xM → Prop), xW xSR 163 44 [.ref a0, .int a1, .int a2, .int a3, .int a4, a5] (.ref 0 :: st) M Q = xW xSR 163 47 [.ref a0, .int a1, .int a2, .int a3, .int a4, a5] (.ref 1 :: st) M Q) ∧
  (∀ (a0 : Nat) (a1 : Int32) (a2 : Int32) (a3 : Int32) (a4 : Int32) (a5 : Value) (st : List Value) (M : xM) (Q : Option Value → xM → Prop), xW xSR 163 47 [.ref a0, .int a1, .int a2, .int a3, .int a4, a5] (st) M Q = xW xSR 163 50 [.ref a0, .int a1, .int a2, .int a3, .int a4, a5] (.int (nI 148) :: st) M Q) ∧
  (∀ (a0 : Nat) (a1 : Int32) (a2 : Int32) (a3 : Int32) (a4 : Int32) (a5 : Value) (y0 : Nat) (st : List Value) (M : xM) (Q : Option Value → xM → Prop), y0 < 156 → xW xSR 163 50 [.ref a0, .int a1, .int a2, .int a3, .int a4, a5] (.int (nI y0) :: .ref 1 :: st) M Q = xW xSR 163 51 [.ref a0, .int a1, .int a2, .int a3, .int a4, a5] (.int (M 1 y0) :: st) M Q) ∧
  (∀ (a0 : Nat) (a1 : Int32) (a2 : Int32) (a3 : Int32) (a4 : Int32) (a5 : Value) (y0 : Int32) (y1 : Int32) (st : List Value) (M : xM) (Q : Option Value → xM → Prop), xW xSR 163 51 [.ref a0, .int a1, .int a2, .int a3, .int a4, a5] (.int y0 :: .int y1 :: st) M Q = xW xSR 163 52 [.ref a0, .int a1, .int a2, .int a3, .int a4, a5] (.int (y1 * y0) :: st) M Q) ∧
  (∀ (a0 : Nat) (a1 : Int32) (a2 : Int32) (a3 : Int32) (a4 : Int32) (a5 : Value) (y0 : Int32) (y1 : Int32) (st : List Value) (M : xM) (Q : Option Value → xM → Prop), xW xSR 163 52 [.ref a0, .int a1, .int a2, .int a3, .int a4, a5] (.int y0 :: .int y1 :: st) M Q = xW xSR 163 53 [.ref a0, .int a1, .int a2, .int a3, .int a4, a5] (.int (y1 + y0) :: st) M Q) ∧
  (∀ (a0 : Nat) (a1 : Int32) (a2 : Int32) (a3 : Int32) (a4 : Int32) (a5 : Value) (y0 : Int32) (y1 : Int32) (st : List Value) (M : xM) (Q : Option Value → xM → Prop), xW xSR 163 53 [.ref a0, .int a1, .int a2, .int a3, .int a4, a5] (.int y0 :: .int y1 :: st) M Q = xW xSR 163 54 [.ref a0, .int a1, .int a2, .int a3, .int a4, a5] (.int (y1 + y0) :: st) M Q) ∧
  (∀ (a0 : Nat) (a1 : Int32) (a2 : Int32) (a3 : Int32) (a4 : Int32) (a5 : Value) (y0 : Int32) (y1 : Nat) (st : List Value) (M : xM) (Q : Option Value → xM → Prop), y1 < 3 → xW xSR 163 54 [.ref a0, .int a1, .int a2, .int a3, .int a4, a5] (.int y0 :: .int (nI y1) :: .ref 5 :: st) M Q = xW xSR 163 55 [.ref a0, .int a1, .int a2, .int a3, .int a4, a5] (st) (xup M 5 y1 y0) Q) ∧
  (∀ (a0 : Nat) (a1 : Int32) (a2 : Int32) (a3 : Int32) (a4 : Int32) (a5 : Value) (st : List Value) (M : xM) (Q : Option Value → xM → Prop), xW xSR 163 55 [.ref a0, .int a1, .int a2, .int a3, .int a4, a5] (st) M Q = xW xSR 163 56 [.ref a0, .int a1, .int a2, .int a3, .int a4, a5] (.ref a0 :: st) M Q) ∧
  (∀ (a0 : Nat) (a1 : Int32) (a2 : Int32) (a3 : Int32) (a4 : Int32) (a5 : Value) (st : List Value) (M : xM) (Q : Option Value → xM → Prop), xW xSR 163 56 [.ref a0, .int a1, .int a2, .int a3, .int a4, a5] (.ref 0 :: st) M Q = xW xSR 163 59 [.ref a0, .int a1, .int a2, .int a3, .int a4, a5] (.ref 5 :: st) M Q) ∧
  (∀ (a0 : Nat) (a1 : Int32) (a2 : Int32) (a3 : Int32) (a4 : Int32) (a5 : Value) (st : List Value) (M : xM) (Q : Option Value → xM → Prop), xW xSR 163 59 [.ref a0, .int a1, .int a2, .int a3, .int a4, a5] (st) M Q = xW xSR 163 60 [.ref a0, .int a1, .int a2, .int a3, .int a4, a5] (.int (nI 1) :: st) M Q) ∧
  (∀ (a0 : Nat) (a1 : Int32) (a2 : Int32) (a3 : Int32) (a4 : Int32) (a5 : Value) (y0 : Int32) (y1 : Nat) (st : List Value) (M : xM) (Q : Option Value → xM → Prop), xW xSR 163 60 [.ref a0, .int a1, .int a2, .int a3, .int a4, a5] (.int y0 :: .ref y1 :: st) M Q = xW xSR 163 61 [.ref a0, .int a1, .int a2, .int a3, .int a4, a5] (.int y0 :: .ref y1 :: .int y0 :: .ref y1 :: st) M Q) ∧
  (∀ (a0 : Nat) (a1 : Int32) (a2 : Int32) (a3 : Int32) (a4 : Int32) (a5 : Value) (y0 : Nat) (st : List Value) (M : xM) (Q : Option Value → xM → Prop), y0 < 3 → xW xSR 163 61 [.ref a0, .int a1, .int a2, .int a3, .int a4, a5] (.int (nI y0) :: .ref 5 :: st) M Q = xW xSR 163 62 [.ref a0, .int a1, .int a2, .int a3, .int a4, a5] (.int (M 5 y0) :: st) M Q) ∧
  (∀ (a0 : Nat) (a1 : Int32) (a2 : Int32) (a3 : Int32) (a4 : Int32) (a5 : Value) (st : List Value) (M : xM) (Q : Option Value → xM → Prop), xW xSR 163 62 [.ref a0, .int a1, .int a2, .int a3, .int a4, a5] (st) M Q = xW xSR 163 63 [.ref a0, .int a1, .int a2, .int a3, .int a4, a5] (.int a3 :: st) M Q) ∧
  (∀ (a0 : Nat) (a1 : Int32) (a2 : Int32) (a3 : Int32) (a4 : Int32) (a5 : Value) (st : List Value) (M : xM) (Q : Option Value → xM → Prop), xW xSR 163 63 [.ref a0, .int a1, .int a2, .int a3, .int a4, a5] (st) M Q = xW xSR 163 64 [.ref a0, .int a1, .int a2, .int a3, .int a4, a5] (.int (nI 1) :: st) M Q) ∧
  (∀ (a0 : Nat) (a1 : Int32) (a2 : Int32) (a3 : Int32) (a4 : Int32) (a5 : Value) (y0 : Int32) (y1 : Int32) (st : List Value) (M : xM) (Q : Option Value → xM → Prop), xW xSR 163 64 [.ref a0, .int a1, .int a2, .int a3, .int a4, a5] (.int y0 :: .int y1 :: st) M Q = xW xSR 163 65 [.ref a0, .int a1, .int a2, .int a3, .int a4, a5] (.int (y1 &&& y0) :: st) M Q) ∧
  (∀ (a0 : Nat) (a1 : Int32) (a2 : Int32) (a3 : Int32) (a4 : Int32) (a5 : Value) (st : List Value) (M : xM) (Q : Option Value → xM → Prop), xW xSR 163 65 [.ref a0, .int a1, .int a2, .int a3, .int a4, a5] (st) M Q = xW xSR 163 66 [.ref a0, .int a1, .int a2, .int a3, .int a4, a5] (.ref a0 :: st) M Q) ∧
  (∀ (a0 : Nat) (a1 : Int32) (a2 : Int32) (a3 : Int32) (a4 : Int32) (a5 : Value) (st : List Value) (M : xM) (Q : Option Value → xM → Prop), xW xSR 163 66 [.ref a0, .int a1, .int a2, .int a3, .int a4, a5] (.ref 0 :: st) M Q = xW xSR 163 69 [.ref a0, .int a1, .int a2, .int a3, .int a4, a5] (.ref 1 :: st) M Q) ∧
  (∀ (a0 : Nat) (a1 : Int32) (a2 : Int32) (a3 : Int32) (a4 : Int32) (a5 : Value) (st : List Value) (M : xM) (Q : Option Value → xM → Prop), xW xSR 163 69 [.ref a0, .int a1, .int a2, .int a3, .int a4, a5] (st) M Q = xW xSR 163 72 [.ref a0, .int a1, .int a2, .int a3, .int a4, a5] (.int (nI 146) :: st) M Q) ∧
  (∀ (a0 : Nat) (a1 : Int32) (a2 : Int32) (a3 : Int32) (a4 : Int32) (a5 : Value) (y0 : Nat) (st : List Value) (M : xM) (Q : Option Value → xM → Prop), y0 < 156 → xW xSR 163 72 [.ref a0, .int a1, .int a2, .int a3, .int a4, a5] (.int (nI y0) :: .ref 1 :: st) M Q = xW xSR 163 73 [.ref a0, .int a1, .int a2, .int a3, .int a4, a5] (.int (M 1 y0) :: st) M Q) ∧
  (∀ (a0 : Nat) (a1 : Int32) (a2 : Int32) (a3 : Int32) (a4 : Int32) (a5 : Value) (y0 : Int32) (y1 : Int32) (st : List Value) (M : xM) (Q : Option Value → xM → Prop), xW xSR 163 73 [.ref a0, .int a1, .int a2, .int a3, .int a4, a5] (.int y0 :: .int y1 :: st) M Q = xW xSR 163 74 [.ref a0, .int a1, .int a2, .int a3, .int a4, a5] (.int (y1 * y0) :: st) M Q) ∧
  (∀ (a0 : Nat) (a1 : Int32) (a2 : Int32) (a3 : Int32) (a4 : Int32) (a5 : Value) (st : List Value) (M : xM) (Q : Option Value → xM → Prop), xW xSR 163 74 [.ref a0, .int a1, .int a2, .int a3, .int a4, a5] (st) M Q = xW xSR 163 75 [.ref a0, .int a1, .int a2, .int a3, .int a4, a5] (.int a3 :: st) M Q) ∧
  (∀ (a0 : Nat) (a1 : Int32) (a2 : Int32) (a3 : Int32) (a4 : Int32) (a5 : Value) (st : List Value) (M : xM) (Q : Option Value → xM → Prop), xW xSR 163 75 [.ref a0, .int a1, .int a2, .int a3, .int a4, a5] (st) M Q = xW xSR 163 76 [.ref a0, .int a1, .int a2, .int a3, .int a4, a5] (.int (nI 3) :: st) M Q) ∧
  (∀ (a0 : Nat) (a1 : Int32) (a2 : Int32) (a3 : Int32) (a4 : Int32) (a5 : Value) (y0 : Int32) (y1 : Int32) (st : List Value) (M : xM) (Q : Option Value → xM → Prop), xW xSR 163 76 [.ref a0, .int a1, .int a2, .int a3, .int a4, a5] (.int y0 :: .int y1 :: st) M Q = xW xSR 163 77 [.ref a0, .int a1, .int a2, .int a3, .int a4, a5] (.int (y1 >>> (y0 &&& nI 31)) :: st) M Q) ∧
  (∀ (a0 : Nat) (a1 : Int32) (a2 : Int32) (a3 : Int32) (a4 : Int32) (a5 : Value) (st : List Value) (M : xM) (Q : Option Value → xM → Prop), xW xSR 163 77 [.ref a0, .int a1, .int a2, .int a3, .int a4, a5] (st) M Q = xW xSR 163 78 [.ref a0, .int a1, .int a2, .int a3, .int a4, a5] (.int (nI 1) :: st) M Q) ∧
  (∀ (a0 : Nat) (a1 : Int32) (a2 : Int32) (a3 : Int32) (a4 : Int32) (a5 : Value) (y0 : Int32) (y1 : Int32) (st : List Value) (M : xM) (Q : Option Value → xM → Prop), xW xSR 163 78 [.ref a0, .int a1, .int a2, .int a3, .int a4, a5] (.int y0 :: .int y1 :: st) M Q = xW xSR 163 79 [.ref a0, .int a1, .int a2, .int a3, .int a4, a5] (.int (y1 &&& y0) :: st) M Q) ∧
  (∀ (a0 : Nat) (a1 : Int32) (a2 : Int32) (a3 : Int32) (a4 : Int32) (a5 : Value) (st : List Value) (M : xM) (Q : Option Value → xM → Prop), xW xSR 163 79 [.ref a0, .int a1, .int a2, .int a3, .int a4, a5] (st) M Q = xW xSR 163 80 [.ref a0, .int a1, .int a2, .int a3, .int a4, a5] (.ref a0 :: st) M Q) ∧
  (∀ (a0 : Nat) (a1 : Int32) (a2 : Int32) (a3 : Int32) (a4 : Int32) (a5 : Value) (st : List Value) (M : xM) (Q : Option Value → xM → Prop), xW xSR 163 80 [.ref a0, .int a1, .int a2, .int a3, .int a4, a5] (.ref 0 :: st) M Q = xW xSR 163 83 [.ref a0, .int a1, .int a2, .int a3, .int a4, a5] (.ref 1 :: st) M Q) ∧
  (∀ (a0 : Nat) (a1 : Int32) (a2 : Int32) (a3 : Int32) (a4 : Int32) (a5 : Value) (st : List Value) (M : xM) (Q : Option Value → xM → Prop), xW xSR 163 83 [.ref a0, .int a1, .int a2, .int a3, .int a4, a5] (st) M Q = xW xSR 163 86 [.ref a0, .int a1, .int a2, .int a3, .int a4, a5] (.int (nI 148) :: st) M Q) ∧
  (∀ (a0 : Nat) (a1 : Int32) (a2 : Int32) (a3 : Int32) (a4 : Int32) (a5 : Value) (y0 : Nat) (st : List Value) (M : xM) (Q : Option Value → xM → Prop), y0 < 156 → xW xSR 163 86 [.ref a0, .int a1, .int a2, .int a3, .int a4, a5] (.int (nI y0) :: .ref 1 :: st) M Q = xW xSR 163 87 [.ref a0, .int a1, .int a2, .int a3, .int a4, a5] (.int (M 1 y0) :: st) M Q) ∧
  (∀ (a0 : Nat) (a1 : Int32) (a2 : Int32) (a3 : Int32) (a4 : Int32) (a5 : Value) (y0 : Int32) (y1 : Int32) (st : List Value) (M : xM) (Q : Option Value → xM → Prop), xW xSR 163 87 [.ref a0, .int a1, .int a2, .int a3, .int a4, a5] (.int y0 :: .int y1 :: st) M Q = xW xSR 163 88 [.ref a0, .int a1, .int a2, .int a3, .int a4, a5] (.int (y1 * y0) :: st) M Q) ∧
  (∀ (a0 : Nat) (a1 : Int32) (a2 : Int32) (a3 : Int32) (a4 : Int32) (a5 : Value) (y0 : Int32) (y1 : Int32) (st : List Value) (M : xM) (Q : Option Value → xM → Prop), xW xSR 163 88 [.ref a0, .int a1, .int a2, .int a3, .int a4, a5] (.int y0 :: .int y1 :: st) M Q = xW xSR 163 89 [.ref a0, .int a1, .int a2, .int a3, .int a4, a5] (.int (y1 + y0) :: st) M Q) ∧
  (∀ (a0 : Nat) (a1 : Int32) (a2 : Int32) (a3 : Int32) (a4 : Int32) (a5 : Value) (y0 : Int32) (y1 : Int32) (st : List Value) (M : xM) (Q : Option Value → xM → Prop), xW xSR 163 89 [.ref a0, .int a1, .int a2, .int a3, .int a4, a5] (.int y0 :: .int y1 :: st) M Q = xW xSR 163 90 [.ref a0, .int a1, .int a2, .int a3, .int a4, a5] (.int (y1 + y0) :: st) M Q) ∧
  (∀ (a0 : Nat) (a1 : Int32) (a2 : Int32) (a3 : Int32) (a4 : Int32) (a5 : Value) (y0 : Int32) (y1 : Nat) (st : List Value) (M : xM) (Q : Option Value → xM → Prop), y1 < 3 → xW xSR 163 90 [.ref a0, .int a1, .int a2, .int a3, .int a4, a5] (.int y0 :: .int (nI y1) :: .ref 5 :: st) M Q = xW xSR 163 91 [.ref a0, .int a1, .int a2, .int a3, .int a4, a5] (st) (xup M 5 y1 y0) Q) ∧
  (∀ (a0 : Nat) (a1 : Int32) (a2 : Int32) (a3 : Int32) (a4 : Int32) (a5 : Value) (st : List Value) (M : xM) (Q : Option Value → xM → Prop), xW xSR 163 91 [.ref a0, .int a1, .int a2, .int a3, .int a4, a5] (st) M Q = xW xSR 163 92 [.ref a0, .int a1, .int a2, .int a3, .int a4, a5] (.ref a0 :: st) M Q) ∧
  (∀ (a0 : Nat) (a1 : Int32) (a2 : Int32) (a3 : Int32) (a4 : Int32) (a5 : Value) (st : List Value) (M : xM) (Q : Option Value → xM → Prop), xW xSR 163 92 [.ref a0, .int a1, .int a2, .int a3, .int a4, a5] (.ref 0 :: st) M Q = xW xSR 163 95 [.ref a0, .int a1, .int a2, .int a3, .int a4, a5] (.ref 5 :: st) M Q) ∧
  (∀ (a0 : Nat) (a1 : Int32) (a2 : Int32) (a3 : Int32) (a4 : Int32) (a5 : Value) (st : List Value) (M : xM) (Q : Option Value → xM → Prop), xW xSR 163 95 [.ref a0, .int a1, .int a2, .int a3, .int a4, a5] (st) M Q = xW xSR 163 96 [.ref a0, .int a1, .int a2, .int a3, .int a4, a5] (.ref a0 :: st) M Q) ∧
  (∀ (a0 : Nat) (a1 : Int32) (a2 : Int32) (a3 : Int32) (a4 : Int32) (a5 : Value) (st : List Value) (M : xM) (Q : Option Value → xM → Prop), xW xSR 163 96 [.ref a0, .int a1, .int a2, .int a3, .int a4, a5] (st) M Q = xW xSR 163 97 [.ref a0, .int a1, .int a2, .int a3, .int a4, a5] (.int a1 :: st) M Q) ∧
  (∀ (a0 : Nat) (a1 : Int32) (a2 : Int32) (a3 : Int32) (a4 : Int32) (a5 : Value) (st : List Value) (M : xM) (Q : Option Value → xM → Prop), xW xSR 163 97 [.ref a0, .int a1, .int a2, .int a3, .int a4, a5] (st) M Q = xW xSR 163 98 [.ref a0, .int a1, .int a2, .int a3, .int a4, a5] (.int a2 :: st) M Q) ∧
  (∀ (a0 : Nat) (a1 : Int32) (a2 : Int32) (a3 : Int32) (a4 : Int32) (a5 : Value) (y0 : Int32) (y1 : Int32) (y3 : Nat) (M : xM) (Q : Option Value → xM → Prop), xW xSR 163 98 [.ref a0, .int a1, .int a2, .int a3, .int a4, a5] (.int y0 :: .int y1 :: .ref 0 :: .ref y3 :: []) M Q = xW xSR 161 0 [.ref 0, .int y1, .int y0, .null] [] M (fun v M' => xW xSR 163 101 [.ref a0, .int a1, .int a2, .int a3, .int a4, a5] (xpush v [.ref y3]) M' Q)) ∧
  (∀ (a0 : Nat) (a1 : Int32) (a2 : Int32) (a3 : Int32) (a4 : Int32) (a5 : Value) (y0 : Int32) (y1 : Nat) (st : List Value) (M : xM) (Q : Option Value → xM → Prop), xW xSR 163 101 [.ref a0, .int a1, .int a2, .int a3, .int a4, a5] (.int y0 :: .ref y1 :: st) M Q = xW xSR 163 102 [.ref a0, .int a1, .int a2, .int a3, .int a4, a5] (.int y0 :: .ref y1 :: .int y0 :: .ref y1 :: st) M Q) ∧
  (∀ (a0 : Nat) (a1 : Int32) (a2 : Int32) (a3 : Int32) (a4 : Int32) (a5 : Value) (y0 : Nat) (st : List Value) (M : xM) (Q : Option Value → xM → Prop), y0 < 3 → xW xSR 163 102 [.ref a0, .int a1, .int a2, .int a3, .int a4, a5] (.int (nI y0) :: .ref 5 :: st) M Q = xW xSR 163 103 [.ref a0, .int a1, .int a2, .int a3, .int a4, a5] (.int (M 5 y0) :: st) M Q) ∧
  (∀ (a0 : Nat) (a1 : Int32) (a2 : Int32) (a3 : Int32) (a4 : Int32) (a5 : Value) (st : List Value) (M : xM) (Q : Option Value → xM → Prop), xW xSR 163 103 [.ref a0, .int a1, .int a2, .int a3, .int a4, a5] (st) M Q = xW xSR 163 104 [.ref a0, .int a1, .int a2, .int a3, .int a4, a5] (.int a3 :: st) M Q) ∧
  (∀ (a0 : Nat) (a1 : Int32) (a2 : Int32) (a3 : Int32) (a4 : Int32) (a5 : Value) (st : List Value) (M : xM) (Q : Option Value → xM → Prop), xW xSR 163 104 [.ref a0, .int a1, .int a2, .int a3, .int a4, a5] (st) M Q = xW xSR 163 105 [.ref a0, .int a1, .int a2, .int a3, .int a4, a5] (.int (nI 4) :: st) M Q) ∧
  (∀ (a0 : Nat) (a1 : Int32) (a2 : Int32) (a3 : Int32) (a4 : Int32) (a5 : Value) (y0 : Int32) (y1 : Int32) (st : List Value) (M : xM) (Q : Option Value → xM → Prop), xW xSR 163 105 [.ref a0, .int a1, .int a2, .int a3, .int a4, a5] (.int y0 :: .int y1 :: st) M Q = xW xSR 163 106 [.ref a0, .int a1, .int a2, .int a3, .int a4, a5] (.int (y1 >>> (y0 &&& nI 31)) :: st) M Q) ∧
  (∀ (a0 : Nat) (a1 : Int32) (a2 : Int32) (a3 : Int32) (a4 : Int32) (a5 : Value) (st : List Value) (M : xM) (Q : Option Value → xM → Prop), xW xSR 163 106 [.ref a0, .int a1, .int a2, .int a3, .int a4, a5] (st) M Q = xW xSR 163 107 [.ref a0, .int a1, .int a2, .int a3, .int a4, a5] (.int (nI 1) :: st) M Q) ∧
  (∀ (a0 : Nat) (a1 : Int32) (a2 : Int32) (a3 : Int32) (a4 : Int32) (a5 : Value) (y0 : Int32) (y1 : Int32) (st : List Value) (M : xM) (Q : Option Value → xM → Prop), xW xSR 163 107 [.ref a0, .int a1, .int a2, .int a3, .int a4, a5] (.int y0 :: .int y1 :: st) M Q = xW xSR 163 108 [.ref a0, .int a1, .int a2, .int a3, .int a4, a5] (.int (y1 &&& y0) :: st) M Q) ∧
  (∀ (a0 : Nat) (a1 : Int32) (a2 : Int32) (a3 : Int32) (a4 : Int32) (a5 : Value) (st : List Value) (M : xM) (Q : Option Value → xM → Prop), xW xSR 163 108 [.ref a0, .int a1, .int a2, .int a3, .int a4, a5] (st) M Q = xW xSR 163 109 [.ref a0, .int a1, .int a2, .int a3, .int a4, a5] (.ref a0 :: st) M Q) ∧
  (∀ (a0 : Nat) (a1 : Int32) (a2 : Int32) (a3 : Int32) (a4 : Int32) (a5 : Value) (st : List Value) (M : xM) (Q : Option Value → xM → Prop), xW xSR 163 109 [.ref a0, .int a1, .int a2, .int a3, .int a4, a5] (.ref 0 :: st) M Q = xW xSR 163 112 [.ref a0, .int a1, .int a2, .int a3, .int a4, a5] (.ref 1 :: st) M Q) ∧
  (∀ (a0 : Nat) (a1 : Int32) (a2 : Int32) (a3 : Int32) (a4 : Int32) (a5 : Value) (st : List Value) (M : xM) (Q : Option Value → xM → Prop), xW xSR 163 112 [.ref a0, .int a1, .int a2, .int a3, .int a4, a5] (st) M Q = xW xSR 163 115 [.ref a0, .int a1, .int a2, .int a3, .int a4, a5] (.int (nI 149) :: st) M Q) ∧
  (∀ (a0 : Nat) (a1 : Int32) (a2 : Int32) (a3 : Int32) (a4 : Int32) (a5 : Value) (y0 : Nat) (st : List Value) (M : xM) (Q : Option Value → xM → Prop), y0 < 156 → xW xSR 163 115 [.ref a0, .int a1, .int a2, .int a3, .int a4, a5] (.int (nI y0) :: .ref 1 :: st) M Q = xW xSR 163 116 [.ref a0, .int a1, .int a2, .int a3, .int a4, a5] (.int (M 1 y0) :: st) M Q) ∧
  (∀ (a0 : Nat) (a1 : Int32) (a2 : Int32) (a3 : Int32) (a4 : Int32) (a5 : Value) (y0 : Int32) (y1 : Int32) (st : List Value) (M : xM) (Q : Option Value → xM → Prop), xW xSR 163 116 [.ref a0, .int a1, .int a2, .int a3, .int a4, a5] (.int y0 :: .int y1 :: st) M Q = xW xSR 163 117 [.ref a0, .int a1, .int a2, .int a3, .int a4, a5] (.int (y1 * y0) :: st) M Q) ∧
  (∀ (a0 : Nat) (a1 : Int32) (a2 : Int32) (a3 : Int32) (a4 : Int32) (a5 : Value) (y0 : Int32) (y1 : Int32) (st : List Value) (M : xM) (Q : Option Value → xM → Prop), xW xSR 163 117 [.ref a0, .int a1, .int a2, .int a3, .int a4, a5] (.int y0 :: .int y1 :: st) M Q = xW xSR 163 118 [.ref a0, .int a1, .int a2, .int a3, .int a4, a5] (.int (y1 + y0) :: st) M Q) ∧
  (∀ (a0 : Nat) (a1 : Int32) (a2 : Int32) (a3 : Int32) (a4 : Int32) (a5 : Value) (y0 : Int32) (y1 : Nat) (st : List Value) (M : xM) (Q : Option Value → xM → Prop), y1 < 3 → xW xSR 163 118 [.ref a0, .int a1, .int a2, .int a3, .int a4, a5] (.int y0 :: .int (nI y1) :: .ref 5 :: st) M Q = xW xSR 163 119 [.ref a0, .int a1, .int a2, .int a3, .int a4, a5] (st) (xup M 5 y1 y0) Q) ∧
  (∀ (a0 : Nat) (a1 : Int32) (a2 : Int32) (a3 : Int32) (a4 : Int32) (a5 : Value) (st : List Value) (M : xM) (Q : Option Value → xM → Prop), xW xSR 163 119 [.ref a0, .int a1, .int a2, .int a3, .int a4, a5] (st) M Q = xW xSR 163 120 [.ref a0, .int a1, .int a2, .int a3, .int a4, a5] (.int a3 :: st) M Q) ∧
  (∀ (a0 : Nat) (a1 : Int32) (a2 : Int32) (a3 : Int32) (a4 : Int32) (a5 : Value) (st : List Value) (M : xM) (Q : Option Value → xM → Prop), xW xSR 163 120 [.ref a0, .int a1, .int a2, .int a3, .int a4, a5] (st) M Q = xW xSR 163 121 [.ref a0, .int a1, .int a2, .int a3, .int a4, a5] (.int (nI 5) :: st) M Q) ∧
  (∀ (a0 : Nat) (a1 : Int32) (a2 : Int32) (a3 : Int32) (a4 : Int32) (a5 : Value) (y0 : Int32) (y1 : Int32) (st : List Value) (M : xM) (Q : Option Value → xM → Prop), xW xSR 163 121 [.ref a0, .int a1, .int a2, .int a3, .int a4, a5] (.int y0 :: .int y1 :: st) M Q = xW xSR 163 122 [.ref a0, .int a1, .int a2, .int a3, .int a4, a5] (.int (y1 >>> (y0 &&& nI 31)) :: st) M Q) ∧
  (∀ (a0 : Nat) (a1 : Int32) (a2 : Int32) (a3 : Int32) (a4 : Int32) (a5 : Value) (st : List Value) (M : xM) (Q : Option Value → xM → Prop), xW xSR 163 122 [.ref a0, .int a1, .int a2, .int a3, .int a4, a5] (st) M Q = xW xSR 163 123 [.ref a0, .int a1, .int a2, .int a3, .int a4, a5] (.int (nI 1) :: st) M Q) ∧
  (∀ (a0 : Nat) (a1 : Int32) (a2 : Int32) (a3 : Int32) (a4 : Int32) (a5 : Value) (y0 : Int32) (y1 : Int32) (st : List Value) (M : xM) (Q : Option Value → xM → Prop), xW xSR 163 123 [.ref a0, .int a1, .int a2, .int a3, .int a4, a5] (.int y0 :: .int y1 :: st) M Q = xW xSR 163 124 [.ref a0, .int a1, .int a2, .int a3, .int a4, a5] (.int (y1 &&& y0) :: st) M Q) ∧
  (∀ (a0 : Nat) (a1 : Int32) (a2 : Int32) (a3 : Int32) (a4 : Int32) (a5 : Value) (st : List Value) (M : xM) (Q : Option Value → xM → Prop), xW xSR 163 124 [.ref a0, .int a1, .int a2, .int a3, .int a4, a5] (st) M Q = xW xSR 163 125 [.ref a0, .int a1, .int a2, .int a3, .int a4, a5] (.ref a0 :: st) M Q) ∧
  (∀ (a0 : Nat) (a1 : Int32) (a2 : Int32) (a3 : Int32) (a4 : Int32) (a5 : Value) (st : List Value) (M : xM) (Q : Option Value → xM → Prop), xW xSR 163 125 [.ref a0, .int a1, .int a2, .int a3, .int a4, a5] (.ref 0 :: st) M Q = xW xSR 163 128 [.ref a0, .int a1, .int a2, .int a3, .int a4, a5] (.ref 1 :: st) M Q) ∧
  (∀ (a0 : Nat) (a1 : Int32) (a2 : Int32) (a3 : Int32) (a4 : Int32) (a5 : Value) (st : List Value) (M : xM) (Q : Option Value → xM → Prop), xW xSR 163 128 [.ref a0, .int a1, .int a2, .int a3, .int a4, a5] (st) M Q = xW xSR 163 131 [.ref a0, .int a1, .int a2, .int a3, .int a4, a5] (.int (nI 148) :: st) M Q) ∧
  (∀ (a0 : Nat) (a1 : Int32) (a2 : Int32) (a3 : Int32) (a4 : Int32) (a5 : Value) (y0 : Nat) (st : List Value) (M : xM) (Q : Option Value → xM → Prop), y0 < 156 → xW xSR 163 131 [.ref a0, .int a1, .int a2, .int a3, .int a4, a5] (.int (nI y0) :: .ref 1 :: st) M Q = xW xSR 163 132 [.ref a0, .int a1, .int a2, .int a3, .int a4, a5] (.int (M 1 y0) :: st) M Q) ∧
  (∀ (a0 : Nat) (a1 : Int32) (a2 : Int32) (a3 : Int32) (a4 : Int32) (a5 : Value) (st : List Value) (M : xM) (Q : Option Value → xM → Prop), xW xSR 163 132 [.ref a0, .int a1, .int a2, .int a3, .int a4, a5] (st) M Q = xW xSR 163 133 [.ref a0, .int a1, .int a2, .int a3, .int a4, a5] (.int (nI 2) :: st) M Q) ∧
  (∀ (a0 : Nat) (a1 : Int32) (a2 : Int32) (a3 : Int32) (a4 : Int32) (a5 : Value) (y0 : Nat) (y1 : Int32) (st : List Value) (M : xM) (Q : Option Value → xM → Prop), 0 < y0 → y0 < 2 ^ 31 → xW xSR 163 133 [.ref a0, .int a1, .int a2, .int a3, .int a4, a5] (.int (nI y0) :: .int y1 :: st) M Q = xW xSR 163 134 [.ref a0, .int a1, .int a2, .int a3, .int a4, a5] (.int (y1 / nI y0) :: st) M Q) ∧
  (∀ (a0 : Nat) (a1 : Int32) (a2 : Int32) (a3 : Int32) (a4 : Int32) (a5 : Value) (y0 : Int32) (y1 : Int32) (st : List Value) (M : xM) (Q : Option Value → xM → Prop), xW xSR 163 134 [.ref a0, .int a1, .int a2, .int a3, .int a4, a5] (.int y0 :: .int y1 :: st) M Q = xW xSR 163 135 [.ref a0, .int a1, .int a2, .int a3, .int a4, a5] (.int (y1 * y0) :: st) M Q) ∧
  (∀ (a0 : Nat) (a1 : Int32) (a2 : Int32) (a3 : Int32) (a4 : Int32) (a5 : Value) (y0 : Int32) (st : List Value) (M : xM) (Q : Option Value → xM → Prop), xW xSR 163 135 [.ref a0, .int a1, .int a2, .int a3, .int a4, a5] (.int y0 :: st) M Q = xW xSR 163 137 [.ref a0, .int a1, .int a2, .int a3, .int a4, .int y0] (st) M Q) ∧
  (∀ (a0 : Nat) (a1 : Int32) (a2 : Int32) (a3 : Int32) (a4 : Int32) (a5 : Int32) (st : List Value) (M : xM) (Q : Option Value → xM → Prop), xW xSR 163 137 [.ref a0, .int a1, .int a2, .int a3, .int a4, .int a5] (st) M Q = xW xSR 163 138 [.ref a0, .int a1, .int a2, .int a3, .int a4, .int a5] (.ref a0 :: st) M Q) ∧
  (∀ (a0 : Nat) (a1 : Int32) (a2 : Int32) (a3 : Int32) (a4 : Int32) (a5 : Int32) (st : List Value) (M : xM) (Q : Option Value → xM → Prop), xW xSR 163 138 [.ref a0, .int a1, .int a2, .int a3, .int a4, .int a5] (.ref 0 :: st) M Q = xW xSR 163 141 [.ref a0, .int a1, .int a2, .int a3, .int a4, .int a5] (.ref 5 :: st) M Q) ∧
  (∀ (a0 : Nat) (a1 : Int32) (a2 : Int32) (a3 : Int32) (a4 : Int32) (a5 : Int32) (st : List Value) (M : xM) (Q : Option Value → xM → Prop), xW xSR 163 141 [.ref a0, .int a1, .int a2, .int a3, .int a4, .int a5] (st) M Q = xW xSR 163 142 [.ref a0, .int a1, .int a2, .int a3, .int a4, .int a5] (.int (nI 0) :: st) M Q) ∧
  (∀ (a0 : Nat) (a1 : Int32) (a2 : Int32) (a3 : Int32) (a4 : Int32) (a5 : Int32) (y0 : Int32) (y1 : Nat) (st : List Value) (M : xM) (Q : Option Value → xM → Prop), xW xSR 163 142 [.ref a0, .int a1, .int a2, .int a3, .int a4, .int a5] (.int y0 :: .ref y1 :: st) M Q = xW xSR 163 143 [.ref a0, .int a1, .int a2, .int a3, .int a4, .int a5] (.int y0 :: .ref y1 :: .int y0 :: .ref y1 :: st) M Q) ∧
  (∀ (a0 : Nat) (a1 : Int32) (a2 : Int32) (a3 : Int32) (a4 : Int32) (a5 : Int32) (y0 : Nat) (st : List Value) (M : xM) (Q : Option Value → xM → Prop), y0 < 3 → xW xSR 163 143 [.ref a0, .int a1, .int a2, .int a3, .int a4, .int a5] (.int (nI y0) :: .ref 5 :: st) M Q = xW xSR 163 144 [.ref a0, .int a1, .int a2, .int a3, .int a4, .int a5] (.int (M 5 y0) :: st) M Q) ∧
  (∀ (a0 : Nat) (a1 : Int32) (a2 : Int32) (a3 : Int32) (a4 : Int32) (a5 : Int32) (st : List Value) (M : xM) (Q : Option Value → xM → Prop), xW xSR 163 144 [.ref a0, .int a1, .int a2, .int a3, .int a4, .int a5] (st) M Q = xW xSR 163 146 [.ref a0, .int a1, .int a2, .int a3, .int a4, .int a5] (.int a4 :: st) M Q) ∧
  (∀ (a0 : Nat) (a1 : Int32) (a2 : Int32) (a3 : Int32) (a4 : Int32) (a5 : Int32) (st : List Value) (M : xM) (Q : Option Value → xM → Prop), xW xSR 163 146 [.ref a0, .int a1, .int a2, .int a3, .int a4, .int a5] (st) M Q = xW xSR 163 147 [.ref a0, .int a1, .int a2, .int a3, .int a4, .int a5] (.int (nI 2) :: st) M Q) ∧
  (∀ (a0 : Nat) (a1 : Int32) (a2 : Int32) (a3 : Int32) (a4 : Int32) (a5 : Int32) (y0 : Int32) (y1 : Int32) (st : List Value) (M : xM) (Q : Option Value → xM → Prop), xW xSR 163 147 [.ref a0, .int a1, .int a2, .int a3, .int a4, .int a5] (.int y0 :: .int y1 :: st) M Q = xW xSR 163 148 [.ref a0, .int a1, .int a2, .int a3, .int a4, .int a5] (.int (y1 >>> (y0 &&& nI 31)) :: st) M Q) ∧
  (∀ (a0 : Nat) (a1 : Int32) (a2 : Int32) (a3 : Int32) (a4 : Int32) (a5 : Int32) (st : List Value) (M : xM) (Q : Option Value → xM → Prop), xW xSR 163 148 [.ref a0, .int a1, .int a2, .int a3, .int a4, .int a5] (st) M Q = xW xSR 163 149 [.ref a0, .int a1, .int a2, .int a3, .int a4, .int a5] (.int (nI 1) :: st) M Q) ∧
  (∀ (a0 : Nat) (a1 : Int32) (a2 : Int32) (a3 : Int32) (a4 : Int32) (a5 : Int32) (y0 : Int32) (y1 : Int32) (st : List Value) (M : xM) (Q : Option Value → xM → Prop), xW xSR 163 149 [.ref a0, .int a1, .int a2, .int a3, .int a4, .int a5] (.int y0 :: .int y1 :: st) M Q = xW xSR 163 150 [.ref a0, .int a1, .int a2, .int a3, .int a4, .int a5] (.int (y1 &&& y0) :: st) M Q) ∧
  (∀ (a0 : Nat) (a1 : Int32) (a2 : Int32) (a3 : Int32) (a4 : Int32) (a5 : Int32) (st : List Value) (M : xM) (Q : Option Value → xM → Prop), xW xSR 163 150 [.ref a0, .int a1, .int a2, .int a3, .int a4, .int a5] (st) M Q = xW xSR 163 152 [.ref a0, .int a1, .int a2, .int a3, .int a4, .int a5] (.int a5 :: st) M Q) ∧
  (∀ (a0 : Nat) (a1 : Int32) (a2 : Int32) (a3 : Int32) (a4 : Int32) (a5 : Int32) (y0 : Int32) (y1 : Int32) (st : List Value) (M : xM) (Q : Option Value → xM → Prop), xW xSR 163 152 [.ref a0, .int a1, .int a2, .int a3, .int a4, .int a5] (.int y0 :: .int y1 :: st) M Q = xW xSR 163 153 [.ref a0, .int a1, .int a2, .int a3, .int a4, .int a5] (.int (y1 * y0) :: st) M Q) ∧
  (∀ (a0 : Nat) (a1 : Int32) (a2 : Int32) (a3 : Int32) (a4 : Int32) (a5 : Int32) (y0 : Int32) (y1 : Int32) (st : List Value) (M : xM) (Q : Option Value → xM → Prop), xW xSR 163 153 [.ref a0, .int a1, .int a2, .int a3, .int a4, .int a5] (.int y0 :: .int y1 :: st) M Q = xW xSR 163 154 [.ref a0, .int a1, .int a2, .int a3, .int a4, .int a5] (.int (y1 + y0) :: st) M Q) ∧
  (∀ (a0 : Nat) (a1 : Int32) (a2 : Int32) (a3 : Int32) (a4 : Int32) (a5 : Int32) (y0 : Int32) (y1 : Nat) (st : List Value) (M : xM) (Q : Option Value → xM → Prop), y1 < 3 → xW xSR 163 154 [.ref a0, .int a1, .int a2, .int a3, .int a4, .int a5] (.int y0 :: .int (nI y1) :: .ref 5 :: st) M Q = xW xSR 163 155 [.ref a0, .int a1, .int a2, .int a3, .int a4, .int a5] (st) (xup M 5 y1 y0) Q) ∧
  (∀ (a0 : Nat) (a1 : Int32) (a2 : Int32) (a3 : Int32) (a4 : Int32) (a5 : Int32) (st : List Value) (M : xM) (Q : Option Value → xM → Prop), xW xSR 163 155 [.ref a0, .int a1, .int a2, .int a3, .int a4, .int a5] (st) M Q = xW xSR 163 156 [.ref a0, .int a1, .int a2, .int a3, .int a4, .int a5] (.ref a0 :: st) M Q) ∧
  (∀ (a0 : Nat) (a1 : Int32) (a2 : Int32) (a3 : Int32) (a4 : Int32) (a5 : Int32) (st : List Value) (M : xM) (Q : Option Value → xM → Prop), xW xSR 163 156 [.ref a0, .int a1, .int a2, .int a3, .int a4, .int a5] (.ref 0 :: st) M Q = xW xSR 163 159 [.ref a0, .int a1, .int a2, .int a3, .int a4, .int a5] (.ref 5 :: st) M Q) ∧
  (∀ (a0 : Nat) (a1 : Int32) (a2 : Int32) (a3 : Int32) (a4 : Int32) (a5 : Int32) (st : List Value) (M : xM) (Q : Option Value → xM → Prop), xW xSR 163 159 [.ref a0, .int a1, .int a2, .int a3, .int a4, .int a5] (st) M Q = xW xSR 163 160 [.ref a0, .int a1, .int a2, .int a3, .int a4, .int a5] (.int (nI 1) :: st) M Q) ∧
  (∀ (a0 : Nat) (a1 : Int32) (a2 : Int32) (a3 : Int32) (a4 : Int32) (a5 : Int32) (y0 : Int32) (y1 : Nat) (st : List Value) (M : xM) (Q : Option Value → xM → Prop), xW xSR 163 160 [.ref a0, .int a1, .int a2, .int a3, .int a4, .int a5] (.int y0 :: .ref y1 :: st) M Q = xW xSR 163 161 [.ref a0, .int a1, .int a2, .int a3, .int a4, .int a5] (.int y0 :: .ref y1 :: .int y0 :: .ref y1 :: st) M Q) ∧
  (∀ (a0 : Nat) (a1 : Int32) (a2 : Int32) (a3 : Int32) (a4 : Int32) (a5 : Int32) (y0 : Nat) (st : List Value) (M : xM) (Q : Option Value → xM → Prop), y0 < 3 → xW xSR 163 161 [.ref a0, .int a1, .int a2, .int a3, .int a4, .int a5] (.int (nI y0) :: .ref 5 :: st) M Q = xW xSR 163 162 [.ref a0, .int a1, .int a2, .int a3, .int a4, .int a5] (.int (M 5 y0) :: st) M Q) ∧
  (∀ (a0 : Nat) (a1 : Int32) (a2 : Int32) (a3 : Int32) (a4 : Int32) (a5 : Int32) (st : List Value) (M : xM) (Q : Option Value → xM → Prop), xW xSR 163 162 [.ref a0, .int a1, .int a2, .int a3, .int a4, .int a5] (st) M Q = xW xSR 163 164 [.ref a0, .int a1, .int a2, .int a3, .int a4, .int a5] (.int a4 :: st) M Q) ∧
  (∀ (a0 : Nat) (a1 : Int32) (a2 : Int32) (a3 : Int32) (a4 : Int32) (a5 : Int32) (st : List Value) (M : xM) (Q : Option Value → xM → Prop), xW xSR 163 164 [.ref a0, .int a1, .int a2, .int a3, .int a4, .int a5] (st) M Q = xW xSR 163 165 [.ref a0, .int a1, .int a2, .int a3, .int a4, .int a5] (.int (nI 3) :: st) M Q) ∧
  (∀ (a0 : Nat) (a1 : Int32) (a2 : Int32) (a3 : Int32) (a4 : Int32) (a5 : Int32) (y0 : Int32) (y1 : Int32) (st : List Value) (M : xM) (Q : Option Value → xM → Prop), xW xSR 163 165 [.ref a0, .int a1, .int a2, .int a3, .int a4, .int a5] (.int y0 :: .int y1 :: st) M Q = xW xSR 163 166 [.ref a0, .int a1, .int a2, .int a3, .int a4, .int a5] (.int (y1 >>> (y0 &&& nI 31)) :: st) M Q) ∧
  (∀ (a0 : Nat) (a1 : Int32) (a2 : Int32) (a3 : Int32) (a4 : Int32) (a5 : Int32) (st : List Value) (M : xM) (Q : Option Value → xM → Prop), xW xSR 163 166 [.ref a0, .int a1, .int a2, .int a3, .int a4, .int a5] (st) M Q = xW xSR 163 167 [.ref a0, .int a1, .int a2, .int a3, .int a4, .int a5] (.int (nI 1) :: st) M Q) ∧
  (∀ (a0 : Nat) (a1 : Int32) (a2 : Int32) (a3 : Int32) (a4 : Int32) (a5 : Int32) (y0 : Int32) (y1 : Int32) (st : List Value) (M : xM) (Q : Option Value → xM → Prop), xW xSR 163 167 [.ref a0, .int a1, .int a2, .int a3, .int a4, .int a5] (.int y0 :: .int y1 :: st) M Q = xW xSR 163 168 [.ref a0, .int a1, .int a2, .int a3, .int a4, .int a5] (.int (y1 &&& y0) :: st) M Q) ∧
  (∀ (a0 : Nat) (a1 : Int32) (a2 : Int32) (a3 : Int32) (a4 : Int32) (a5 : Int32) (st : List Value) (M : xM) (Q : Option Value → xM → Prop), xW xSR 163 168 [.ref a0, .int a1, .int a2, .int a3, .int a4, .int a5] (st) M Q = xW xSR 163 170 [.ref a0, .int a1, .int a2, .int a3, .int a4, .int a5] (.int a5 :: st) M Q) ∧
  (∀ (a0 : Nat) (a1 : Int32) (a2 : Int32) (a3 : Int32) (a4 : Int32) (a5 : Int32) (y0 : Int32) (y1 : Int32) (st : List Value) (M : xM) (Q : Option Value → xM → Prop), xW xSR 163 170 [.ref a0, .int a1, .int a2, .int a3, .int a4, .int a5] (.int y0 :: .int y1 :: st) M Q = xW xSR 163 171 [.ref a0, .int a1, .int a2, .int a3, .int a4, .int a5] (.int (y1 * y0) :: st) M Q) ∧
  (∀ (a0 : Nat) (a1 : Int32) (a2 : Int32) (a3 : Int32) (a4 : Int32) (a5 : Int32) (y0 : Int32) (y1 : Int32) (st : List Value) (M : xM) (Q : Option Value → xM → Prop), xW xSR 163 171 [.ref a0, .int a1, .int a2, .int a3, .int a4, .int a5] (.int y0 :: .int y1 :: st) M Q = xW xSR 163 172 [.ref a0, .int a1, .int a2, .int a3, .int a4, .int a5] (.int (y1 + y0) :: st) M Q) ∧
  (∀ (a0 : Nat) (a1 : Int32) (a2 : Int32) (a3 : Int32) (a4 : Int32) (a5 : Int32) (y0 : Int32) (y1 : Nat) (st : List Value) (M : xM) (Q : Option Value → xM → Prop), y1 < 3 → xW xSR 163 172 [.ref a0, .int a1, .int a2, .int a3, .int a4, .int a5] (.int y0 :: .int (nI y1) :: .ref 5 :: st) M Q = xW xSR 163 173 [.ref a0, .int a1, .int a2, .int a3, .int a4, .int a5] (st) (xup M 5 y1 y0) Q) ∧
  (∀ (a0 : Nat) (a1 : Int32) (a2 : Int32) (a3 : Int32) (a4 : Int32) (a5 : Int32) (M : xM) (Q : Option Value → xM → Prop), xW xSR 163 173 [.ref a0, .int a1, .int a2, .int a3, .int a4, .int a5] ([]) M Q = Q none M) :=
  ⟨fun a0 a1 a2 a3 a4 a5 st M Q => xw_s rfl rfl,
  fun a0 a1 a2 a3 a4 a5 st M Q => xw_s rfl rfl,
  fun a0 a1 a2 a3 a4 a5 st M Q => xw_s rfl rfl,
  fun a0 a1 a2 a3 a4 a5 y0 y1 M Q => xw_call rfl rfl rfl,
  fun a0 a1 a2 a3 a4 a5 y0 st M Q => xw_s rfl rfl,
  fun a0 a1 a2 a3 a4 a5 st M Q => xw_s rfl rfl,
  fun a0 a1 a2 a3 a4 a5 st M Q => xw_s rfl rfl,
  fun a0 a1 a2 a3 a4 a5 st M Q => xw_s rfl rfl,
  fun a0 a1 a2 a3 a4 a5 st M Q => xw_s rfl rfl,
  fun a0 a1 a2 a3 a4 a5 y0 y1 st M Q => xw_s rfl rfl,
  fun a0 a1 a2 a3 a4 a5 y0 y1 M Q => xw_call rfl rfl rfl,
  fun a0 a1 a2 a3 a4 a5 y0 st M Q => xw_s rfl rfl,
  fun a0 a1 a2 a3 a4 a5 st M Q => xw_s rfl rfl,
  fun a0 a1 a2 a3 a4 a5 st M Q => xw_s rfl rfl,
  fun a0 a1 a2 a3 a4 a5 st M Q => xw_s rfl rfl,
  fun a0 a1 a2 a3 a4 a5 y0 y1 st M Q => xw_s rfl rfl,
  fun a0 a1 a2 a3 a4 a5 y0 st M Q h0 => xw_ald rfl rfl rfl (by decide) h0,
  fun a0 a1 a2 a3 a4 a5 st M Q => xw_s rfl rfl,
  fun a0 a1 a2 a3 a4 a5 st M Q => xw_s rfl rfl,
  fun a0 a1 a2 a3 a4 a5 y0 y1 st M Q => xw_s rfl rfl,
  fun a0 a1 a2 a3 a4 a5 st M Q => xw_s rfl rfl,
  fun a0 a1 a2 a3 a4 a5 y0 y1 st M Q => xw_s rfl rfl,
  fun a0 a1 a2 a3 a4 a5 st M Q => xw_s rfl rfl,
  fun a0 a1 a2 a3 a4 a5 st M Q => xw_s rfl rfl,
  fun a0 a1 a2 a3 a4 a5 st M Q => xw_s rfl rfl,
  fun a0 a1 a2 a3 a4 a5 y0 st M Q h0 => xw_ald rfl rfl rfl (by decide) h0,
  fun a0 a1 a2 a3 a4 a5 y0 y1 st M Q => xw_s rfl rfl,
  fun a0 a1 a2 a3 a4 a5 st M Q => xw_s rfl rfl,
  fun a0 a1 a2 a3 a4 a5 st M Q => xw_s rfl rfl,
  fun a0 a1 a2 a3 a4 a5 y0 y1 st M Q => xw_s rfl rfl,
  fun a0 a1 a2 a3 a4 a5 st M Q => xw_s rfl rfl,
  fun a0 a1 a2 a3 a4 a5 y0 y1 st M Q => xw_s rfl rfl,
  fun a0 a1 a2 a3 a4 a5 st M Q => xw_s rfl rfl,
  fun a0 a1 a2 a3 a4 a5 st M Q => xw_s rfl rfl,
  fun a0 a1 a2 a3 a4 a5 st M Q => xw_s rfl rfl,
  fun a0 a1 a2 a3 a4 a5 y0 st M Q h0 => xw_ald rfl rfl rfl (by decide) h0,
  fun a0 a1 a2 a3 a4 a5 y0 y1 st M Q => xw_s rfl rfl,
  fun a0 a1 a2 a3 a4 a5 y0 y1 st M Q => xw_s rfl rfl,
  fun a0 a1 a2 a3 a4 a5 y0 y1 st M Q => xw_s rfl rfl,
  fun a0 a1 a2 a3 a4 a5 y0 y1 st M Q h0 => xw_ast (f := fun x => x) rfl rfl rfl (by decide) h0,
  fun a0 a1 a2 a3 a4 a5 st M Q => xw_s rfl rfl,
  fun a0 a1 a2 a3 a4 a5 st M Q => xw_s rfl rfl,
  fun a0 a1 a2 a3 a4 a5 st M Q => xw_s rfl rfl,
  fun a0 a1 a2 a3 a4 a5 y0 y1 st M Q => xw_s rfl rfl,
  fun a0 a1 a2 a3 a4 a5 y0 st M Q h0 => xw_ald rfl rfl rfl (by decide) h0,
  fun a0 a1 a2 a3 a4 a5 st M Q => xw_s rfl rfl,
  fun a0 a1 a2 a3 a4 a5 st M Q => xw_s rfl rfl,
  fun a0 a1 a2 a3 a4 a5 y0 y1 st M Q => xw_s rfl rfl,
  fun a0 a1 a2 a3 a4 a5 st M Q => xw_s rfl rfl,
  fun a0 a1 a2 a3 a4 a5 st M Q => xw_s rfl rfl,
  fun a0 a1 a2 a3 a4 a5 st M Q => xw_s rfl rfl,
  fun a0 a1 a2 a3 a4 a5 y0 st M Q h0 => xw_ald rfl rfl rfl (by decide) h0,
  fun a0 a1 a2 a3 a4 a5 y0 y1 st M Q => xw_s rfl rfl,
  fun a0 a1 a2 a3 a4 a5 st M Q => xw_s rfl rfl,
  fun a0 a1 a2 a3 a4 a5 st M Q => xw_s rfl rfl,
  fun a0 a1 a2 a3 a4 a5 y0 y1 st M Q => xw_s rfl rfl,
  fun a0 a1 a2 a3 a4 a5 st M Q => xw_s rfl rfl,
  fun a0 a1 a2 a3 a4 a5 y0 y1 st M Q => xw_s rfl rfl,
  fun a0 a1 a2 a3 a4 a5 st M Q => xw_s rfl rfl,
  fun a0 a1 a2 a3 a4 a5 st M Q => xw_s rfl rfl,
  fun a0 a1 a2 a3 a4 a5 st M Q => xw_s rfl rfl,
  fun a0 a1 a2 a3 a4 a5 y0 st M Q h0 => xw_ald rfl rfl rfl (by decide) h0,
  fun a0 a1 a2 a3 a4 a5 y0 y1 st M Q => xw_s rfl rfl,
  fun a0 a1 a2 a3 a4 a5 y0 y1 st M Q => xw_s rfl rfl,
  fun a0 a1 a2 a3 a4 a5 y0 y1 st M Q => xw_s rfl rfl,
  fun a0 a1 a2 a3 a4 a5 y0 y1 st M Q h0 => xw_ast (f := fun x => x) rfl rfl rfl (by decide) h0,
  fun a0 a1 a2 a3 a4 a5 st M Q => xw_s rfl rfl,
  fun a0 a1 a2 a3 a4 a5 st M Q => xw_s rfl rfl,
  fun a0 a1 a2 a3 a4 a5 st M Q => xw_s rfl rfl,
  fun a0 a1 a2 a3 a4 a5 st M Q => xw_s rfl rfl,
  fun a0 a1 a2 a3 a4 a5 st M Q => xw_s rfl rfl,
  fun a0 a1 a2 a3 a4 a5 y0 y1 y3 M Q => xw_call rfl rfl rfl,
  fun a0 a1 a2 a3 a4 a5 y0 y1 st M Q => xw_s rfl rfl,
  fun a0 a1 a2 a3 a4 a5 y0 st M Q h0 => xw_ald rfl rfl rfl (by decide) h0,
  fun a0 a1 a2 a3 a4 a5 st M Q => xw_s rfl rfl,
  fun a0 a1 a2 a3 a4 a5 st M Q => xw_s rfl rfl,
  fun a0 a1 a2 a3 a4 a5 y0 y1 st M Q => xw_s rfl rfl,
  fun a0 a1 a2 a3 a4 a5 st M Q => xw_s rfl rfl,
  fun a0 a1 a2 a3 a4 a5 y0 y1 st M Q => xw_s rfl rfl,
  fun a0 a1 a2 a3 a4 a5 st M Q => xw_s rfl rfl,
  fun a0 a1 a2 a3 a4 a5 st M Q => xw_s rfl rfl,
  fun a0 a1 a2 a3 a4 a5 st M Q => xw_s rfl rfl,
  fun a0 a1 a2 a3 a4 a5 y0 st M Q h0 => xw_ald rfl rfl rfl (by decide) h0,
  fun a0 a1 a2 a3 a4 a5 y0 y1 st M Q => xw_s rfl rfl,
  fun a0 a1 a2 a3 a4 a5 y0 y1 st M Q => xw_s rfl rfl,
  fun a0 a1 a2 a3 a4 a5 y0 y1 st M Q h0 => xw_ast (f := fun x => x) rfl rfl rfl (by decide) h0,
  fun a0 a1 a2 a3 a4 a5 st M Q => xw_s rfl rfl,
  fun a0 a1 a2 a3 a4 a5 st M Q => xw_s rfl rfl,
  fun a0 a1 a2 a3 a4 a5 y0 y1 st M Q => xw_s rfl rfl,
  fun a0 a1 a2 a3 a4 a5 st M Q => xw_s rfl rfl,
  fun a0 a1 a2 a3 a4 a5 y0 y1 st M Q => xw_s rfl rfl,
  fun a0 a1 a2 a3 a4 a5 st M Q => xw_s rfl rfl,
  fun a0 a1 a2 a3 a4 a5 st M Q => xw_s rfl rfl,
  fun a0 a1 a2 a3 a4 a5 st M Q => xw_s rfl rfl,
  fun a0 a1 a2 a3 a4 a5 y0 st M Q h0 => xw_ald rfl rfl rfl (by decide) h0,
  fun a0 a1 a2 a3 a4 a5 st M Q => xw_s rfl rfl,
  fun a0 a1 a2 a3 a4 a5 y0 y1 st M Q h0 h1 => xw_div (f := fun x y => x / y) rfl rfl (nI_ne0 h0 h1),
  fun a0 a1 a2 a3 a4 a5 y0 y1 st M Q => xw_s rfl rfl,
  fun a0 a1 a2 a3 a4 a5 y0 st M Q => xw_s rfl rfl,
  fun a0 a1 a2 a3 a4 a5 st M Q => xw_s rfl rfl,
  fun a0 a1 a2 a3 a4 a5 st M Q => xw_s rfl rfl,
  fun a0 a1 a2 a3 a4 a5 st M Q => xw_s rfl rfl,
  fun a0 a1 a2 a3 a4 a5 y0 y1 st M Q => xw_s rfl rfl,
  fun a0 a1 a2 a3 a4 a5 y0 st M Q h0 => xw_ald rfl rfl rfl (by decide) h0,
  fun a0 a1 a2 a3 a4 a5 st M Q => xw_s rfl rfl,
  fun a0 a1 a2 a3 a4 a5 st M Q => xw_s rfl rfl,
  fun a0 a1 a2 a3 a4 a5 y0 y1 st M Q => xw_s rfl rfl,
  fun a0 a1 a2 a3 a4 a5 st M Q => xw_s rfl rfl,
  fun a0 a1 a2 a3 a4 a5 y0 y1 st M Q => xw_s rfl rfl,
  fun a0 a1 a2 a3 a4 a5 st M Q => xw_s rfl rfl,
  fun a0 a1 a2 a3 a4 a5 y0 y1 st M Q => xw_s rfl rfl,
  fun a0 a1 a2 a3 a4 a5 y0 y1 st M Q => xw_s rfl rfl,
  fun a0 a1 a2 a3 a4 a5 y0 y1 st M Q h0 => xw_ast (f := fun x => x) rfl rfl rfl (by decide) h0,
  fun a0 a1 a2 a3 a4 a5 st M Q => xw_s rfl rfl,
  fun a0 a1 a2 a3 a4 a5 st M Q => xw_s rfl rfl,
  fun a0 a1 a2 a3 a4 a5 st M Q => xw_s rfl rfl,
  fun a0 a1 a2 a3 a4 a5 y0 y1 st M Q => xw_s rfl rfl,
  fun a0 a1 a2 a3 a4 a5 y0 st M Q h0 => xw_ald rfl rfl rfl (by decide) h0,
  fun a0 a1 a2 a3 a4 a5 st M Q => xw_s rfl rfl,
  fun a0 a1 a2 a3 a4 a5 st M Q => xw_s rfl rfl,
  fun a0 a1 a2 a3 a4 a5 y0 y1 st M Q => xw_s rfl rfl,
  fun a0 a1 a2 a3 a4 a5 st M Q => xw_s rfl rfl,
  fun a0 a1 a2 a3 a4 a5 y0 y1 st M Q => xw_s rfl rfl,
  fun a0 a1 a2 a3 a4 a5 st M Q => xw_s rfl rfl,
  fun a0 a1 a2 a3 a4 a5 y0 y1 st M Q => xw_s rfl rfl,
  fun a0 a1 a2 a3 a4 a5 y0 y1 st M Q => xw_s rfl rfl,
  fun a0 a1 a2 a3 a4 a5 y0 y1 st M Q h0 => xw_ast (f := fun x => x) rfl rfl rfl (by decide) h0,
  fun a0 a1 a2 a3 a4 a5 M Q => xw_retv rfl rfl⟩
theorem j163 : True := trivial

set_option maxRecDepth 20000 in
theorem s164 :
  (∀ (a0 : Nat) (a1 : Int32) (a2 : Int32) (a3 : Int32) (a4 : Int32) (a5 : Value) (a6 : Value) (a7 : Value) (st : List Value) (M : xM) (Q : Option Value → xM → Prop), xW xSR 164 0 [.ref a0, .int a1, .int a2, .int a3, .int a4, a5, a6, a7] (st) M Q = xW xSR 164 1 [.ref a0, .int a1, .int a2, .int a3, .int a4, a5, a6, a7] (.ref a0 :: st) M Q) ∧
  (∀ (a0 : Nat) (a1 : Int32) (a2 : Int32) (a3 : Int32) (a4 : Int32) (a5 : Value) (a6 : Value) (a7 : Value) (st : List Value) (M : xM) (Q : Option Value → xM → Prop), xW xSR 164 1 [.ref a0, .int a1, .int a2, .int a3, .int a4, a5, a6, a7] (.ref 0 :: st) M Q = xW xSR 164 4 [.ref a0, .int a1, .int a2, .int a3, .int a4, a5, a6, a7] (.ref 5 :: st) M Q) ∧
  (∀ (a0 : Nat) (a1 : Int32) (a2 : Int32) (a3 : Int32) (a4 : Int32) (a5 : Value) (a6 : Value) (a7 : Value) (st : List Value) (M : xM) (Q : Option Value → xM → Prop), xW xSR 164 4 [.ref a0, .int a1, .int a2, .int a3, .int a4, a5, a6, a7] (st) M Q = xW xSR 164 5 [.ref a0, .int a1, .int a2, .int a3, .int a4, a5, a6, a7] (.int (nI 0) :: st) M Q) ∧
  (∀ (a0 : Nat) (a1 : Int32) (a2 : Int32) (a3 : Int32) (a4 : Int32) (a5 : Value) (a6 : Value) (a7 : Value) (st : List Value) (M : xM) (Q : Option Value → xM → Prop), xW xSR 164 5 [.ref a0, .int a1, .int a2, .int a3, .int a4, a5, a6, a7] (st) M Q = xW xSR 164 6 [.ref a0, .int a1, .int a2, .int a3, .int a4, a5, a6, a7] (.int (nI 1) :: st) M Q) ∧
  (∀ (a0 : Nat) (a1 : Int32) (a2 : Int32) (a3 : Int32) (a4 : Int32) (a5 : Value) (a6 : Value) (a7 : Value) (y0 : Int32) (y1 : Nat) (st : List Value) (M : xM) (Q : Option Value → xM → Prop), y1 < 3 → xW xSR 164 6 [.ref a0, .int a1, .int a2, .int a3, .int a4, a5, a6, a7] (.int y0 :: .int (nI y1) :: .ref 5 :: st) M Q = xW xSR 164 7 [.ref a0, .int a1, .int a2, .int a3, .int a4, a5, a6, a7] (st) (xup M 5 y1 y0) Q) ∧
  (∀ (a0 : Nat) (a1 : Int32) (a2 : Int32) (a3 : Int32) (a4 : Int32) (a5 : Value) (a6 : Value) (a7 : Value) (st : List Value) (M : xM) (Q : Option Value → xM → Prop), xW xSR 164 7 [.ref a0, .int a1, .int a2, .int a3, .int a4, a5, a6, a7] (st) M Q = xW xSR 164 8 [.ref a0, .int a1, .int a2, .int a3, .int a4, a5, a6, a7] (.ref a0 :: st) M Q) ∧
  (∀ (a0 : Nat) (a1 : Int32) (a2 : Int32) (a3 : Int32) (a4 : Int32) (a5 : Value) (a6 : Value) (a7 : Value) (st : List Value) (M : xM) (Q : Option Value → xM → Prop), xW xSR 164 8 [.ref a0, .int a1, .int a2, .int a3, .int a4, a5, a6, a7] (.ref 0 :: st) M Q = xW xSR 164 11 [.ref a0, .int a1, .int a2, .int a3, .int a4, a5, a6, a7] (.ref 5 :: st) M Q) ∧
  (∀ (a0 : Nat) (a1 : Int32) (a2 : Int32) (a3 : Int32) (a4 : Int32) (a5 : Value) (a6 : Value) (a7 : Value) (st : List Value) (M : xM) (Q : Option Value → xM → Prop), xW xSR 164 11 [.ref a0, .int a1, .int a2, .int a3, .int a4, a5, a6, a7] (st) M Q = xW xSR 164 12 [.ref a0, .int a1, .int a2, .int a3, .int a4, a5, a6, a7] (.int (nI 1) :: st) M Q) ∧
  (∀ (a0 : Nat) (a1 : Int32) (a2 : Int32) (a3 : Int32) (a4 : Int32) (a5 : Value) (a6 : Value) (a7 : Value) (st : List Value) (M : xM) (Q : Option Value → xM → Prop), xW xSR 164 12 [.ref a0, .int a1, .int a2, .int a3, .int a4, a5, a6, a7] (st) M Q = xW xSR 164 13 [.ref a0, .int a1, .int a2, .int a3, .int a4, a5, a6, a7] (.int (nI 1) :: st) M Q) ∧
  (∀ (a0 : Nat) (a1 : Int32) (a2 : Int32) (a3 : Int32) (a4 : Int32) (a5 : Value) (a6 : Value) (a7 : Value) (y0 : Int32) (y1 : Nat) (st : List Value) (M : xM) (Q : Option Value → xM → Prop), y1 < 3 → xW xSR 164 13 [.ref a0, .int a1, .int a2, .int a3, .int a4, a5, a6, a7] (.int y0 :: .int (nI y1) :: .ref 5 :: st) M Q = xW xSR 164 14 [.ref a0, .int a1, .int a2, .int a3, .int a4, a5, a6, a7] (st) (xup M 5 y1 y0) Q) ∧
  (∀ (a0 : Nat) (a1 : Int32) (a2 : Int32) (a3 : Int32) (a4 : Int32) (a5 : Value) (a6 : Value) (a7 : Value) (st : List Value) (M : xM) (Q : Option Value → xM → Prop), xW xSR 164 14 [.ref a0, .int a1, .int a2, .int a3, .int a4, a5, a6, a7] (st) M Q = xW xSR 164 15 [.ref a0, .int a1, .int a2, .int a3, .int a4, a5, a6, a7] (.ref a0 :: st) M Q) ∧
  (∀ (a0 : Nat) (a1 : Int32) (a2 : Int32) (a3 : Int32) (a4 : Int32) (a5 : Value) (a6 : Value) (a7 : Value) (st : List Value) (M : xM) (Q : Option Value → xM → Prop), xW xSR 164 15 [.ref a0, .int a1, .int a2, .int a3, .int a4, a5, a6, a7] (.ref 0 :: st) M Q = xW xSR 164 18 [.ref a0, .int a1, .int a2, .int a3, .int a4, a5, a6, a7] (.ref 5 :: st) M Q) ∧
  (∀ (a0 : Nat) (a1 : Int32) (a2 : Int32) (a3 : Int32) (a4 : Int32) (a5 : Value) (a6 : Value) (a7 : Value) (st : List Value) (M : xM) (Q : Option Value → xM → Prop), xW xSR 164 18 [.ref a0, .int a1, .int a2, .int a3, .int a4, a5, a6, a7] (st) M Q = xW xSR 164 19 [.ref a0, .int a1, .int a2, .int a3, .int a4, a5, a6, a7] (.int (nI 2) :: st) M Q) ∧
  (∀ (a0 : Nat) (a1 : Int32) (a2 : Int32) (a3 : Int32) (a4 : Int32) (a5 : Value) (a6 : Value) (a7 : Value) (st : List Value) (M : xM) (Q : Option Value → xM → Prop), xW xSR 164 19 [.ref a0, .int a1, .int a2, .int a3, .int a4, a5, a6, a7] (st) M Q = xW xSR 164 20 [.ref a0, .int a1, .int a2, .int a3, .int a4, a5, a6, a7] (.int (nI 0) :: st) M Q) ∧
  (∀ (a0 : Nat) (a1 : Int32) (a2 : Int32) (a3 : Int32) (a4 : Int32) (a5 : Value) (a6 : Value) (a7 : Value) (y0 : Int32) (y1 : Nat) (st : List Value) (M : xM) (Q : Option Value → xM → Prop), y1 < 3 → xW xSR 164 20 [.ref a0, .int a1, .int a2, .int a3, .int a4, a5, a6, a7] (.int y0 :: .int (nI y1) :: .ref 5 :: st) M Q = xW xSR 164 21 [.ref a0, .int a1, .int a2, .int a3, .int a4, a5, a6, a7] (st) (xup M 5 y1 y0) Q) ∧
  (∀ (a0 : Nat) (a1 : Int32) (a2 : Int32) (a3 : Int32) (a4 : Int32) (a5 : Value) (a6 : Value) (a7 : Value) (st : List Value) (M : xM) (Q : Option Value → xM → Prop), xW xSR 164 21 [.ref a0, .int a1, .int a2, .int a3, .int a4, a5, a6, a7] (st) M Q = xW xSR 164 22 [.ref a0, .int a1, .int a2, .int a3, .int a4, a5, a6, a7] (.ref a0 :: st) M Q) ∧
  (∀ (a0 : Nat) (a1 : Int32) (a2 : Int32) (a3 : Int32) (a4 : Int32) (a5 : Value) (a6 : Value) (a7 : Value) (st : List Value) (M : xM) (Q : Option Value → xM → Prop), xW xSR 164 22 [.ref a0, .int a1, .int a2, .int a3, .int a4, a5, a6, a7] (st) M Q = xW xSR 164 23 [.ref a0, .int a1, .int a2, .int a3, .int a4, a5, a6, a7] (.int a2 :: st) M Q) ∧
  (∀ (a0 : Nat) (a1 : Int32) (a2 : Int32) (a3 : Int32) (a4 : Int32) (a5 : Value) (a6 : Value) (a7 : Value) (st : List Value) (M : xM) (Q : Option Value → xM → Prop), xW xSR 164 23 [.ref a0, .int a1, .int a2, .int a3, .int a4, a5, a6, a7] (st) M Q = xW xSR 164 24 [.ref a0, .int a1, .int a2, .int a3, .int a4, a5, a6, a7] (.int a3 :: st) M Q) ∧
  (∀ (a0 : Nat) (a1 : Int32) (a2 : Int32) (a3 : Int32) (a4 : Int32) (a5 : Value) (a6 : Value) (a7 : Value) (y0 : Int32) (y1 : Int32) (M : xM) (Q : Option Value → xM → Prop), xW xSR 164 24 [.ref a0, .int a1, .int a2, .int a3, .int a4, a5, a6, a7] (.int y0 :: .int y1 :: .ref 0 :: []) M Q = xW xSR 163 0 [.ref 0, .int y1, .int y0, .null, .null, .null] [] M (fun v M' => xW xSR 164 27 [.ref a0, .int a1, .int a2, .int a3, .int a4, a5, a6, a7] (xpush v []) M' Q)) ∧
  (∀ (a0 : Nat) (a1 : Int32) (a2 : Int32) (a3 : Int32) (a4 : Int32) (a5 : Value) (a6 : Value) (a7 : Value) (st : List Value) (M : xM) (Q : Option Value → xM → Prop), xW xSR 164 27 [.ref a0, .int a1, .int a2, .int a3, .int a4, a5, a6, a7] (st) M Q = xW xSR 164 28 [.ref a0, .int a1, .int a2, .int a3, .int a4, a5, a6, a7] (.ref a0 :: st) M Q) ∧
  (∀ (a0 : Nat) (a1 : Int32) (a2 : Int32) (a3 : Int32) (a4 : Int32) (a5 : Value) (a6 : Value) (a7 : Value) (st : List Value) (M : xM) (Q : Option Value → xM → Prop), xW xSR 164 28 [.ref a0, .int a1, .int a2, .int a3, .int a4, a5, a6, a7] (.ref 0 :: st) M Q = xW xSR 164 31 [.ref a0, .int a1, .int a2, .int a3, .int a4, a5, a6, a7] (.ref 5 :: st) M Q) ∧
  (∀ (a0 : Nat) (a1 : Int32) (a2 : Int32) (a3 : Int32) (a4 : Int32) (a5 : Value) (a6 : Value) (a7 : Value) (st : List Value) (M : xM) (Q : Option Value → xM → Prop), xW xSR 164 31 [.ref a0, .int a1, .int a2, .int a3, .int a4, a5, a6, a7] (st) M Q = xW xSR 164 33 [.ref a0, .int a1, .int a2, .int a3, .int a4, a5, a6, a7] (.int a4 :: st) M Q) ∧
  (∀ (a0 : Nat) (a1 : Int32) (a2 : Int32) (a3 : Int32) (a4 : Int32) (a5 : Value) (a6 : Value) (a7 : Value) (y0 : Int32) (st : List Value) (M : xM) (Q : Option Value → xM → Prop), xW xSR 164 33 [.ref a0, .int a1, .int a2, .int a3, .int a4, a5, a6, a7] (.int y0 :: st) M Q = if y0 < nI 0 then xW xSR 164 36 [.ref a0, .int a1, .int a2, .int a3, .int a4, a5, a6, a7] (st) M Q else xW xSR 164 40 [.ref a0, .int a1, .int a2, .int a3, .int a4, a5, a6, a7] (st) M Q) ∧
  (∀ (a0 : Nat) (a1 : Int32) (a2 : Int32) (a3 : Int32) (a4 : Int32) (a5 : Value) (a6 : Value) (a7 : Value) (st : List Value) (M : xM) (Q : Option Value → xM → Prop), xW xSR 164 36 [.ref a0, .int a1, .int a2, .int a3, .int a4, a5, a6, a7] (st) M Q = xW xSR 164 37 [.ref a0, .int a1, .int a2, .int a3, .int a4, a5, a6, a7] (.int (nI 2) :: st) M Q) ∧
  (∀ (a0 : Nat) (a1 : Int32) (a2 : Int32) (a3 : Int32) (a4 : Int32) (a5 : Value) (a6 : Value) (a7 : Value) (st : List Value) (M : xM) (Q : Option Value → xM → Prop), xW xSR 164 37 [.ref a0, .int a1, .int a2, .int a3, .int a4, a5, a6, a7] (st) M Q = xW xSR 164 42 [.ref a0, .int a1, .int a2, .int a3, .int a4, a5, a6, a7] (st) M Q) ∧
  (∀ (a0 : Nat) (a1 : Int32) (a2 : Int32) (a3 : Int32) (a4 : Int32) (a5 : Value) (a6 : Value) (a7 : Value) (st : List Value) (M : xM) (Q : Option Value → xM → Prop), xW xSR 164 40 [.ref a0, .int a1, .int a2, .int a3, .int a4, a5, a6, a7] (st) M Q = xW xSR 164 42 [.ref a0, .int a1, .int a2, .int a3, .int a4, a5, a6, a7] (.int a4 :: st) M Q) ∧
  (∀ (a0 : Nat) (a1 : Int32) (a2 : Int32) (a3 : Int32) (a4 : Int32) (a5 : Value) (a6 : Value) (a7 : Value) (y0 : Nat) (st : List Value) (M : xM) (Q : Option Value → xM → Prop), y0 < 3 → xW xSR 164 43 [.ref a0, .int a1, .int a2, .int a3, .int a4, a5, a6, a7] (.int (nI y0) :: .ref 5 :: st) M Q = xW xSR 164 44 [.ref a0, .int a1, .int a2, .int a3, .int a4, a5, a6, a7] (.int (M 5 y0) :: st) M Q) ∧
  (∀ (a0 : Nat) (a1 : Int32) (a2 : Int32) (a3 : Int32) (a4 : Int32) (a5 : Value) (a6 : Value) (a7 : Value) (st : List Value) (M : xM) (Q : Option Value → xM → Prop), xW xSR 164 44 [.ref a0, .int a1, .int a2, .int a3, .int a4, a5, a6, a7] (st) M Q = xW xSR 164 45 [.ref a0, .int a1, .int a2, .int a3, .int a4, a5, a6, a7] (.ref a0 :: st) M Q) ∧
  (∀ (a0 : Nat) (a1 : Int32) (a2 : Int32) (a3 : Int32) (a4 : Int32) (a5 : Value) (a6 : Value) (a7 : Value) (st : List Value) (M : xM) (Q : Option Value → xM → Prop), xW xSR 164 45 [.ref a0, .int a1, .int a2, .int a3, .int a4, a5, a6, a7] (.ref 0 :: st) M Q = xW xSR 164 48 [.ref a0, .int a1, .int a2, .int a3, .int a4, a5, a6, a7] (.ref 1 :: st) M Q) ∧
  (∀ (a0 : Nat) (a1 : Int32) (a2 : Int32) (a3 : Int32) (a4 : Int32) (a5 : Value) (a6 : Value) (a7 : Value) (st : List Value) (M : xM) (Q : Option Value → xM → Prop), xW xSR 164 48 [.ref a0, .int a1, .int a2, .int a3, .int a4, a5, a6, a7] (st) M Q = xW xSR 164 51 [.ref a0, .int a1, .int a2, .int a3, .int a4, a5, a6, a7] (.int (nI 150) :: st) M Q) ∧
  (∀ (a0 : Nat) (a1 : Int32) (a2 : Int32) (a3 : Int32) (a4 : Int32) (a5 : Value) (a6 : Value) (a7 : Value) (y0 : Nat) (st : List Value) (M : xM) (Q : Option Value → xM → Prop), y0 < 156 → xW xSR 164 51 [.ref a0, .int a1, .int a2, .int a3, .int a4, a5, a6, a7] (.int (nI y0) :: .ref 1 :: st) M Q = xW xSR 164 52 [.ref a0, .int a1, .int a2, .int a3, .int a4, a5, a6, a7] (.int (M 1 y0) :: st) M Q) ∧
  (∀ (a0 : Nat) (a1 : Int32) (a2 : Int32) (a3 : Int32) (a4 : Int32) (a5 : Value) (a6 : Value) (a7 : Value) (y0 : Int32) (y1 : Int32) (st : List Value) (M : xM) (Q : Option Value → xM → Prop), xW xSR 164 52 [.ref a0, .int a1, .int a2, .int a3, .int a4, a5, a6, a7] (.int y0 :: .int y1 :: st) M Q = xW xSR 164 53 [.ref a0, .int a1, .int a2, .int a3, .int a4, a5, a6, a7] (.int (y1 + y0) :: st) M Q) ∧
  (∀ (a0 : Nat) (a1 : Int32) (a2 : Int32) (a3 : Int32) (a4 : Int32) (a5 : Value) (a6 : Value) (a7 : Value) (y0 : Int32) (y1 : Nat) (st : List Value) (M : xM) (Q : Option Value → xM → Prop), y1 < 3 → xW xSR 164 53 [.ref a0, .int a1, .int a2, .int a3, .int a4, a5, a6, a7] (.int y0 :: .int (nI y1) :: .ref 5 :: st) M Q = xW xSR 164 54 [.ref a0, .int a1, .int a2, .int a3, .int a4, a5, a6, a7] (st) (xup M 5 y1 y0) Q) ∧
  (∀ (a0 : Nat) (a1 : Int32) (a2 : Int32) (a3 : Int32) (a4 : Int32) (a5 : Value) (a6 : Value) (a7 : Value) (st : List Value) (M : xM) (Q : Option Value → xM → Prop), xW xSR 164 54 [.ref a0, .int a1, .int a2, .int a3, .int a4, a5, a6, a7] (st) M Q = xW xSR 164 55 [.ref a0, .int a1, .int a2, .int a3, .int a4, a5, a6, a7] (.int (nI 0) :: st) M Q) ∧
  (∀ (a0 : Nat) (a1 : Int32) (a2 : Int32) (a3 : Int32) (a4 : Int32) (a5 : Value) (a6 : Value) (a7 : Value) (y0 : Int32) (st : List Value) (M : xM) (Q : Option Value → xM → Prop), xW xSR 164 55 [.ref a0, .int a1, .int a2, .int a3, .int a4, a5, a6, a7] (.int y0 :: st) M Q = xW xSR 164 57 [.ref a0, .int a1, .int a2, .int a3, .int a4, .int y0, a6, a7] (st) M Q) ∧
  (∀ (a0 : Nat) (a1 : Int32) (a2 : Int32) (a3 : Int32) (a4 : Int32) (a5 : Int32) (a6 : Value) (a7 : Value) (st : List Value) (M : xM) (Q : Option Value → xM → Prop), xW xSR 164 59 [.ref a0, .int a1, .int a2, .int a3, .int a4, .int a5, a6, a7] (st) M Q = xW xSR 164 60 [.ref a0, .int a1, .int a2, .int a3, .int a4, .int a5, a6, a7] (.ref a0 :: st) M Q) ∧
  (∀ (a0 : Nat) (a1 : Int32) (a2 : Int32) (a3 : Int32) (a4 : Int32) (a5 : Int32) (a6 : Value) (a7 : Value) (st : List Value) (M : xM) (Q : Option Value → xM → Prop), xW xSR 164 60 [.ref a0, .int a1, .int a2, .int a3, .int a4, .int a5, a6, a7] (.ref 0 :: st) M Q = xW xSR 164 63 [.ref a0, .int a1, .int a2, .int a3, .int a4, .int a5, a6, a7] (.ref 1 :: st) M Q) ∧
  (∀ (a0 : Nat) (a1 : Int32) (a2 : Int32) (a3 : Int32) (a4 : Int32) (a5 : Int32) (a6 : Value) (a7 : Value) (st : List Value) (M : xM) (Q : Option Value → xM → Prop), xW xSR 164 63 [.ref a0, .int a1, .int a2, .int a3, .int a4, .int a5, a6, a7] (st) M Q = xW xSR 164 64 [.ref a0, .int a1, .int a2, .int a3, .int a4, .int a5, a6, a7] (.int (nI 1) :: st) M Q) ∧
  (∀ (a0 : Nat) (a1 : Int32) (a2 : Int32) (a3 : Int32) (a4 : Int32) (a5 : Int32) (a6 : Value) (a7 : Value) (y0 : Nat) (st : List Value) (M : xM) (Q : Option Value → xM → Prop), y0 < 156 → xW xSR 164 64 [.ref a0, .int a1, .int a2, .int a3, .int a4, .int a5, a6, a7] (.int (nI y0) :: .ref 1 :: st) M Q = xW xSR 164 65 [.ref a0, .int a1, .int a2, .int a3, .int a4, .int a5, a6, a7] (.int (M 1 y0) :: st) M Q) ∧
  (∀ (a0 : Nat) (a1 : Int32) (a2 : Int32) (a3 : Int32) (a4 : Int32) (a5 : Int32) (a6 : Value) (a7 : Value) (y0 : Int32) (y1 : Int32) (st : List Value) (M : xM) (Q : Option Value → xM → Prop), xW xSR 164 65 [.ref a0, .int a1, .int a2, .int a3, .int a4, .int a5, a6, a7] (.int y0 :: .int y1 :: st) M Q = if y1 < y0 then xW xSR 164 68 [.ref a0, .int a1, .int a2, .int a3, .int a4, .int a5, a6, a7] (st) M Q else xW xSR 164 184 [.ref a0, .int a1, .int a2, .int a3, .int a4, .int a5, a6, a7] (st) M Q) ∧
  (∀ (a0 : Nat) (a1 : Int32) (a2 : Int32) (a3 : Int32) (a4 : Int32) (a5 : Int32) (a6 : Value) (a7 : Value) (st : List Value) (M : xM) (Q : Option Value → xM → Prop), xW xSR 164 68 [.ref a0, .int a1, .int a2, .int a3, .int a4, .int a5, a6, a7] (st) M Q = xW xSR 164 69 [.ref a0, .int a1, .int a2, .int a3, .int a4, .int a5, a6, a7] (.int a1 :: st) M Q) ∧
  (∀ (a0 : Nat) (a1 : Int32) (a2 : Int32) (a3 : Int32) (a4 : Int32) (a5 : Int32) (a6 : Value) (a7 : Value) (y0 : Int32) (st : List Value) (M : xM) (Q : Option Value → xM → Prop), xW xSR 164 69 [.ref a0, .int a1, .int a2, .int a3, .int a4, .int a5, a6, a7] (.int y0 :: st) M Q = if y0 < nI 0 then xW xSR 164 184 [.ref a0, .int a1, .int a2, .int a3, .int a4, .int a5, a6, a7] (st) M Q else xW xSR 164 72 [.ref a0, .int a1, .int a2, .int a3, .int a4, .int a5, a6, a7] (st) M Q) ∧
  (∀ (a0 : Nat) (a1 : Int32) (a2 : Int32) (a3 : Int32) (a4 : Int32) (a5 : Int32) (a6 : Value) (a7 : Value) (st : List Value) (M : xM) (Q : Option Value → xM → Prop), xW xSR 164 72 [.ref a0, .int a1, .int a2, .int a3, .int a4, .int a5, a6, a7] (st) M Q = xW xSR 164 73 [.ref a0, .int a1, .int a2, .int a3, .int a4, .int a5, a6, a7] (.int (nI 0) :: st) M Q) ∧
  (∀ (a0 : Nat) (a1 : Int32) (a2 : Int32) (a3 : Int32) (a4 : Int32) (a5 : Int32) (a6 : Value) (a7 : Value) (y0 : Int32) (st : List Value) (M : xM) (Q : Option Value → xM → Prop), xW xSR 164 73 [.ref a0, .int a1, .int a2, .int a3, .int a4, .int a5, a6, a7] (.int y0 :: st) M Q = xW xSR 164 75 [.ref a0, .int a1, .int a2, .int a3, .int a4, .int a5, .int y0, a7] (st) M Q) ∧
  (∀ (a0 : Nat) (a1 : Int32) (a2 : Int32) (a3 : Int32) (a4 : Int32) (a5 : Int32) (a6 : Int32) (a7 : Value) (st : List Value) (M : xM) (Q : Option Value → xM → Prop), xW xSR 164 77 [.ref a0, .int a1, .int a2, .int a3, .int a4, .int a5, .int a6, a7] (st) M Q = xW xSR 164 78 [.ref a0, .int a1, .int a2, .int a3, .int a4, .int a5, .int a6, a7] (.int (nI 2) :: st) M Q) ∧
  (∀ (a0 : Nat) (a1 : Int32) (a2 : Int32) (a3 : Int32) (a4 : Int32) (a5 : Int32) (a6 : Int32) (a7 : Value) (y0 : Int32) (y1 : Int32) (st : List Value) (M : xM) (Q : Option Value → xM → Prop), xW xSR 164 78 [.ref a0, .int a1, .int a2, .int a3, .int a4, .int a5, .int a6, a7] (.int y0 :: .int y1 :: st) M Q = if y1 < y0 then xW xSR 164 81 [.ref a0, .int a1, .int a2, .int a3, .int a4, .int a5, .int a6, a7] (st) M Q else xW xSR 164 178 [.ref a0, .int a1, .int a2, .int a3, .int a4, .int a5, .int a6, a7] (st) M Q) ∧
  (∀ (a0 : Nat) (a1 : Int32) (a2 : Int32) (a3 : Int32) (a4 : Int32) (a5 : Int32) (a6 : Int32) (a7 : Value) (st : List Value) (M : xM) (Q : Option Value → xM → Prop), xW xSR 164 81 [.ref a0, .int a1, .int a2, .int a3, .int a4, .int a5, .int a6, a7] (st) M Q = xW xSR 164 83 [.ref a0, .int a1, .int a2, .int a3, .int a4, .int a5, .int a6, a7] (.int a5 :: st) M Q) ∧
  (∀ (a0 : Nat) (a1 : Int32) (a2 : Int32) (a3 : Int32) (a4 : Int32) (a5 : Int32) (a6 : Int32) (a7 : Value) (st : List Value) (M : xM) (Q : Option Value → xM → Prop), xW xSR 164 83 [.ref a0, .int a1, .int a2, .int a3, .int a4, .int a5, .int a6, a7] (st) M Q = xW xSR 164 84 [.ref a0, .int a1, .int a2, .int a3, .int a4, .int a5, .int a6, a7] (.int a2 :: st) M Q) ∧
  (∀ (a0 : Nat) (a1 : Int32) (a2 : Int32) (a3 : Int32) (a4 : Int32) (a5 : Int32) (a6 : Int32) (a7 : Value) (y0 : Int32) (y1 : Int32) (st : List Value) (M : xM) (Q : Option Value → xM → Prop), xW xSR 164 84 [.ref a0, .int a1, .int a2, .int a3, .int a4, .int a5, .int a6, a7] (.int y0 :: .int y1 :: st) M Q = if y1 = y0 then xW xSR 164 87 [.ref a0, .int a1, .int a2, .int a3, .int a4, .int a5, .int a6, a7] (st) M Q else xW xSR 164 101 [.ref a0, .int a1, .int a2, .int a3, .int a4, .int a5, .int a6, a7] (st) M Q) ∧
  (∀ (a0 : Nat) (a1 : Int32) (a2 : Int32) (a3 : Int32) (a4 : Int32) (a5 : Int32) (a6 : Int32) (a7 : Value) (st : List Value) (M : xM) (Q : Option Value → xM → Prop), xW xSR 164 87 [.ref a0, .int a1, .int a2, .int a3, .int a4, .int a5, .int a6, a7] (st) M Q = xW xSR 164 89 [.ref a0, .int a1, .int a2, .int a3, .int a4, .int a5, .int a6, a7] (.int a6 :: st) M Q) ∧
  (∀ (a0 : Nat) (a1 : Int32) (a2 : Int32) (a3 : Int32) (a4 : Int32) (a5 : Int32) (a6 : Int32) (a7 : Value) (st : List Value) (M : xM) (Q : Option Value → xM → Prop), xW xSR 164 89 [.ref a0, .int a1, .int a2, .int a3, .int a4, .int a5, .int a6, a7] (st) M Q = xW xSR 164 90 [.ref a0, .int a1, .int a2, .int a3, .int a4, .int a5, .int a6, a7] (.int a3 :: st) M Q) ∧
  (∀ (a0 : Nat) (a1 : Int32) (a2 : Int32) (a3 : Int32) (a4 : Int32) (a5 : Int32) (a6 : Int32) (a7 : Value) (y0 : Int32) (y1 : Int32) (st : List Value) (M : xM) (Q : Option Value → xM → Prop), xW xSR 164 90 [.ref a0, .int a1, .int a2, .int a3, .int a4, .int a5, .int a6, a7] (.int y0 :: .int y1 :: st) M Q = if y1 = y0 then xW xSR 164 93 [.ref a0, .int a1, .int a2, .int a3, .int a4, .int a5, .int a6, a7] (st) M Q else xW xSR 164 97 [.ref a0, .int a1, .int a2, .int a3, .int a4, .int a5, .int a6, a7] (st) M Q) ∧
  (∀ (a0 : Nat) (a1 : Int32) (a2 : Int32) (a3 : Int32) (a4 : Int32) (a5 : Int32) (a6 : Int32) (a7 : Value) (st : List Value) (M : xM) (Q : Option Value → xM → Prop), xW xSR 164 93 [.ref a0, .int a1, .int a2, .int a3, .int a4, .int a5, .int a6, a7] (st) M Q = xW xSR 164 94 [.ref a0, .int a1, .int a2, .int a3, .int a4, .int a5, .int a6, a7] (.int (nI 1) :: st) M Q) ∧
  (∀ (a0 : Nat) (a1 : Int32) (a2 : Int32) (a3 : Int32) (a4 : Int32) (a5 : Int32) (a6 : Int32) (a7 : Value) (st : List Value) (M : xM) (Q : Option Value → xM → Prop), xW xSR 164 94 [.ref a0, .int a1, .int a2, .int a3, .int a4, .int a5, .int a6, a7] (st) M Q = xW xSR 164 123 [.ref a0, .int a1, .int a2, .int a3, .int a4, .int a5, .int a6, a7] (st) M Q) ∧
  (∀ (a0 : Nat) (a1 : Int32) (a2 : Int32) (a3 : Int32) (a4 : Int32) (a5 : Int32) (a6 : Int32) (a7 : Value) (st : List Value) (M : xM) (Q : Option Value → xM → Prop), xW xSR 164 97 [.ref a0, .int a1, .int a2, .int a3, .int a4, .int a5, .int a6, a7] (st) M Q = xW xSR 164 98 [.ref a0, .int a1, .int a2, .int a3, .int a4, .int a5, .int a6, a7] (.int (nI 0) :: st) M Q) ∧
  (∀ (a0 : Nat) (a1 : Int32) (a2 : Int32) (a3 : Int32) (a4 : Int32) (a5 : Int32) (a6 : Int32) (a7 : Value) (st : List Value) (M : xM) (Q : Option Value → xM → Prop), xW xSR 164 98 [.ref a0, .int a1, .int a2, .int a3, .int a4, .int a5, .int a6, a7] (st) M Q = xW xSR 164 123 [.ref a0, .int a1, .int a2, .int a3, .int a4, .int a5, .int a6, a7] (st) M Q) ∧
  (∀ (a0 : Nat) (a1 : Int32) (a2 : Int32) (a3 : Int32) (a4 : Int32) (a5 : Int32) (a6 : Int32) (a7 : Value) (st : List Value) (M : xM) (Q : Option Value → xM → Prop), xW xSR 164 101 [.ref a0, .int a1, .int a2, .int a3, .int a4, .int a5, .int a6, a7] (st) M Q = xW xSR 164 102 [.ref a0, .int a1, .int a2, .int a3, .int a4, .int a5, .int a6, a7] (.ref a0 :: st) M Q) ∧
  (∀ (a0 : Nat) (a1 : Int32) (a2 : Int32) (a3 : Int32) (a4 : Int32) (a5 : Int32) (a6 : Int32) (a7 : Value) (st : List Value) (M : xM) (Q : Option Value → xM → Prop), xW xSR 164 102 [.ref a0, .int a1, .int a2, .int a3, .int a4, .int a5, .int a6, a7] (st) M Q = xW xSR 164 104 [.ref a0, .int a1, .int a2, .int a3, .int a4, .int a5, .int a6, a7] (.int a5 :: st) M Q) ∧
  (∀ (a0 : Nat) (a1 : Int32) (a2 : Int32) (a3 : Int32) (a4 : Int32) (a5 : Int32) (a6 : Int32) (a7 : Value) (st : List Value) (M : xM) (Q : Option Value → xM → Prop), xW xSR 164 104 [.ref a0, .int a1, .int a2, .int a3, .int a4, .int a5, .int a6, a7] (st) M Q = xW xSR 164 106 [.ref a0, .int a1, .int a2, .int a3, .int a4, .int a5, .int a6, a7] (.int a6 :: st) M Q) ∧
  (∀ (a0 : Nat) (a1 : Int32) (a2 : Int32) (a3 : Int32) (a4 : Int32) (a5 : Int32) (a6 : Int32) (a7 : Value) (y0 : Int32) (y1 : Int32) (M : xM) (Q : Option Value → xM → Prop), xW xSR 164 106 [.ref a0, .int a1, .int a2, .int a3, .int a4, .int a5, .int a6, a7] (.int y0 :: .int y1 :: .ref 0 :: []) M Q = xW xSR 162 0 [.ref 0, .int y1, .int y0] [] M (fun v M' => xW xSR 164 109 [.ref a0, .int a1, .int a2, .int a3, .int a4, .int a5, .int a6, a7] (xpush v []) M' Q)) ∧
  (∀ (a0 : Nat) (a1 : Int32) (a2 : Int32) (a3 : Int32) (a4 : Int32) (a5 : Int32) (a6 : Int32) (a7 : Value) (st : List Value) (M : xM) (Q : Option Value → xM → Prop), xW xSR 164 109 [.ref a0, .int a1, .int a2, .int a3, .int a4, .int a5, .int a6, a7] (st) M Q = xW xSR 164 110 [.ref a0, .int a1, .int a2, .int a3, .int a4, .int a5, .int a6, a7] (.ref a0 :: st) M Q) ∧
  (∀ (a0 : Nat) (a1 : Int32) (a2 : Int32) (a3 : Int32) (a4 : Int32) (a5 : Int32) (a6 : Int32) (a7 : Value) (st : List Value) (M : xM) (Q : Option Value → xM → Prop), xW xSR 164 110 [.ref a0, .int a1, .int a2, .int a3, .int a4, .int a5, .int a6, a7] (st) M Q = xW xSR 164 111 [.ref a0, .int a1, .int a2, .int a3, .int a4, .int a5, .int a6, a7] (.int a2 :: st) M Q) ∧
  (∀ (a0 : Nat) (a1 : Int32) (a2 : Int32) (a3 : Int32) (a4 : Int32) (a5 : Int32) (a6 : Int32) (a7 : Value) (st : List Value) (M : xM) (Q : Option Value → xM → Prop), xW xSR 164 111 [.ref a0, .int a1, .int a2, .int a3, .int a4, .int a5, .int a6, a7] (st) M Q = xW xSR 164 112 [.ref a0, .int a1, .int a2, .int a3, .int a4, .int a5, .int a6, a7] (.int a3 :: st) M Q) ∧
  (∀ (a0 : Nat) (a1 : Int32) (a2 : Int32) (a3 : Int32) (a4 : Int32) (a5 : Int32) (a6 : Int32) (a7 : Value) (y0 : Int32) (y1 : Int32) (y3 : Int32) (M : xM) (Q : Option Value → xM → Prop), xW xSR 164 112 [.ref a0, .int a1, .int a2, .int a3, .int a4, .int a5, .int a6, a7] (.int y0 :: .int y1 :: .ref 0 :: .int y3 :: []) M Q = xW xSR 162 0 [.ref 0, .int y1, .int y0] [] M (fun v M' => xW xSR 164 115 [.ref a0, .int a1, .int a2, .int a3, .int a4, .int a5, .int a6, a7] (xpush v [.int y3]) M' Q)) ∧
  (∀ (a0 : Nat) (a1 : Int32) (a2 : Int32) (a3 : Int32) (a4 : Int32) (a5 : Int32) (a6 : Int32) (a7 : Value) (y0 : Int32) (y1 : Int32) (st : List Value) (M : xM) (Q : Option Value → xM → Prop), xW xSR 164 115 [.ref a0, .int a1, .int a2, .int a3, .int a4, .int a5, .int a6, a7] (.int y0 :: .int y1 :: st) M Q = if y1 = y0 then xW xSR 164 118 [.ref a0, .int a1, .int a2, .int a3, .int a4, .int a5, .int a6, a7] (st) M Q else xW xSR 164 122 [.ref a0, .int a1, .int a2, .int a3, .int a4, .int a5, .int a6, a7] (st) M Q) ∧
  (∀ (a0 : Nat) (a1 : Int32) (a2 : Int32) (a3 : Int32) (a4 : Int32) (a5 : Int32) (a6 : Int32) (a7 : Value) (st : List Value) (M : xM) (Q : Option Value → xM → Prop), xW xSR 164 118 [.ref a0, .int a1, .int a2, .int a3, .int a4, .int a5, .int a6, a7] (st) M Q = xW xSR 164 119 [.ref a0, .int a1, .int a2, .int a3, .int a4, .int a5, .int a6, a7] (.int (nI 1) :: st) M Q) ∧
  (∀ (a0 : Nat) (a1 : Int32) (a2 : Int32) (a3 : Int32) (a4 : Int32) (a5 : Int32) (a6 : Int32) (a7 : Value) (st : List Value) (M : xM) (Q : Option Value → xM → Prop), xW xSR 164 119 [.ref a0, .int a1, .int a2, .int a3, .int a4, .int a5, .int a6, a7] (st) M Q = xW xSR 164 123 [.ref a0, .int a1, .int a2, .int a3, .int a4, .int a5, .int a6, a7] (st) M Q) ∧
  (∀ (a0 : Nat) (a1 : Int32) (a2 : Int32) (a3 : Int32) (a4 : Int32) (a5 : Int32) (a6 : Int32) (a7 : Value) (st : List Value) (M : xM) (Q : Option Value → xM → Prop), xW xSR 164 122 [.ref a0, .int a1, .int a2, .int a3, .int a4, .int a5, .int a6, a7] (st) M Q = xW xSR 164 123 [.ref a0, .int a1, .int a2, .int a3, .int a4, .int a5, .int a6, a7] (.int (nI 0) :: st) M Q) ∧
  (∀ (a0 : Nat) (a1 : Int32) (a2 : Int32) (a3 : Int32) (a4 : Int32) (a5 : Int32) (a6 : Int32) (a7 : Int32) (st : List Value) (M : xM) (Q : Option Value → xM → Prop), xW xSR 164 125 [.ref a0, .int a1, .int a2, .int a3, .int a4, .int a5, .int a6, .int a7] (st) M Q = xW xSR 164 126 [.ref a0, .int a1, .int a2, .int a3, .int a4, .int a5, .int a6, .int a7] (.ref a0 :: st) M Q) ∧
  (∀ (a0 : Nat) (a1 : Int32) (a2 : Int32) (a3 : Int32) (a4 : Int32) (a5 : Int32) (a6 : Int32) (a7 : Int32) (st : List Value) (M : xM) (Q : Option Value → xM → Prop), xW xSR 164 126 [.ref a0, .int a1, .int a2, .int a3, .int a4, .int a5, .int a6, .int a7] (.ref 0 :: st) M Q = xW xSR 164 129 [.ref a0, .int a1, .int a2, .int a3, .int a4, .int a5, .int a6, .int a7] (.ref 5 :: st) M Q) ∧
  (∀ (a0 : Nat) (a1 : Int32) (a2 : Int32) (a3 : Int32) (a4 : Int32) (a5 : Int32) (a6 : Int32) (a7 : Int32) (st : List Value) (M : xM) (Q : Option Value → xM → Prop), xW xSR 164 129 [.ref a0, .int a1, .int a2, .int a3, .int a4, .int a5, .int a6, .int a7] (st) M Q = xW xSR 164 130 [.ref a0, .int a1, .int a2, .int a3, .int a4, .int a5, .int a6, .int a7] (.ref a0 :: st) M Q) ∧
  (∀ (a0 : Nat) (a1 : Int32) (a2 : Int32) (a3 : Int32) (a4 : Int32) (a5 : Int32) (a6 : Int32) (a7 : Int32) (st : List Value) (M : xM) (Q : Option Value → xM → Prop), xW xSR 164 130 [.ref a0, .int a1, .int a2, .int a3, .int a4, .int a5, .int a6, .int a7] (st) M Q = xW xSR 164 132 [.ref a0, .int a1, .int a2, .int a3, .int a4, .int a5, .int a6, .int a7] (.int a5 :: st) M Q) ∧
  (∀ (a0 : Nat) (a1 : Int32) (a2 : Int32) (a3 : Int32) (a4 : Int32) (a5 : Int32) (a6 : Int32) (a7 : Int32) (st : List Value) (M : xM) (Q : Option Value → xM → Prop), xW xSR 164 132 [.ref a0, .int a1, .int a2, .int a3, .int a4, .int a5, .int a6, .int a7] (st) M Q = xW xSR 164 134 [.ref a0, .int a1, .int a2, .int a3, .int a4, .int a5, .int a6, .int a7] (.int a6 :: st) M Q) ∧
  (∀ (a0 : Nat) (a1 : Int32) (a2 : Int32) (a3 : Int32) (a4 : Int32) (a5 : Int32) (a6 : Int32) (a7 : Int32) (y0 : Int32) (y1 : Int32) (y3 : Nat) (M : xM) (Q : Option Value → xM → Prop), xW xSR 164 134 [.ref a0, .int a1, .int a2, .int a3, .int a4, .int a5, .int a6, .int a7] (.int y0 :: .int y1 :: .ref 0 :: .ref y3 :: []) M Q = xW xSR 161 0 [.ref 0, .int y1, .int y0, .null] [] M (fun v M' => xW xSR 164 137 [.ref a0, .int a1, .int a2, .int a3, .int a4, .int a5, .int a6, .int a7] (xpush v [.ref y3]) M' Q)) ∧
  (∀ (a0 : Nat) (a1 : Int32) (a2 : Int32) (a3 : Int32) (a4 : Int32) (a5 : Int32) (a6 : Int32) (a7 : Int32) (y0 : Int32) (y1 : Nat) (st : List Value) (M : xM) (Q : Option Value → xM → Prop), xW xSR 164 137 [.ref a0, .int a1, .int a2, .int a3, .int a4, .int a5, .int a6, .int a7] (.int y0 :: .ref y1 :: st) M Q = xW xSR 164 138 [.ref a0, .int a1, .int a2, .int a3, .int a4, .int a5, .int a6, .int a7] (.int y0 :: .ref y1 :: .int y0 :: .ref y1 :: st) M Q) ∧
  (∀ (a0 : Nat) (a1 : Int32) (a2 : Int32) (a3 : Int32) (a4 : Int32) (a5 : Int32) (a6 : Int32) (a7 : Int32) (y0 : Nat) (st : List Value) (M : xM) (Q : Option Value → xM → Prop), y0 < 3 → xW xSR 164 138 [.ref a0, .int a1, .int a2, .int a3, .int a4, .int a5, .int a6, .int a7] (.int (nI y0) :: .ref 5 :: st) M Q = xW xSR 164 139 [.ref a0, .int a1, .int a2, .int a3, .int a4, .int a5, .int a6, .int a7] (.int (M 5 y0) :: st) M Q) ∧
  (∀ (a0 : Nat) (a1 : Int32) (a2 : Int32) (a3 : Int32) (a4 : Int32) (a5 : Int32) (a6 : Int32) (a7 : Int32) (st : List Value) (M : xM) (Q : Option Value → xM → Prop), xW xSR 164 139 [.ref a0, .int a1, .int a2, .int a3, .int a4, .int a5, .int a6, .int a7] (st) M Q = xW xSR 164 141 [.ref a0, .int a1, .int a2, .int a3, .int a4, .int a5, .int a6, .int a7] (.int a7 :: st) M Q) ∧
  (∀ (a0 : Nat) (a1 : Int32) (a2 : Int32) (a3 : Int32) (a4 : Int32) (a5 : Int32) (a6 : Int32) (a7 : Int32) (y0 : Int32) (st : List Value) (M : xM) (Q : Option Value → xM → Prop), xW xSR 164 141 [.ref a0, .int a1, .int a2, .int a3, .int a4, .int a5, .int a6, .int a7] (.int y0 :: st) M Q = if y0 = nI 0 then xW xSR 164 169 [.ref a0, .int a1, .int a2, .int a3, .int a4, .int a5, .int a6, .int a7] (st) M Q else xW xSR 164 144 [.ref a0, .int a1, .int a2, .int a3, .int a4, .int a5, .int a6, .int a7] (st) M Q) ∧
  (∀ (a0 : Nat) (a1 : Int32) (a2 : Int32) (a3 : Int32) (a4 : Int32) (a5 : Int32) (a6 : Int32) (a7 : Int32) (st : List Value) (M : xM) (Q : Option Value → xM → Prop), xW xSR 164 144 [.ref a0, .int a1, .int a2, .int a3, .int a4, .int a5, .int a6, .int a7] (st) M Q = xW xSR 164 145 [.ref a0, .int a1, .int a2, .int a3, .int a4, .int a5, .int a6, .int a7] (.ref a0 :: st) M Q) ∧
  (∀ (a0 : Nat) (a1 : Int32) (a2 : Int32) (a3 : Int32) (a4 : Int32) (a5 : Int32) (a6 : Int32) (a7 : Int32) (st : List Value) (M : xM) (Q : Option Value → xM → Prop), xW xSR 164 145 [.ref a0, .int a1, .int a2, .int a3, .int a4, .int a5, .int a6, .int a7] (.ref 0 :: st) M Q = xW xSR 164 148 [.ref a0, .int a1, .int a2, .int a3, .int a4, .int a5, .int a6, .int a7] (.ref 1 :: st) M Q) ∧
  (∀ (a0 : Nat) (a1 : Int32) (a2 : Int32) (a3 : Int32) (a4 : Int32) (a5 : Int32) (a6 : Int32) (a7 : Int32) (st : List Value) (M : xM) (Q : Option Value → xM → Prop), xW xSR 164 148 [.ref a0, .int a1, .int a2, .int a3, .int a4, .int a5, .int a6, .int a7] (st) M Q = xW xSR 164 149 [.ref a0, .int a1, .int a2, .int a3, .int a4, .int a5, .int a6, .int a7] (.int a1 :: st) M Q) ∧
  (∀ (a0 : Nat) (a1 : Int32) (a2 : Int32) (a3 : Int32) (a4 : Int32) (a5 : Int32) (a6 : Int32) (a7 : Int32) (st : List Value) (M : xM) (Q : Option Value → xM → Prop), xW xSR 164 149 [.ref a0, .int a1, .int a2, .int a3, .int a4, .int a5, .int a6, .int a7] (st) M Q = xW xSR 164 151 [.ref a0, .int a1, .int a2, .int a3, .int a4, .int a5, .int a6, .int a7] (.int a5 :: st) M Q) ∧
  (∀ (a0 : Nat) (a1 : Int32) (a2 : Int32) (a3 : Int32) (a4 : Int32) (a5 : Int32) (a6 : Int32) (a7 : Int32) (st : List Value) (M : xM) (Q : Option Value → xM → Prop), xW xSR 164 151 [.ref a0, .int a1, .int a2, .int a3, .int a4, .int a5, .int a6, .int a7] (st) M Q = xW xSR 164 153 [.ref a0, .int a1, .int a2, .int a3, .int a4, .int a5, .int a6, .int a7] (.int a6 :: st) M Q) ∧
  (∀ (a0 : Nat) (a1 : Int32) (a2 : Int32) (a3 : Int32) (a4 : Int32) (a5 : Int32) (a6 : Int32) (a7 : Int32) (y0 : Int32) (y1 : Int32) (y2 : Int32) (y3 : Nat) (y4 : Int32) (y5 : Int32) (y6 : Nat) (M : xM) (Q : Option Value → xM → Prop), xW xSR 164 153 [.ref a0, .int a1, .int a2, .int a3, .int a4, .int a5, .int a6, .int a7] (.int y0 :: .int y1 :: .int y2 :: .ref y3 :: .int y4 :: .int y5 :: .ref y6 :: []) M Q = xW xSR 158 0 [.int y2, .int y1, .int y0] [] M (fun v M' => xW xSR 164 156 [.ref a0, .int a1, .int a2, .int a3, .int a4, .int a5, .int a6, .int a7] (xpush v [.ref y3, .int y4, .int y5, .ref y6]) M' Q)) ∧
  (∀ (a0 : Nat) (a1 : Int32) (a2 : Int32) (a3 : Int32) (a4 : Int32) (a5 : Int32) (a6 : Int32) (a7 : Int32) (y0 : Nat) (st : List Value) (M : xM) (Q : Option Value → xM → Prop), y0 < 156 → xW xSR 164 156 [.ref a0, .int a1, .int a2, .int a3, .int a4, .int a5, .int a6, .int a7] (.int (nI y0) :: .ref 1 :: st) M Q = xW xSR 164 157 [.ref a0, .int a1, .int a2, .int a3, .int a4, .int a5, .int a6, .int a7] (.int (M 1 y0) :: st) M Q) ∧
  (∀ (a0 : Nat) (a1 : Int32) (a2 : Int32) (a3 : Int32) (a4 : Int32) (a5 : Int32) (a6 : Int32) (a7 : Int32) (st : List Value) (M : xM) (Q : Option Value → xM → Prop), xW xSR 164 157 [.ref a0, .int a1, .int a2, .int a3, .int a4, .int a5, .int a6, .int a7] (st) M Q = xW xSR 164 158 [.ref a0, .int a1, .int a2, .int a3, .int a4, .int a5, .int a6, .int a7] (.ref a0 :: st) M Q) ∧
  (∀ (a0 : Nat) (a1 : Int32) (a2 : Int32) (a3 : Int32) (a4 : Int32) (a5 : Int32) (a6 : Int32) (a7 : Int32) (st : List Value) (M : xM) (Q : Option Value → xM → Prop), xW xSR 164 158 [.ref a0, .int a1, .int a2, .int a3, .int a4, .int a5, .int a6, .int a7] (.ref 0 :: st) M Q = xW xSR 164 161 [.ref a0, .int a1, .int a2, .int a3, .int a4, .int a5, .int a6, .int a7] (.ref 1 :: st) M Q) ∧
  (∀ (a0 : Nat) (a1 : Int32) (a2 : Int32) (a3 : Int32) (a4 : Int32) (a5 : Int32) (a6 : Int32) (a7 : Int32) (st : List Value) (M : xM) (Q : Option Value → xM → Prop), xW xSR 164 161 [.ref a0, .int a1, .int a2, .int a3, .int a4, .int a5, .int a6, .int a7] (st) M Q = xW xSR 164 164 [.ref a0, .int a1, .int a2, .int a3, .int a4, .int a5, .int a6, .int a7] (.int (nI 151) :: st) M Q) ∧
  (∀ (a0 : Nat) (a1 : Int32) (a2 : Int32) (a3 : Int32) (a4 : Int32) (a5 : Int32) (a6 : Int32) (a7 : Int32) (y0 : Nat) (st : List Value) (M : xM) (Q : Option Value → xM → Prop), y0 < 156 → xW xSR 164 164 [.ref a0, .int a1, .int a2, .int a3, .int a4, .int a5, .int a6, .int a7] (.int (nI y0) :: .ref 1 :: st) M Q = xW xSR 164 165 [.ref a0, .int a1, .int a2, .int a3, .int a4, .int a5, .int a6, .int a7] (.int (M 1 y0) :: st) M Q) ∧
  (∀ (a0 : Nat) (a1 : Int32) (a2 : Int32) (a3 : Int32) (a4 : Int32) (a5 : Int32) (a6 : Int32) (a7 : Int32) (y0 : Int32) (y1 : Int32) (st : List Value) (M : xM) (Q : Option Value → xM → Prop), xW xSR 164 165 [.ref a0, .int a1, .int a2, .int a3, .int a4, .int a5, .int a6, .int a7] (.int y0 :: .int y1 :: st) M Q = xW xSR 164 166 [.ref a0, .int a1, .int a2, .int a3, .int a4, .int a5, .int a6, .int a7] (.int (y1 * y0) :: st) M Q) ∧
  (∀ (a0 : Nat) (a1 : Int32) (a2 : Int32) (a3 : Int32) (a4 : Int32) (a5 : Int32) (a6 : Int32) (a7 : Int32) (st : List Value) (M : xM) (Q : Option Value → xM → Prop), xW xSR 164 166 [.ref a0, .int a1, .int a2, .int a3, .int a4, .int a5, .int a6, .int a7] (st) M Q = xW xSR 164 170 [.ref a0, .int a1, .int a2, .int a3, .int a4, .int a5, .int a6, .int a7] (st) M Q) ∧
  (∀ (a0 : Nat) (a1 : Int32) (a2 : Int32) (a3 : Int32) (a4 : Int32) (a5 : Int32) (a6 : Int32) (a7 : Int32) (st : List Value) (M : xM) (Q : Option Value → xM → Prop), xW xSR 164 169 [.ref a0, .int a1, .int a2, .int a3, .int a4, .int a5, .int a6, .int a7] (st) M Q = xW xSR 164 170 [.ref a0, .int a1, .int a2, .int a3, .int a4, .int a5, .int a6, .int a7] (.int (nI 0) :: st) M Q) ∧
  (∀ (a0 : Nat) (a1 : Int32) (a2 : Int32) (a3 : Int32) (a4 : Int32) (a5 : Int32) (a6 : Int32) (a7 : Int32) (y0 : Int32) (y1 : Nat) (st : List Value) (M : xM) (Q : Option Value → xM → Prop), y1 < 3 → xW xSR 164 171 [.ref a0, .int a1, .int a2, .int a3, .int a4, .int a5, .int a6, .int a7] (.int y0 :: .int (nI y1) :: .ref 5 :: st) M Q = xW xSR 164 172 [.ref a0, .int a1, .int a2, .int a3, .int a4, .int a5, .int a6, .int a7] (st) (xup M 5 y1 y0) Q) ∧
  (∀ (a0 : Nat) (a1 : Int32) (a2 : Int32) (a3 : Int32) (a4 : Int32) (a5 : Int32) (a6 : Int32) (a7 : Int32) (st : List Value) (M : xM) (Q : Option Value → xM → Prop), xW xSR 164 172 [.ref a0, .int a1, .int a2, .int a3, .int a4, .int a5, .int a6, .int a7] (st) M Q = xW xSR 164 175 [.ref a0, .int a1, .int a2, .int a3, .int a4, .int a5, .int (a6 + nI 1), .int a7] (st) M Q) ∧
  (∀ (a0 : Nat) (a1 : Int32) (a2 : Int32) (a3 : Int32) (a4 : Int32) (a5 : Int32) (a6 : Int32) (a7 : Int32) (st : List Value) (M : xM) (Q : Option Value → xM → Prop), xW xSR 164 175 [.ref a0, .int a1, .int a2, .int a3, .int a4, .int a5, .int a6, .int a7] (st) M Q = xW xSR 164 75 [.ref a0, .int a1, .int a2, .int a3, .int a4, .int a5, .int a6, .int a7] (st) M Q) ∧
  (∀ (a0 : Nat) (a1 : Int32) (a2 : Int32) (a3 : Int32) (a4 : Int32) (a5 : Int32) (a6 : Int32) (a7 : Value) (st : List Value) (M : xM) (Q : Option Value → xM → Prop), xW xSR 164 178 [.ref a0, .int a1, .int a2, .int a3, .int a4, .int a5, .int a6, a7] (st) M Q = xW xSR 164 181 [.ref a0, .int a1, .int a2, .int a3, .int a4, .int (a5 + nI 1), .int a6, a7] (st) M Q) ∧
  (∀ (a0 : Nat) (a1 : Int32) (a2 : Int32) (a3 : Int32) (a4 : Int32) (a5 : Int32) (a6 : Int32) (a7 : Value) (st : List Value) (M : xM) (Q : Option Value → xM → Prop), xW xSR 164 181 [.ref a0, .int a1, .int a2, .int a3, .int a4, .int a5, .int a6, a7] (st) M Q = xW xSR 164 57 [.ref a0, .int a1, .int a2, .int a3, .int a4, .int a5, .int a6, a7] (st) M Q) :=
  ⟨fun a0 a1 a2 a3 a4 a5 a6 a7 st M Q => xw_s rfl rfl,
  fun a0 a1 a2 a3 a4 a5 a6 a7 st M Q => xw_s rfl rfl,
  fun a0 a1 a2 a3 a4 a5 a6 a7 st M Q => xw_s rfl rfl,
  fun a0 a1 a2 a3 a4 a5 a6 a7 st M Q => xw_s rfl rfl,
  fun a0 a1 a2 a3 a4 a5 a6 a7 y0 y1 st M Q h0 => xw_ast (f := fun x => x) rfl rfl rfl (by decide) h0,
  fun a0 a1 a2 a3 a4 a5 a6 a7 st M Q => xw_s rfl rfl,
  fun a0 a1 a2 a3 a4 a5 a6 a7 st M Q => xw_s rfl rfl,
  fun a0 a1 a2 a3 a4 a5 a6 a7 st M Q => xw_s rfl rfl,
  fun a0 a1 a2 a3 a4 a5 a6 a7 st M Q => xw_s rfl rfl,
  fun a0 a1 a2 a3 a4 a5 a6 a7 y0 y1 st M Q h0 => xw_ast (f := fun x => x) rfl rfl rfl (by decide) h0,
  fun a0 a1 a2 a3 a4 a5 a6 a7 st M Q => xw_s rfl rfl,
  fun a0 a1 a2 a3 a4 a5 a6 a7 st M Q => xw_s rfl rfl,
  fun a0 a1 a2 a3 a4 a5 a6 a7 st M Q => xw_s rfl rfl,
  fun a0 a1 a2 a3 a4 a5 a6 a7 st M Q => xw_s rfl rfl,
  fun a0 a1 a2 a3 a4 a5 a6 a7 y0 y1 st M Q h0 => xw_ast (f := fun x => x) rfl rfl rfl (by decide) h0,
  fun a0 a1 a2 a3 a4 a5 a6 a7 st M Q => xw_s rfl rfl,
  fun a0 a1 a2 a3 a4 a5 a6 a7 st M Q => xw_s rfl rfl,
  fun a0 a1 a2 a3 a4 a5 a6 a7 st M Q => xw_s rfl rfl,
  fun a0 a1 a2 a3 a4 a5 a6 a7 y0 y1 M Q => xw_call rfl rfl rfl,
  fun a0 a1 a2 a3 a4 a5 a6 a7 st M Q => xw_s rfl rfl,
  fun a0 a1 a2 a3 a4 a5 a6 a7 st M Q => xw_s rfl rfl,
  fun a0 a1 a2 a3 a4 a5 a6 a7 st M Q => xw_s rfl rfl,
  fun a0 a1 a2 a3 a4 a5 a6 a7 y0 st M Q => xw_brn (c0 := nI 0 ≤ y0) (c1 := y0 < nI 0) rfl rfl (xge _ _),
  fun a0 a1 a2 a3 a4 a5 a6 a7 st M Q => xw_s rfl rfl,
  fun a0 a1 a2 a3 a4 a5 a6 a7 st M Q => xw_s rfl rfl,
  fun a0 a1 a2 a3 a4 a5 a6 a7 st M Q => xw_s rfl rfl,
  fun a0 a1 a2 a3 a4 a5 a6 a7 y0 st M Q h0 => xw_ald rfl rfl rfl (by decide) h0,
  fun a0 a1 a2 a3 a4 a5 a6 a7 st M Q => xw_s rfl rfl,
  fun a0 a1 a2 a3 a4 a5 a6 a7 st M Q => xw_s rfl rfl,
  fun a0 a1 a2 a3 a4 a5 a6 a7 st M Q => xw_s rfl rfl,
  fun a0 a1 a2 a3 a4 a5 a6 a7 y0 st M Q h0 => xw_ald rfl rfl rfl (by decide) h0,
  fun a0 a1 a2 a3 a4 a5 a6 a7 y0 y1 st M Q => xw_s rfl rfl,
  fun a0 a1 a2 a3 a4 a5 a6 a7 y0 y1 st M Q h0 => xw_ast (f := fun x => x) rfl rfl rfl (by decide) h0,
  fun a0 a1 a2 a3 a4 a5 a6 a7 st M Q => xw_s rfl rfl,
  fun a0 a1 a2 a3 a4 a5 a6 a7 y0 st M Q => xw_s rfl rfl,
  fun a0 a1 a2 a3 a4 a5 a6 a7 st M Q => xw_s rfl rfl,
  fun a0 a1 a2 a3 a4 a5 a6 a7 st M Q => xw_s rfl rfl,
  fun a0 a1 a2 a3 a4 a5 a6 a7 st M Q => xw_s rfl rfl,
  fun a0 a1 a2 a3 a4 a5 a6 a7 y0 st M Q h0 => xw_ald rfl rfl rfl (by decide) h0,
  fun a0 a1 a2 a3 a4 a5 a6 a7 y0 y1 st M Q => xw_brn (c0 := y0 ≤ y1) (c1 := y1 < y0) rfl rfl (xge _ _),
  fun a0 a1 a2 a3 a4 a5 a6 a7 st M Q => xw_s rfl rfl,
  fun a0 a1 a2 a3 a4 a5 a6 a7 y0 st M Q => xw_br (c0 := y0 < nI 0) rfl rfl,
  fun a0 a1 a2 a3 a4 a5 a6 a7 st M Q => xw_s rfl rfl,
  fun a0 a1 a2 a3 a4 a5 a6 a7 y0 st M Q => xw_s rfl rfl,
  fun a0 a1 a2 a3 a4 a5 a6 a7 st M Q => xw_s rfl rfl,
  fun a0 a1 a2 a3 a4 a5 a6 a7 y0 y1 st M Q => xw_brn (c0 := y0 ≤ y1) (c1 := y1 < y0) rfl rfl (xge _ _),
  fun a0 a1 a2 a3 a4 a5 a6 a7 st M Q => xw_s rfl rfl,
  fun a0 a1 a2 a3 a4 a5 a6 a7 st M Q => xw_s rfl rfl,
  fun a0 a1 a2 a3 a4 a5 a6 a7 y0 y1 st M Q => xw_brn (c0 := y1 ≠ y0) (c1 := y1 = y0) rfl rfl (Iff.rfl),
  fun a0 a1 a2 a3 a4 a5 a6 a7 st M Q => xw_s rfl rfl,
  fun a0 a1 a2 a3 a4 a5 a6 a7 st M Q => xw_s rfl rfl,
  fun a0 a1 a2 a3 a4 a5 a6 a7 y0 y1 st M Q => xw_brn (c0 := y1 ≠ y0) (c1 := y1 = y0) rfl rfl (Iff.rfl),
  fun a0 a1 a2 a3 a4 a5 a6 a7 st M Q => xw_s rfl rfl,
  fun a0 a1 a2 a3 a4 a5 a6 a7 st M Q => xw_s rfl rfl,
  fun a0 a1 a2 a3 a4 a5 a6 a7 st M Q => xw_s rfl rfl,
  fun a0 a1 a2 a3 a4 a5 a6 a7 st M Q => xw_s rfl rfl,
  fun a0 a1 a2 a3 a4 a5 a6 a7 st M Q => xw_s rfl rfl,
  fun a0 a1 a2 a3 a4 a5 a6 a7 st M Q => xw_s rfl rfl,
  fun a0 a1 a2 a3 a4 a5 a6 a7 st M Q => xw_s rfl rfl,
  fun a0 a1 a2 a3 a4 a5 a6 a7 y0 y1 M Q => xw_call rfl rfl rfl,
  fun a0 a1 a2 a3 a4 a5 a6 a7 st M Q => xw_s rfl rfl,
  fun a0 a1 a2 a3 a4 a5 a6 a7 st M Q => xw_s rfl rfl,
  fun a0 a1 a2 a3 a4 a5 a6 a7 st M Q => xw_s rfl rfl,
  fun a0 a1 a2 a3 a4 a5 a6 a7 y0 y1 y3 M Q => xw_call rfl rfl rfl,
  fun a0 a1 a2 a3 a4 a5 a6 a7 y0 y1 st M Q => xw_brn (c0 := y1 ≠ y0) (c1 := y1 = y0) rfl rfl (Iff.rfl),
  fun a0 a1 a2 a3 a4 a5 a6 a7 st M Q => xw_s rfl rfl,
  fun a0 a1 a2 a3 a4 a5 a6 a7 st M Q => xw_s rfl rfl,
  fun a0 a1 a2 a3 a4 a5 a6 a7 st M Q => xw_s rfl rfl,
  fun a0 a1 a2 a3 a4 a5 a6 a7 st M Q => xw_s rfl rfl,
  fun a0 a1 a2 a3 a4 a5 a6 a7 st M Q => xw_s rfl rfl,
  fun a0 a1 a2 a3 a4 a5 a6 a7 st M Q => xw_s rfl rfl,
  fun a0 a1 a2 a3 a4 a5 a6 a7 st M Q => xw_s rfl rfl,
  fun a0 a1 a2 a3 a4 a5 a6 a7 st M Q => xw_s rfl rfl,
  fun a0 a1 a2 a3 a4 a5 a6 a7 y0 y1 y3 M Q => xw_call rfl rfl rfl,
  fun a0 a1 a2 a3 a4 a5 a6 a7 y0 y1 st M Q => xw_s rfl rfl,
  fun a0 a1 a2 a3 a4 a5 a6 a7 y0 st M Q h0 => xw_ald rfl rfl rfl (by decide) h0,
  fun a0 a1 a2 a3 a4 a5 a6 a7 st M Q => xw_s rfl rfl,
  fun a0 a1 a2 a3 a4 a5 a6 a7 y0 st M Q => xw_br (c0 := y0 = nI 0) rfl rfl,
  fun a0 a1 a2 a3 a4 a5 a6 a7 st M Q => xw_s rfl rfl,
  fun a0 a1 a2 a3 a4 a5 a6 a7 st M Q => xw_s rfl rfl,
  fun a0 a1 a2 a3 a4 a5 a6 a7 st M Q => xw_s rfl rfl,
  fun a0 a1 a2 a3 a4 a5 a6 a7 st M Q => xw_s rfl rfl,
  fun a0 a1 a2 a3 a4 a5 a6 a7 st M Q => xw_s rfl rfl,
  fun a0 a1 a2 a3 a4 a5 a6 a7 y0 y1 y2 y3 y4 y5 y6 M Q => xw_call rfl rfl rfl,
  fun a0 a1 a2 a3 a4 a5 a6 a7 y0 st M Q h0 => xw_ald rfl rfl rfl (by decide) h0,
  fun a0 a1 a2 a3 a4 a5 a6 a7 st M Q => xw_s rfl rfl,
  fun a0 a1 a2 a3 a4 a5 a6 a7 st M Q => xw_s rfl rfl,
  fun a0 a1 a2 a3 a4 a5 a6 a7 st M Q => xw_s rfl rfl,
  fun a0 a1 a2 a3 a4 a5 a6 a7 y0 st M Q h0 => xw_ald rfl rfl rfl (by decide) h0,
  fun a0 a1 a2 a3 a4 a5 a6 a7 y0 y1 st M Q => xw_s rfl rfl,
  fun a0 a1 a2 a3 a4 a5 a6 a7 st M Q => xw_s rfl rfl,
  fun a0 a1 a2 a3 a4 a5 a6 a7 st M Q => xw_s rfl rfl,
  fun a0 a1 a2 a3 a4 a5 a6 a7 y0 y1 st M Q h0 => xw_ast (f := fun x => x) rfl rfl rfl (by decide) h0,
  fun a0 a1 a2 a3 a4 a5 a6 a7 st M Q => xw_s rfl rfl,
  fun a0 a1 a2 a3 a4 a5 a6 a7 st M Q => xw_s rfl rfl,
  fun a0 a1 a2 a3 a4 a5 a6 a7 st M Q => xw_s rfl rfl,
  fun a0 a1 a2 a3 a4 a5 a6 a7 st M Q => xw_s rfl rfl⟩
set_option maxRecDepth 20000 in
theorem h164_42 :
  (∀ (a0 : Nat) (a1 : Int32) (a2 : Int32) (a3 : Int32) (a4 : Int32) (a5 : Value) (a6 : Value) (a7 : Value) (y0 : Int32) (y1 : Nat) (st : List Value) (M : xM) (Q : Option Value → xM → Prop), xW xSR 164 42 [.ref a0, .int a1, .int a2, .int a3, .int a4, a5, a6, a7] (.int y0 :: .ref y1 :: st) M Q = xW xSR 164 43 [.ref a0, .int a1, .int a2, .int a3, .int a4, a5, a6, a7] (.int y0 :: .ref y1 :: .int y0 :: .ref y1 :: st) M Q) :=
  fun a0 a1 a2 a3 a4 a5 a6 a7 y0 y1 st M Q => xw_s rfl rfl
set_option maxRecDepth 20000 in
theorem h164_57 :
  (∀ (a0 : Nat) (a1 : Int32) (a2 : Int32) (a3 : Int32) (a4 : Int32) (a5 : Int32) (a6 : Value) (a7 : Value) (st : List Value) (M : xM) (Q : Option Value → xM → Prop), xW xSR 164 57 [.ref a0, .int a1, .int a2, .int a3, .int a4, .int a5, a6, a7] (st) M Q = xW xSR 164 59 [.ref a0, .int a1, .int a2, .int a3, .int a4, .int a5, a6, a7] (.int a5 :: st) M Q) :=
  fun a0 a1 a2 a3 a4 a5 a6 a7 st M Q => xw_s rfl rfl
set_option maxRecDepth 20000 in
theorem h164_75 :
  (∀ (a0 : Nat) (a1 : Int32) (a2 : Int32) (a3 : Int32) (a4 : Int32) (a5 : Int32) (a6 : Int32) (a7 : Value) (st : List Value) (M : xM) (Q : Option Value → xM → Prop), xW xSR 164 75 [.ref a0, .int a1, .int a2, .int a3, .int a4, .int a5, .int a6, a7] (st) M Q = xW xSR 164 77 [.ref a0, .int a1, .int a2, .int a3, .int a4, .int a5, .int a6, a7] (.int a6 :: st) M Q) :=
  fun a0 a1 a2 a3 a4 a5 a6 a7 st M Q => xw_s rfl rfl
set_option maxRecDepth 20000 in
theorem h164_123 :
  (∀ (a0 : Nat) (a1 : Int32) (a2 : Int32) (a3 : Int32) (a4 : Int32) (a5 : Int32) (a6 : Int32) (a7 : Value) (y0 : Int32) (st : List Value) (M : xM) (Q : Option Value → xM → Prop), xW xSR 164 123 [.ref a0, .int a1, .int a2, .int a3, .int a4, .int a5, .int a6, a7] (.int y0 :: st) M Q = xW xSR 164 125 [.ref a0, .int a1, .int a2, .int a3, .int a4, .int a5, .int a6, .int y0] (st) M Q) :=
  fun a0 a1 a2 a3 a4 a5 a6 a7 y0 st M Q => xw_s rfl rfl
set_option maxRecDepth 20000 in
theorem h164_170 :
  (∀ (a0 : Nat) (a1 : Int32) (a2 : Int32) (a3 : Int32) (a4 : Int32) (a5 : Int32) (a6 : Int32) (a7 : Int32) (y0 : Int32) (y1 : Int32) (st : List Value) (M : xM) (Q : Option Value → xM → Prop), xW xSR 164 170 [.ref a0, .int a1, .int a2, .int a3, .int a4, .int a5, .int a6, .int a7] (.int y0 :: .int y1 :: st) M Q = xW xSR 164 171 [.ref a0, .int a1, .int a2, .int a3, .int a4, .int a5, .int a6, .int a7] (.int (y1 + y0) :: st) M Q) :=
  fun a0 a1 a2 a3 a4 a5 a6 a7 y0 y1 st M Q => xw_s rfl rfl
set_option maxRecDepth 20000 in
theorem h164_184 :
  (∀ (a0 : Nat) (a1 : Int32) (a2 : Int32) (a3 : Int32) (a4 : Int32) (a5 : Int32) (a6 : Value) (a7 : Value) (M : xM) (Q : Option Value → xM → Prop), xW xSR 164 184 [.ref a0, .int a1, .int a2, .int a3, .int a4, .int a5, a6, a7] ([]) M Q = Q none M) :=
  fun a0 a1 a2 a3 a4 a5 a6 a7 M Q => xw_retv rfl rfl
set_option maxRecDepth 20000 in
theorem j164 :
  (∀ (a0 : Nat) (a1 : Int32) (a2 : Int32) (a3 : Int32) (a4 : Int32) (a5 : Value) (a6 : Value) (a7 : Value) (y0 : Int32) (y1 : Nat) (st : List Value) (M : xM) (Q : Option Value → xM → Prop), xW xSR 164 42 [.ref a0, .int a1, .int a2, .int a3, .int a4, a5, a6, a7] (.int y0 :: .ref y1 :: st) M Q = xW xSR 164 43 [.ref a0, .int a1, .int a2, .int a3, .int a4, a5, a6, a7] (.int y0 :: .ref y1 :: .int y0 :: .ref y1 :: st) M Q) ∧
  (∀ (a0 : Nat) (a1 : Int32) (a2 : Int32) (a3 : Int32) (a4 : Int32) (a5 : Int32) (a6 : Int32) (a7 : Value) (y0 : Int32) (st : List Value) (M : xM) (Q : Option Value → xM → Prop), xW xSR 164 123 [.ref a0, .int a1, .int a2, .int a3, .int a4, .int a5, .int a6, a7] (.int y0 :: st) M Q = xW xSR 164 125 [.ref a0, .int a1, .int a2, .int a3, .int a4, .int a5, .int a6, .int y0] (st) M Q) ∧
  (∀ (a0 : Nat) (a1 : Int32) (a2 : Int32) (a3 : Int32) (a4 : Int32) (a5 : Int32) (a6 : Int32) (a7 : Int32) (y0 : Int32) (y1 : Int32) (st : List Value) (M : xM) (Q : Option Value → xM → Prop), xW xSR 164 170 [.ref a0, .int a1, .int a2, .int a3, .int a4, .int a5, .int a6, .int a7] (.int y0 :: .int y1 :: st) M Q = xW xSR 164 171 [.ref a0, .int a1, .int a2, .int a3, .int a4, .int a5, .int a6, .int a7] (.int (y1 + y0) :: st) M Q) ∧
  (∀ (a0 : Nat) (a1 : Int32) (a2 : Int32) (a3 : Int32) (a4 : Int32) (a5 : Int32) (a6 : Value) (a7 : Value) (M : xM) (Q : Option Value → xM → Prop), xW xSR 164 184 [.ref a0, .int a1, .int a2, .int a3, .int a4, .int a5, a6, a7] ([]) M Q = Q none M) :=
  ⟨fun a0 a1 a2 a3 a4 a5 a6 a7 y0 y1 st M Q => xw_s rfl rfl,
  fun a0 a1 a2 a3 a4 a5 a6 a7 y0 st M Q => xw_s rfl rfl,
  fun a0 a1 a2 a3 a4 a5 a6 a7 y0 y1 st M Q => xw_s rfl rfl,
  fun a0 a1 a2 a3 a4 a5 a6 a7 M Q => xw_retv rfl rfl⟩

set_option maxRecDepth 20000 in
theorem s165 :
  (∀ (a0 : Nat) (a1 : Int32) (a2 : Int32) (a3 : Int32) (a4 : Int32) (st : List Value) (M : xM) (Q : Option Value → xM → Prop), xW xSR 165 0 [.ref a0, .int a1, .int a2, .int a3, .int a4] (st) M Q = xW xSR 165 1 [.ref a0, .int a1, .int a2, .int a3, .int a4] (.ref a0 :: st) M Q) ∧
  (∀ (a0 : Nat) (a1 : Int32) (a2 : Int32) (a3 : Int32) (a4 : Int32) (st : List Value) (M : xM) (Q : Option Value → xM → Prop), xW xSR 165 1 [.ref a0, .int a1, .int a2, .int a3, .int a4] (st) M Q = xW xSR 165 2 [.ref a0, .int a1, .int a2, .int a3, .int a4] (.int a1 :: st) M Q) ∧
  (∀ (a0 : Nat) (a1 : Int32) (a2 : Int32) (a3 : Int32) (a4 : Int32) (y0 : Int32) (M : xM) (Q : Option Value → xM → Prop), xW xSR 165 2 [.ref a0, .int a1, .int a2, .int a3, .int a4] (.int y0 :: .ref 0 :: []) M Q = xW xSR 141 0 [.ref 0, .int y0] [] M (fun v M' => xW xSR 165 5 [.ref a0, .int a1, .int a2, .int a3, .int a4] (xpush v []) M' Q)) ∧
  (∀ (a0 : Nat) (a1 : Int32) (a2 : Int32) (a3 : Int32) (a4 : Int32) (y0 : Int32) (st : List Value) (M : xM) (Q : Option Value → xM → Prop), xW xSR 165 5 [.ref a0, .int a1, .int a2, .int a3, .int a4] (.int y0 :: st) M Q = if y0 = nI 0 then xW xSR 165 34 [.ref a0, .int a1, .int a2, .int a3, .int a4] (st) M Q else xW xSR 165 8 [.ref a0, .int a1, .int a2, .int a3, .int a4] (st) M Q) ∧
  (∀ (a0 : Nat) (a1 : Int32) (a2 : Int32) (a3 : Int32) (a4 : Int32) (st : List Value) (M : xM) (Q : Option Value → xM → Prop), xW xSR 165 8 [.ref a0, .int a1, .int a2, .int a3, .int a4] (st) M Q = xW xSR 165 9 [.ref a0, .int a1, .int a2, .int a3, .int a4] (.ref a0 :: st) M Q) ∧
  (∀ (a0 : Nat) (a1 : Int32) (a2 : Int32) (a3 : Int32) (a4 : Int32) (st : List Value) (M : xM) (Q : Option Value → xM → Prop), xW xSR 165 9 [.ref a0, .int a1, .int a2, .int a3, .int a4] (st) M Q = xW xSR 165 10 [.ref a0, .int a1, .int a2, .int a3, .int a4] (.int a2 :: st) M Q) ∧
  (∀ (a0 : Nat) (a1 : Int32) (a2 : Int32) (a3 : Int32) (a4 : Int32) (y0 : Int32) (M : xM) (Q : Option Value → xM → Prop), xW xSR 165 10 [.ref a0, .int a1, .int a2, .int a3, .int a4] (.int y0 :: .ref 0 :: []) M Q = xW xSR 140 0 [.ref 0, .int y0] [] M (fun v M' => xW xSR 165 13 [.ref a0, .int a1, .int a2, .int a3, .int a4] (xpush v []) M' Q)) ∧
  (∀ (a0 : Nat) (a1 : Int32) (a2 : Int32) (a3 : Int32) (a4 : Int32) (y0 : Int32) (st : List Value) (M : xM) (Q : Option Value → xM → Prop), xW xSR 165 13 [.ref a0, .int a1, .int a2, .int a3, .int a4] (.int y0 :: st) M Q = if y0 = nI 0 then xW xSR 165 34 [.ref a0, .int a1, .int a2, .int a3, .int a4] (st) M Q else xW xSR 165 16 [.ref a0, .int a1, .int a2, .int a3, .int a4] (st) M Q) ∧
  (∀ (a0 : Nat) (a1 : Int32) (a2 : Int32) (a3 : Int32) (a4 : Int32) (st : List Value) (M : xM) (Q : Option Value → xM → Prop), xW xSR 165 16 [.ref a0, .int a1, .int a2, .int a3, .int a4] (st) M Q = xW xSR 165 17 [.ref a0, .int a1, .int a2, .int a3, .int a4] (.int a3 :: st) M Q) ∧
  (∀ (a0 : Nat) (a1 : Int32) (a2 : Int32) (a3 : Int32) (a4 : Int32) (y0 : Int32) (M : xM) (Q : Option Value → xM → Prop), xW xSR 165 17 [.ref a0, .int a1, .int a2, .int a3, .int a4] (.int y0 :: []) M Q = xW xSR 142 0 [.int y0] [] M (fun v M' => xW xSR 165 20 [.ref a0, .int a1, .int a2, .int a3, .int a4] (xpush v []) M' Q)) ∧
  (∀ (a0 : Nat) (a1 : Int32) (a2 : Int32) (a3 : Int32) (a4 : Int32) (y0 : Int32) (st : List Value) (M : xM) (Q : Option Value → xM → Prop), xW xSR 165 20 [.ref a0, .int a1, .int a2, .int a3, .int a4] (.int y0 :: st) M Q = if y0 = nI 0 then xW xSR 165 34 [.ref a0, .int a1, .int a2, .int a3, .int a4] (st) M Q else xW xSR 165 23 [.ref a0, .int a1, .int a2, .int a3, .int a4] (st) M Q) ∧
  (∀ (a0 : Nat) (a1 : Int32) (a2 : Int32) (a3 : Int32) (a4 : Int32) (st : List Value) (M : xM) (Q : Option Value → xM → Prop), xW xSR 165 23 [.ref a0, .int a1, .int a2, .int a3, .int a4] (st) M Q = xW xSR 165 25 [.ref a0, .int a1, .int a2, .int a3, .int a4] (.int a4 :: st) M Q) ∧
  (∀ (a0 : Nat) (a1 : Int32) (a2 : Int32) (a3 : Int32) (a4 : Int32) (y0 : Int32) (st : List Value) (M : xM) (Q : Option Value → xM → Prop), xW xSR 165 25 [.ref a0, .int a1, .int a2, .int a3, .int a4] (.int y0 :: st) M Q = xW xSR 165 26 [.ref a0, .int a1, .int a2, .int a3, .int a4] (.long y0.toInt64 :: st) M Q) ∧
  (∀ (a0 : Nat) (a1 : Int32) (a2 : Int32) (a3 : Int32) (a4 : Int32) (st : List Value) (M : xM) (Q : Option Value → xM → Prop), xW xSR 165 26 [.ref a0, .int a1, .int a2, .int a3, .int a4] (st) M Q = xW xSR 165 27 [.ref a0, .int a1, .int a2, .int a3, .int a4] (.long (lN 0) :: st) M Q) ∧
  (∀ (a0 : Nat) (a1 : Int32) (a2 : Int32) (a3 : Int32) (a4 : Int32) (st : List Value) (M : xM) (Q : Option Value → xM → Prop), xW xSR 165 27 [.ref a0, .int a1, .int a2, .int a3, .int a4] (st) M Q = xW xSR 165 28 [.ref a0, .int a1, .int a2, .int a3, .int a4] (.long (lN 1) :: st) M Q) ∧
  (∀ (a0 : Nat) (a1 : Int32) (a2 : Int32) (a3 : Int32) (a4 : Int32) (y0 : Int64) (y1 : Int64) (y2 : Int64) (M : xM) (Q : Option Value → xM → Prop), xW xSR 165 28 [.ref a0, .int a1, .int a2, .int a3, .int a4] (.long y0 :: .long y1 :: .long y2 :: []) M Q = xW xSR 135 0 [.long y2, .null, .long y1, .null, .long y0, .null] [] M (fun v M' => xW xSR 165 31 [.ref a0, .int a1, .int a2, .int a3, .int a4] (xpush v []) M' Q)) ∧
  (∀ (a0 : Nat) (a1 : Int32) (a2 : Int32) (a3 : Int32) (a4 : Int32) (y0 : Int32) (st : List Value) (M : xM) (Q : Option Value → xM → Prop), xW xSR 165 31 [.ref a0, .int a1, .int a2, .int a3, .int a4] (.int y0 :: st) M Q = if y0 = nI 0 then xW xSR 165 34 [.ref a0, .int a1, .int a2, .int a3, .int a4] (st) M Q else xW xSR 165 36 [.ref a0, .int a1, .int a2, .int a3, .int a4] (st) M Q) ∧
  (∀ (a0 : Nat) (a1 : Int32) (a2 : Int32) (a3 : Int32) (a4 : Int32) (y0 : Int32) (M : xM) (Q : Option Value → xM → Prop), xW xSR 165 35 [.ref a0, .int a1, .int a2, .int a3, .int a4] ([.int y0]) M Q = Q (some (.int y0)) M) ∧
  (∀ (a0 : Nat) (a1 : Int32) (a2 : Int32) (a3 : Int32) (a4 : Int32) (st : List Value) (M : xM) (Q : Option Value → xM → Prop), xW xSR 165 36 [.ref a0, .int a1, .int a2, .int a3, .int a4] (st) M Q = xW xSR 165 37 [.ref a0, .int a1, .int a2, .int a3, .int a4] (.ref a0 :: st) M Q) ∧
  (∀ (a0 : Nat) (a1 : Int32) (a2 : Int32) (a3 : Int32) (a4 : Int32) (st : List Value) (M : xM) (Q : Option Value → xM → Prop), xW xSR 165 37 [.ref a0, .int a1, .int a2, .int a3, .int a4] (st) M Q = xW xSR 165 38 [.ref a0, .int a1, .int a2, .int a3, .int a4] (.int a1 :: st) M Q) ∧
  (∀ (a0 : Nat) (a1 : Int32) (a2 : Int32) (a3 : Int32) (a4 : Int32) (st : List Value) (M : xM) (Q : Option Value → xM → Prop), xW xSR 165 38 [.ref a0, .int a1, .int a2, .int a3, .int a4] (st) M Q = xW xSR 165 39 [.ref a0, .int a1, .int a2, .int a3, .int a4] (.int a2 :: st) M Q) ∧
  (∀ (a0 : Nat) (a1 : Int32) (a2 : Int32) (a3 : Int32) (a4 : Int32) (st : List Value) (M : xM) (Q : Option Value → xM → Prop), xW xSR 165 39 [.ref a0, .int a1, .int a2, .int a3, .int a4] (st) M Q = xW xSR 165 40 [.ref a0, .int a1, .int a2, .int a3, .int a4] (.int a3 :: st) M Q) ∧
  (∀ (a0 : Nat) (a1 : Int32) (a2 : Int32) (a3 : Int32) (a4 : Int32) (st : List Value) (M : xM) (Q : Option Value → xM → Prop), xW xSR 165 40 [.ref a0, .int a1, .int a2, .int a3, .int a4] (st) M Q = xW xSR 165 41 [.ref a0, .int a1, .int a2, .int a3, .int a4] (.ref a0 :: st) M Q) ∧
  (∀ (a0 : Nat) (a1 : Int32) (a2 : Int32) (a3 : Int32) (a4 : Int32) (st : List Value) (M : xM) (Q : Option Value → xM → Prop), xW xSR 165 41 [.ref a0, .int a1, .int a2, .int a3, .int a4] (.ref 0 :: st) M Q = xW xSR 165 44 [.ref a0, .int a1, .int a2, .int a3, .int a4] (.ref 1 :: st) M Q) ∧
  (∀ (a0 : Nat) (a1 : Int32) (a2 : Int32) (a3 : Int32) (a4 : Int32) (st : List Value) (M : xM) (Q : Option Value → xM → Prop), xW xSR 165 44 [.ref a0, .int a1, .int a2, .int a3, .int a4] (st) M Q = xW xSR 165 46 [.ref a0, .int a1, .int a2, .int a3, .int a4] (.int (nI 51) :: st) M Q) ∧
  (∀ (a0 : Nat) (a1 : Int32) (a2 : Int32) (a3 : Int32) (a4 : Int32) (st : List Value) (M : xM) (Q : Option Value → xM → Prop), xW xSR 165 46 [.ref a0, .int a1, .int a2, .int a3, .int a4] (st) M Q = xW xSR 165 47 [.ref a0, .int a1, .int a2, .int a3, .int a4] (.int (nI 3) :: st) M Q) ∧
  (∀ (a0 : Nat) (a1 : Int32) (a2 : Int32) (a3 : Int32) (a4 : Int32) (st : List Value) (M : xM) (Q : Option Value → xM → Prop), xW xSR 165 47 [.ref a0, .int a1, .int a2, .int a3, .int a4] (st) M Q = xW xSR 165 48 [.ref a0, .int a1, .int a2, .int a3, .int a4] (.int a1 :: st) M Q) ∧
  (∀ (a0 : Nat) (a1 : Int32) (a2 : Int32) (a3 : Int32) (a4 : Int32) (y0 : Int32) (y1 : Int32) (st : List Value) (M : xM) (Q : Option Value → xM → Prop), xW xSR 165 48 [.ref a0, .int a1, .int a2, .int a3, .int a4] (.int y0 :: .int y1 :: st) M Q = xW xSR 165 49 [.ref a0, .int a1, .int a2, .int a3, .int a4] (.int (y1 * y0) :: st) M Q) ∧
  (∀ (a0 : Nat) (a1 : Int32) (a2 : Int32) (a3 : Int32) (a4 : Int32) (y0 : Int32) (y1 : Int32) (st : List Value) (M : xM) (Q : Option Value → xM → Prop), xW xSR 165 49 [.ref a0, .int a1, .int a2, .int a3, .int a4] (.int y0 :: .int y1 :: st) M Q = xW xSR 165 50 [.ref a0, .int a1, .int a2, .int a3, .int a4] (.int (y1 + y0) :: st) M Q) ∧
  (∀ (a0 : Nat) (a1 : Int32) (a2 : Int32) (a3 : Int32) (a4 : Int32) (st : List Value) (M : xM) (Q : Option Value → xM → Prop), xW xSR 165 50 [.ref a0, .int a1, .int a2, .int a3, .int a4] (st) M Q = xW xSR 165 51 [.ref a0, .int a1, .int a2, .int a3, .int a4] (.int (nI 2) :: st) M Q) ∧
  (∀ (a0 : Nat) (a1 : Int32) (a2 : Int32) (a3 : Int32) (a4 : Int32) (y0 : Int32) (y1 : Int32) (st : List Value) (M : xM) (Q : Option Value → xM → Prop), xW xSR 165 51 [.ref a0, .int a1, .int a2, .int a3, .int a4] (.int y0 :: .int y1 :: st) M Q = xW xSR 165 52 [.ref a0, .int a1, .int a2, .int a3, .int a4] (.int (y1 + y0) :: st) M Q) ∧
  (∀ (a0 : Nat) (a1 : Int32) (a2 : Int32) (a3 : Int32) (a4 : Int32) (y0 : Nat) (st : List Value) (M : xM) (Q : Option Value → xM → Prop), y0 < 156 → xW xSR 165 52 [.ref a0, .int a1, .int a2, .int a3, .int a4] (.int (nI y0) :: .ref 1 :: st) M Q = xW xSR 165 53 [.ref a0, .int a1, .int a2, .int a3, .int a4] (.int (M 1 y0) :: st) M Q) ∧
  (∀ (a0 : Nat) (a1 : Int32) (a2 : Int32) (a3 : Int32) (a4 : Int32) (y0 : Int32) (y1 : Int32) (y2 : Int32) (y3 : Int32) (M : xM) (Q : Option Value → xM → Prop), xW xSR 165 53 [.ref a0, .int a1, .int a2, .int a3, .int a4] (.int y0 :: .int y1 :: .int y2 :: .int y3 :: .ref 0 :: []) M Q = xW xSR 164 0 [.ref 0, .int y3, .int y2, .int y1, .int y0, .null, .null, .null] [] M (fun v M' => xW xSR 165 56 [.ref a0, .int a1, .int a2, .int a3, .int a4] (xpush v []) M' Q)) ∧
  (∀ (a0 : Nat) (a1 : Int32) (a2 : Int32) (a3 : Int32) (a4 : Int32) (st : List Value) (M : xM) (Q : Option Value → xM → Prop), xW xSR 165 56 [.ref a0, .int a1, .int a2, .int a3, .int a4] (st) M Q = xW xSR 165 57 [.ref a0, .int a1, .int a2, .int a3, .int a4] (.ref a0 :: st) M Q) ∧
  (∀ (a0 : Nat) (a1 : Int32) (a2 : Int32) (a3 : Int32) (a4 : Int32) (st : List Value) (M : xM) (Q : Option Value → xM → Prop), xW xSR 165 57 [.ref a0, .int a1, .int a2, .int a3, .int a4] (.ref 0 :: st) M Q = xW xSR 165 60 [.ref a0, .int a1, .int a2, .int a3, .int a4] (.ref 5 :: st) M Q) ∧
  (∀ (a0 : Nat) (a1 : Int32) (a2 : Int32) (a3 : Int32) (a4 : Int32) (st : List Value) (M : xM) (Q : Option Value → xM → Prop), xW xSR 165 60 [.ref a0, .int a1, .int a2, .int a3, .int a4] (st) M Q = xW xSR 165 62 [.ref a0, .int a1, .int a2, .int a3, .int a4] (.int a4 :: st) M Q) ∧
  (∀ (a0 : Nat) (a1 : Int32) (a2 : Int32) (a3 : Int32) (a4 : Int32) (y0 : Nat) (st : List Value) (M : xM) (Q : Option Value → xM → Prop), y0 < 3 → xW xSR 165 62 [.ref a0, .int a1, .int a2, .int a3, .int a4] (.int (nI y0) :: .ref 5 :: st) M Q = xW xSR 165 63 [.ref a0, .int a1, .int a2, .int a3, .int a4] (.int (M 5 y0) :: st) M Q) ∧
  (∀ (a0 : Nat) (a1 : Int32) (a2 : Int32) (a3 : Int32) (a4 : Int32) (y0 : Int32) (M : xM) (Q : Option Value → xM → Prop), xW xSR 165 63 [.ref a0, .int a1, .int a2, .int a3, .int a4] ([.int y0]) M Q = Q (some (.int y0)) M) :=
  ⟨fun a0 a1 a2 a3 a4 st M Q => xw_s rfl rfl,
  fun a0 a1 a2 a3 a4 st M Q => xw_s rfl rfl,
  fun a0 a1 a2 a3 a4 y0 M Q => xw_call rfl rfl rfl,
  fun a0 a1 a2 a3 a4 y0 st M Q => xw_br (c0 := y0 = nI 0) rfl rfl,
  fun a0 a1 a2 a3 a4 st M Q => xw_s rfl rfl,
  fun a0 a1 a2 a3 a4 st M Q => xw_s rfl rfl,
  fun a0 a1 a2 a3 a4 y0 M Q => xw_call rfl rfl rfl,
  fun a0 a1 a2 a3 a4 y0 st M Q => xw_br (c0 := y0 = nI 0) rfl rfl,
  fun a0 a1 a2 a3 a4 st M Q => xw_s rfl rfl,
  fun a0 a1 a2 a3 a4 y0 M Q => xw_call rfl rfl rfl,
  fun a0 a1 a2 a3 a4 y0 st M Q => xw_br (c0 := y0 = nI 0) rfl rfl,
  fun a0 a1 a2 a3 a4 st M Q => xw_s rfl rfl,
  fun a0 a1 a2 a3 a4 y0 st M Q => xw_s rfl rfl,
  fun a0 a1 a2 a3 a4 st M Q => xw_s rfl rfl,
  fun a0 a1 a2 a3 a4 st M Q => xw_s rfl rfl,
  fun a0 a1 a2 a3 a4 y0 y1 y2 M Q => xw_call rfl rfl rfl,
  fun a0 a1 a2 a3 a4 y0 st M Q => xw_brn (c0 := y0 ≠ nI 0) (c1 := y0 = nI 0) rfl rfl (Iff.rfl),
  fun a0 a1 a2 a3 a4 y0 M Q => xw_ret rfl rfl,
  fun a0 a1 a2 a3 a4 st M Q => xw_s rfl rfl,
  fun a0 a1 a2 a3 a4 st M Q => xw_s rfl rfl,
  fun a0 a1 a2 a3 a4 st M Q => xw_s rfl rfl,
  fun a0 a1 a2 a3 a4 st M Q => xw_s rfl rfl,
  fun a0 a1 a2 a3 a4 st M Q => xw_s rfl rfl,
  fun a0 a1 a2 a3 a4 st M Q => xw_s rfl rfl,
  fun a0 a1 a2 a3 a4 st M Q => xw_s rfl rfl,
  fun a0 a1 a2 a3 a4 st M Q => xw_s rfl rfl,
  fun a0 a1 a2 a3 a4 st M Q => xw_s rfl rfl,
  fun a0 a1 a2 a3 a4 y0 y1 st M Q => xw_s rfl rfl,
  fun a0 a1 a2 a3 a4 y0 y1 st M Q => xw_s rfl rfl,
  fun a0 a1 a2 a3 a4 st M Q => xw_s rfl rfl,
  fun a0 a1 a2 a3 a4 y0 y1 st M Q => xw_s rfl rfl,
  fun a0 a1 a2 a3 a4 y0 st M Q h0 => xw_ald rfl rfl rfl (by decide) h0,
  fun a0 a1 a2 a3 a4 y0 y1 y2 y3 M Q => xw_call rfl rfl rfl,
  fun a0 a1 a2 a3 a4 st M Q => xw_s rfl rfl,
  fun a0 a1 a2 a3 a4 st M Q => xw_s rfl rfl,
  fun a0 a1 a2 a3 a4 st M Q => xw_s rfl rfl,
  fun a0 a1 a2 a3 a4 y0 st M Q h0 => xw_ald rfl rfl rfl (by decide) h0,
  fun a0 a1 a2 a3 a4 y0 M Q => xw_ret rfl rfl⟩
set_option maxRecDepth 20000 in
theorem h165_34 :
  (∀ (a0 : Nat) (a1 : Int32) (a2 : Int32) (a3 : Int32) (a4 : Int32) (st : List Value) (M : xM) (Q : Option Value → xM → Prop), xW xSR 165 34 [.ref a0, .int a1, .int a2, .int a3, .int a4] (st) M Q = xW xSR 165 35 [.ref a0, .int a1, .int a2, .int a3, .int a4] (.int (-1) :: st) M Q) :=
  fun a0 a1 a2 a3 a4 st M Q => xw_s rfl rfl
set_option maxRecDepth 20000 in
theorem j165 :
  (∀ (a0 : Nat) (a1 : Int32) (a2 : Int32) (a3 : Int32) (a4 : Int32) (st : List Value) (M : xM) (Q : Option Value → xM → Prop), xW xSR 165 34 [.ref a0, .int a1, .int a2, .int a3, .int a4] (st) M Q = xW xSR 165 35 [.ref a0, .int a1, .int a2, .int a3, .int a4] (.int (-1) :: st) M Q) :=
  fun a0 a1 a2 a3 a4 st M Q => xw_s rfl rfl

set_option maxRecDepth 20000 in
theorem s166 :
  (∀ (a0 : Int32) (a1 : Int32) (a2 : Value) (a3 : Value) (a4 : Value) (st : List Value) (M : xM) (Q : Option Value → xM → Prop), xW xSR 166 0 [.int a0, .int a1, a2, a3, a4] (st) M Q = xW xSR 166 1 [.int a0, .int a1, a2, a3, a4] (.int a0 :: st) M Q) ∧
  (∀ (a0 : Int32) (a1 : Int32) (a2 : Value) (a3 : Value) (a4 : Value) (y0 : Int32) (st : List Value) (M : xM) (Q : Option Value → xM → Prop), xW xSR 166 1 [.int a0, .int a1, a2, a3, a4] (.int y0 :: st) M Q = xW xSR 166 2 [.int a0, .int a1, .int y0, a3, a4] (st) M Q) ∧
  (∀ (a0 : Int32) (a1 : Int32) (a2 : Int32) (a3 : Value) (a4 : Value) (st : List Value) (M : xM) (Q : Option Value → xM → Prop), xW xSR 166 2 [.int a0, .int a1, .int a2, a3, a4] (st) M Q = xW xSR 166 3 [.int a0, .int a1, .int a2, a3, a4] (.int a1 :: st) M Q) ∧
  (∀ (a0 : Int32) (a1 : Int32) (a2 : Int32) (a3 : Value) (a4 : Value) (y0 : Int32) (st : List Value) (M : xM) (Q : Option Value → xM → Prop), xW xSR 166 3 [.int a0, .int a1, .int a2, a3, a4] (.int y0 :: st) M Q = xW xSR 166 4 [.int a0, .int a1, .int a2, .int y0, a4] (st) M Q) ∧
  (∀ (a0 : Int32) (a1 : Int32) (a2 : Int32) (a3 : Int32) (a4 : Value) (y0 : Int32) (st : List Value) (M : xM) (Q : Option Value → xM → Prop), xW xSR 166 5 [.int a0, .int a1, .int a2, .int a3, a4] (.int y0 :: st) M Q = if y0 = nI 0 then xW xSR 166 21 [.int a0, .int a1, .int a2, .int a3, a4] (st) M Q else xW xSR 166 8 [.int a0, .int a1, .int a2, .int a3, a4] (st) M Q) ∧
  (∀ (a0 : Int32) (a1 : Int32) (a2 : Int32) (a3 : Int32) (a4 : Value) (st : List Value) (M : xM) (Q : Option Value → xM → Prop), xW xSR 166 8 [.int a0, .int a1, .int a2, .int a3, a4] (st) M Q = xW xSR 166 9 [.int a0, .int a1, .int a2, .int a3, a4] (.int a2 :: st) M Q) ∧
  (∀ (a0 : Int32) (a1 : Int32) (a2 : Int32) (a3 : Int32) (a4 : Value) (st : List Value) (M : xM) (Q : Option Value → xM → Prop), xW xSR 166 9 [.int a0, .int a1, .int a2, .int a3, a4] (st) M Q = xW xSR 166 10 [.int a0, .int a1, .int a2, .int a3, a4] (.int a3 :: st) M Q) ∧
  (∀ (a0 : Int32) (a1 : Int32) (a2 : Int32) (a3 : Int32) (a4 : Value) (y0 : Nat) (y1 : Int32) (st : List Value) (M : xM) (Q : Option Value → xM → Prop), 0 < y0 → y0 < 2 ^ 31 → xW xSR 166 10 [.int a0, .int a1, .int a2, .int a3, a4] (.int (nI y0) :: .int y1 :: st) M Q = xW xSR 166 11 [.int a0, .int a1, .int a2, .int a3, a4] (.int (y1 - y1 / nI y0 * nI y0) :: st) M Q) ∧
  (∀ (a0 : Int32) (a1 : Int32) (a2 : Int32) (a3 : Int32) (a4 : Value) (y0 : Int32) (st : List Value) (M : xM) (Q : Option Value → xM → Prop), xW xSR 166 11 [.int a0, .int a1, .int a2, .int a3, a4] (.int y0 :: st) M Q = xW xSR 166 13 [.int a0, .int a1, .int a2, .int a3, .int y0] (st) M Q) ∧
  (∀ (a0 : Int32) (a1 : Int32) (a2 : Int32) (a3 : Int32) (a4 : Int32) (st : List Value) (M : xM) (Q : Option Value → xM → Prop), xW xSR 166 13 [.int a0, .int a1, .int a2, .int a3, .int a4] (st) M Q = xW xSR 166 14 [.int a0, .int a1, .int a2, .int a3, .int a4] (.int a3 :: st) M Q) ∧
  (∀ (a0 : Int32) (a1 : Int32) (a2 : Int32) (a3 : Int32) (a4 : Int32) (y0 : Int32) (st : List Value) (M : xM) (Q : Option Value → xM → Prop), xW xSR 166 14 [.int a0, .int a1, .int a2, .int a3, .int a4] (.int y0 :: st) M Q = xW xSR 166 15 [.int a0, .int a1, .int y0, .int a3, .int a4] (st) M Q) ∧
  (∀ (a0 : Int32) (a1 : Int32) (a2 : Int32) (a3 : Int32) (a4 : Int32) (st : List Value) (M : xM) (Q : Option Value → xM → Prop), xW xSR 166 15 [.int a0, .int a1, .int a2, .int a3, .int a4] (st) M Q = xW xSR 166 17 [.int a0, .int a1, .int a2, .int a3, .int a4] (.int a4 :: st) M Q) ∧
  (∀ (a0 : Int32) (a1 : Int32) (a2 : Int32) (a3 : Int32) (a4 : Int32) (y0 : Int32) (st : List Value) (M : xM) (Q : Option Value → xM → Prop), xW xSR 166 17 [.int a0, .int a1, .int a2, .int a3, .int a4] (.int y0 :: st) M Q = xW xSR 166 18 [.int a0, .int a1, .int a2, .int y0, .int a4] (st) M Q) ∧
  (∀ (a0 : Int32) (a1 : Int32) (a2 : Int32) (a3 : Int32) (a4 : Int32) (st : List Value) (M : xM) (Q : Option Value → xM → Prop), xW xSR 166 18 [.int a0, .int a1, .int a2, .int a3, .int a4] (st) M Q = xW xSR 166 4 [.int a0, .int a1, .int a2, .int a3, .int a4] (st) M Q) ∧
  (∀ (a0 : Int32) (a1 : Int32) (a2 : Int32) (a3 : Int32) (a4 : Value) (st : List Value) (M : xM) (Q : Option Value → xM → Prop), xW xSR 166 21 [.int a0, .int a1, .int a2, .int a3, a4] (st) M Q = xW xSR 166 22 [.int a0, .int a1, .int a2, .int a3, a4] (.int a2 :: st) M Q) ∧
  (∀ (a0 : Int32) (a1 : Int32) (a2 : Int32) (a3 : Int32) (a4 : Value) (y0 : Int32) (M : xM) (Q : Option Value → xM → Prop), xW xSR 166 22 [.int a0, .int a1, .int a2, .int a3, a4] ([.int y0]) M Q = Q (some (.int y0)) M) :=
  ⟨fun a0 a1 a2 a3 a4 st M Q => xw_s rfl rfl,
  fun a0 a1 a2 a3 a4 y0 st M Q => xw_s rfl rfl,
  fun a0 a1 a2 a3 a4 st M Q => xw_s rfl rfl,
  fun a0 a1 a2 a3 a4 y0 st M Q => xw_s rfl rfl,
  fun a0 a1 a2 a3 a4 y0 st M Q => xw_br (c0 := y0 = nI 0) rfl rfl,
  fun a0 a1 a2 a3 a4 st M Q => xw_s rfl rfl,
  fun a0 a1 a2 a3 a4 st M Q => xw_s rfl rfl,
  fun a0 a1 a2 a3 a4 y0 y1 st M Q h0 h1 => xw_div (f := fun x y => x - x / y * y) rfl rfl (nI_ne0 h0 h1),
  fun a0 a1 a2 a3 a4 y0 st M Q => xw_s rfl rfl,
  fun a0 a1 a2 a3 a4 st M Q => xw_s rfl rfl,
  fun a0 a1 a2 a3 a4 y0 st M Q => xw_s rfl rfl,
  fun a0 a1 a2 a3 a4 st M Q => xw_s rfl rfl,
  fun a0 a1 a2 a3 a4 y0 st M Q => xw_s rfl rfl,
  fun a0 a1 a2 a3 a4 st M Q => xw_s rfl rfl,
  fun a0 a1 a2 a3 a4 st M Q => xw_s rfl rfl,
  fun a0 a1 a2 a3 a4 y0 M Q => xw_ret rfl rfl⟩
set_option maxRecDepth 20000 in
theorem h166_4 :
  (∀ (a0 : Int32) (a1 : Int32) (a2 : Int32) (a3 : Int32) (a4 : Value) (st : List Value) (M : xM) (Q : Option Value → xM → Prop), xW xSR 166 4 [.int a0, .int a1, .int a2, .int a3, a4] (st) M Q = xW xSR 166 5 [.int a0, .int a1, .int a2, .int a3, a4] (.int a3 :: st) M Q) :=
  fun a0 a1 a2 a3 a4 st M Q => xw_s rfl rfl
theorem j166 : True := trivial

set_option maxRecDepth 20000 in
theorem s167 :
  (∀ (a0 : Nat) (a1 : Int32) (a2 : Int32) (a3 : Int32) (a4 : Int32) (a5 : Value) (a6 : Value) (st : List Value) (M : xM) (Q : Option Value → xM → Prop), xW xSR 167 0 [.ref a0, .int a1, .int a2, .int a3, .int a4, a5, a6] (st) M Q = xW xSR 167 1 [.ref a0, .int a1, .int a2, .int a3, .int a4, a5, a6] (.ref a0 :: st) M Q) ∧
  (∀ (a0 : Nat) (a1 : Int32) (a2 : Int32) (a3 : Int32) (a4 : Int32) (a5 : Value) (a6 : Value) (st : List Value) (M : xM) (Q : Option Value → xM → Prop), xW xSR 167 1 [.ref a0, .int a1, .int a2, .int a3, .int a4, a5, a6] (st) M Q = xW xSR 167 2 [.ref a0, .int a1, .int a2, .int a3, .int a4, a5, a6] (.int a2 :: st) M Q) ∧
  (∀ (a0 : Nat) (a1 : Int32) (a2 : Int32) (a3 : Int32) (a4 : Int32) (a5 : Value) (a6 : Value) (st : List Value) (M : xM) (Q : Option Value → xM → Prop), xW xSR 167 2 [.ref a0, .int a1, .int a2, .int a3, .int a4, a5, a6] (st) M Q = xW xSR 167 3 [.ref a0, .int a1, .int a2, .int a3, .int a4, a5, a6] (.int a3 :: st) M Q) ∧
  (∀ (a0 : Nat) (a1 : Int32) (a2 : Int32) (a3 : Int32) (a4 : Int32) (a5 : Value) (a6 : Value) (y0 : Int32) (y1 : Int32) (M : xM) (Q : Option Value → xM → Prop), xW xSR 167 3 [.ref a0, .int a1, .int a2, .int a3, .int a4, a5, a6] (.int y0 :: .int y1 :: .ref 0 :: []) M Q = xW xSR 161 0 [.ref 0, .int y1, .int y0, .null] [] M (fun v M' => xW xSR 167 6 [.ref a0, .int a1, .int a2, .int a3, .int a4, a5, a6] (xpush v []) M' Q)) ∧
  (∀ (a0 : Nat) (a1 : Int32) (a2 : Int32) (a3 : Int32) (a4 : Int32) (a5 : Value) (a6 : Value) (y0 : Int32) (st : List Value) (M : xM) (Q : Option Value → xM → Prop), xW xSR 167 6 [.ref a0, .int a1, .int a2, .int a3, .int a4, a5, a6] (.int y0 :: st) M Q = xW xSR 167 8 [.ref a0, .int a1, .int a2, .int a3, .int a4, .int y0, a6] (st) M Q) ∧
  (∀ (a0 : Nat) (a1 : Int32) (a2 : Int32) (a3 : Int32) (a4 : Int32) (a5 : Int32) (a6 : Value) (st : List Value) (M : xM) (Q : Option Value → xM → Prop), xW xSR 167 8 [.ref a0, .int a1, .int a2, .int a3, .int a4, .int a5, a6] (st) M Q = xW xSR 167 9 [.ref a0, .int a1, .int a2, .int a3, .int a4, .int a5, a6] (.ref a0 :: st) M Q) ∧
  (∀ (a0 : Nat) (a1 : Int32) (a2 : Int32) (a3 : Int32) (a4 : Int32) (a5 : Int32) (a6 : Value) (st : List Value) (M : xM) (Q : Option Value → xM → Prop), xW xSR 167 9 [.ref a0, .int a1, .int a2, .int a3, .int a4, .int a5, a6] (st) M Q = xW xSR 167 11 [.ref a0, .int a1, .int a2, .int a3, .int a4, .int a5, a6] (.int a5 :: st) M Q) ∧
  (∀ (a0 : Nat) (a1 : Int32) (a2 : Int32) (a3 : Int32) (a4 : Int32) (a5 : Int32) (a6 : Value) (st : List Value) (M : xM) (Q : Option Value → xM → Prop), xW xSR 167 11 [.ref a0, .int a1, .int a2, .int a3, .int a4, .int a5, a6] (st) M Q = xW xSR 167 12 [.ref a0, .int a1, .int a2, .int a3, .int a4, .int a5, a6] (.int (nI 2) :: st) M Q) ∧
  (∀ (a0 : Nat) (a1 : Int32) (a2 : Int32) (a3 : Int32) (a4 : Int32) (a5 : Int32) (a6 : Value) (y0 : Int32) (y1 : Int32) (st : List Value) (M : xM) (Q : Option Value → xM → Prop), xW xSR 167 12 [.ref a0, .int a1, .int a2, .int a3, .int a4, .int a5, a6] (.int y0 :: .int y1 :: st) M Q = if y1 = y0 then xW xSR 167 20 [.ref a0, .int a1, .int a2, .int a3, .int a4, .int a5, a6] (st) M Q else xW xSR 167 15 [.ref a0, .int a1, .int a2, .int a3, .int a4, .int a5, a6] (st) M Q) ∧
  (∀ (a0 : Nat) (a1 : Int32) (a2 : Int32) (a3 : Int32) (a4 : Int32) (a5 : Int32) (a6 : Value) (st : List Value) (M : xM) (Q : Option Value → xM → Prop), xW xSR 167 15 [.ref a0, .int a1, .int a2, .int a3, .int a4, .int a5, a6] (st) M Q = xW xSR 167 17 [.ref a0, .int a1, .int a2, .int a3, .int a4, .int a5, a6] (.int a4 :: st) M Q) ∧
  (∀ (a0 : Nat) (a1 : Int32) (a2 : Int32) (a3 : Int32) (a4 : Int32) (a5 : Int32) (a6 : Value) (y0 : Int32) (st : List Value) (M : xM) (Q : Option Value → xM → Prop), xW xSR 167 17 [.ref a0, .int a1, .int a2, .int a3, .int a4, .int a5, a6] (.int y0 :: st) M Q = if y0 = nI 0 then xW xSR 167 24 [.ref a0, .int a1, .int a2, .int a3, .int a4, .int a5, a6] (st) M Q else xW xSR 167 20 [.ref a0, .int a1, .int a2, .int a3, .int a4, .int a5, a6] (st) M Q) ∧
  (∀ (a0 : Nat) (a1 : Int32) (a2 : Int32) (a3 : Int32) (a4 : Int32) (a5 : Int32) (a6 : Value) (st : List Value) (M : xM) (Q : Option Value → xM → Prop), xW xSR 167 21 [.ref a0, .int a1, .int a2, .int a3, .int a4, .int a5, a6] (st) M Q = xW xSR 167 33 [.ref a0, .int a1, .int a2, .int a3, .int a4, .int a5, a6] (st) M Q) ∧
  (∀ (a0 : Nat) (a1 : Int32) (a2 : Int32) (a3 : Int32) (a4 : Int32) (a5 : Int32) (a6 : Value) (st : List Value) (M : xM) (Q : Option Value → xM → Prop), xW xSR 167 24 [.ref a0, .int a1, .int a2, .int a3, .int a4, .int a5, a6] (st) M Q = xW xSR 167 25 [.ref a0, .int a1, .int a2, .int a3, .int a4, .int a5, a6] (.ref a0 :: st) M Q) ∧
  (∀ (a0 : Nat) (a1 : Int32) (a2 : Int32) (a3 : Int32) (a4 : Int32) (a5 : Int32) (a6 : Value) (st : List Value) (M : xM) (Q : Option Value → xM → Prop), xW xSR 167 25 [.ref a0, .int a1, .int a2, .int a3, .int a4, .int a5, a6] (.ref 0 :: st) M Q = xW xSR 167 28 [.ref a0, .int a1, .int a2, .int a3, .int a4, .int a5, a6] (.ref 5 :: st) M Q) ∧
  (∀ (a0 : Nat) (a1 : Int32) (a2 : Int32) (a3 : Int32) (a4 : Int32) (a5 : Int32) (a6 : Value) (st : List Value) (M : xM) (Q : Option Value → xM → Prop), xW xSR 167 28 [.ref a0, .int a1, .int a2, .int a3, .int a4, .int a5, a6] (st) M Q = xW xSR 167 29 [.ref a0, .int a1, .int a2, .int a3, .int a4, .int a5, a6] (.int (nI 1) :: st) M Q) ∧
  (∀ (a0 : Nat) (a1 : Int32) (a2 : Int32) (a3 : Int32) (a4 : Int32) (a5 : Int32) (a6 : Value) (st : List Value) (M : xM) (Q : Option Value → xM → Prop), xW xSR 167 29 [.ref a0, .int a1, .int a2, .int a3, .int a4, .int a5, a6] (st) M Q = xW xSR 167 31 [.ref a0, .int a1, .int a2, .int a3, .int a4, .int a5, a6] (.int a5 :: st) M Q) ∧
  (∀ (a0 : Nat) (a1 : Int32) (a2 : Int32) (a3 : Int32) (a4 : Int32) (a5 : Int32) (a6 : Value) (y0 : Int32) (y1 : Int32) (st : List Value) (M : xM) (Q : Option Value → xM → Prop), xW xSR 167 31 [.ref a0, .int a1, .int a2, .int a3, .int a4, .int a5, a6] (.int y0 :: .int y1 :: st) M Q = xW xSR 167 32 [.ref a0, .int a1, .int a2, .int a3, .int a4, .int a5, a6] (.int (y1 - y0) :: st) M Q) ∧
  (∀ (a0 : Nat) (a1 : Int32) (a2 : Int32) (a3 : Int32) (a4 : Int32) (a5 : Int32) (a6 : Value) (y0 : Nat) (st : List Value) (M : xM) (Q : Option Value → xM → Prop), y0 < 3 → xW xSR 167 32 [.ref a0, .int a1, .int a2, .int a3, .int a4, .int a5, a6] (.int (nI y0) :: .ref 5 :: st) M Q = xW xSR 167 33 [.ref a0, .int a1, .int a2, .int a3, .int a4, .int a5, a6] (.int (M 5 y0) :: st) M Q) ∧
  (∀ (a0 : Nat) (a1 : Int32) (a2 : Int32) (a3 : Int32) (a4 : Int32) (a5 : Int32) (a6 : Value) (st : List Value) (M : xM) (Q : Option Value → xM → Prop), xW xSR 167 36 [.ref a0, .int a1, .int a2, .int a3, .int a4, .int a5, a6] (st) M Q = xW xSR 167 37 [.ref a0, .int a1, .int a2, .int a3, .int a4, .int a5, a6] (.ref a0 :: st) M Q) ∧
  (∀ (a0 : Nat) (a1 : Int32) (a2 : Int32) (a3 : Int32) (a4 : Int32) (a5 : Int32) (a6 : Value) (st : List Value) (M : xM) (Q : Option Value → xM → Prop), xW xSR 167 37 [.ref a0, .int a1, .int a2, .int a3, .int a4, .int a5, a6] (st) M Q = xW xSR 167 38 [.ref a0, .int a1, .int a2, .int a3, .int a4, .int a5, a6] (.ref a0 :: st) M Q) ∧
  (∀ (a0 : Nat) (a1 : Int32) (a2 : Int32) (a3 : Int32) (a4 : Int32) (a5 : Int32) (a6 : Value) (st : List Value) (M : xM) (Q : Option Value → xM → Prop), xW xSR 167 38 [.ref a0, .int a1, .int a2, .int a3, .int a4, .int a5, a6] (.ref 0 :: st) M Q = xW xSR 167 41 [.ref a0, .int a1, .int a2, .int a3, .int a4, .int a5, a6] (.ref 5 :: st) M Q) ∧
  (∀ (a0 : Nat) (a1 : Int32) (a2 : Int32) (a3 : Int32) (a4 : Int32) (a5 : Int32) (a6 : Value) (st : List Value) (M : xM) (Q : Option Value → xM → Prop), xW xSR 167 41 [.ref a0, .int a1, .int a2, .int a3, .int a4, .int a5, a6] (st) M Q = xW xSR 167 42 [.ref a0, .int a1, .int a2, .int a3, .int a4, .int a5, a6] (.int (nI 0) :: st) M Q) ∧
  (∀ (a0 : Nat) (a1 : Int32) (a2 : Int32) (a3 : Int32) (a4 : Int32) (a5 : Int32) (a6 : Value) (y0 : Nat) (st : List Value) (M : xM) (Q : Option Value → xM → Prop), y0 < 3 → xW xSR 167 42 [.ref a0, .int a1, .int a2, .int a3, .int a4, .int a5, a6] (.int (nI y0) :: .ref 5 :: st) M Q = xW xSR 167 43 [.ref a0, .int a1, .int a2, .int a3, .int a4, .int a5, a6] (.int (M 5 y0) :: st) M Q) ∧
  (∀ (a0 : Nat) (a1 : Int32) (a2 : Int32) (a3 : Int32) (a4 : Int32) (a5 : Int32) (a6 : Value) (st : List Value) (M : xM) (Q : Option Value → xM → Prop), xW xSR 167 43 [.ref a0, .int a1, .int a2, .int a3, .int a4, .int a5, a6] (st) M Q = xW xSR 167 44 [.ref a0, .int a1, .int a2, .int a3, .int a4, .int a5, a6] (.ref a0 :: st) M Q) ∧
  (∀ (a0 : Nat) (a1 : Int32) (a2 : Int32) (a3 : Int32) (a4 : Int32) (a5 : Int32) (a6 : Value) (st : List Value) (M : xM) (Q : Option Value → xM → Prop), xW xSR 167 44 [.ref a0, .int a1, .int a2, .int a3, .int a4, .int a5, a6] (.ref 0 :: st) M Q = xW xSR 167 47 [.ref a0, .int a1, .int a2, .int a3, .int a4, .int a5, a6] (.ref 5 :: st) M Q) ∧
  (∀ (a0 : Nat) (a1 : Int32) (a2 : Int32) (a3 : Int32) (a4 : Int32) (a5 : Int32) (a6 : Value) (st : List Value) (M : xM) (Q : Option Value → xM → Prop), xW xSR 167 47 [.ref a0, .int a1, .int a2, .int a3, .int a4, .int a5, a6] (st) M Q = xW xSR 167 48 [.ref a0, .int a1, .int a2, .int a3, .int a4, .int a5, a6] (.int (nI 1) :: st) M Q) ∧
  (∀ (a0 : Nat) (a1 : Int32) (a2 : Int32) (a3 : Int32) (a4 : Int32) (a5 : Int32) (a6 : Value) (y0 : Nat) (st : List Value) (M : xM) (Q : Option Value → xM → Prop), y0 < 3 → xW xSR 167 48 [.ref a0, .int a1, .int a2, .int a3, .int a4, .int a5, a6] (.int (nI y0) :: .ref 5 :: st) M Q = xW xSR 167 49 [.ref a0, .int a1, .int a2, .int a3, .int a4, .int a5, a6] (.int (M 5 y0) :: st) M Q) ∧
  (∀ (a0 : Nat) (a1 : Int32) (a2 : Int32) (a3 : Int32) (a4 : Int32) (a5 : Int32) (a6 : Value) (y0 : Int32) (y1 : Int32) (st : List Value) (M : xM) (Q : Option Value → xM → Prop), xW xSR 167 49 [.ref a0, .int a1, .int a2, .int a3, .int a4, .int a5, a6] (.int y0 :: .int y1 :: st) M Q = xW xSR 167 50 [.ref a0, .int a1, .int a2, .int a3, .int a4, .int a5, a6] (.int (y1 + y0) :: st) M Q) ∧
  (∀ (a0 : Nat) (a1 : Int32) (a2 : Int32) (a3 : Int32) (a4 : Int32) (a5 : Int32) (a6 : Value) (y0 : Int32) (st : List Value) (M : xM) (Q : Option Value → xM → Prop), xW xSR 167 50 [.ref a0, .int a1, .int a2, .int a3, .int a4, .int a5, a6] (.int y0 :: .ref 0 :: st) M Q = xW xSR 167 53 [.ref a0, .int a1, .int a2, .int a3, .int a4, .int a5, a6] (st) (xup M 0 8 y0) Q) ∧
  (∀ (a0 : Nat) (a1 : Int32) (a2 : Int32) (a3 : Int32) (a4 : Int32) (a5 : Int32) (a6 : Value) (st : List Value) (M : xM) (Q : Option Value → xM → Prop), xW xSR 167 53 [.ref a0, .int a1, .int a2, .int a3, .int a4, .int a5, a6] (st) M Q = xW xSR 167 54 [.ref a0, .int a1, .int a2, .int a3, .int a4, .int a5, a6] (.ref a0 :: st) M Q) ∧
  (∀ (a0 : Nat) (a1 : Int32) (a2 : Int32) (a3 : Int32) (a4 : Int32) (a5 : Int32) (a6 : Value) (st : List Value) (M : xM) (Q : Option Value → xM → Prop), xW xSR 167 54 [.ref a0, .int a1, .int a2, .int a3, .int a4, .int a5, a6] (.ref 0 :: st) M Q = xW xSR 167 57 [.ref a0, .int a1, .int a2, .int a3, .int a4, .int a5, a6] (.ref 1 :: st) M Q) ∧
  (∀ (a0 : Nat) (a1 : Int32) (a2 : Int32) (a3 : Int32) (a4 : Int32) (a5 : Int32) (a6 : Value) (st : List Value) (M : xM) (Q : Option Value → xM → Prop), xW xSR 167 57 [.ref a0, .int a1, .int a2, .int a3, .int a4, .int a5, a6] (st) M Q = xW xSR 167 58 [.ref a0, .int a1, .int a2, .int a3, .int a4, .int a5, a6] (.int (nI 3) :: st) M Q) ∧
  (∀ (a0 : Nat) (a1 : Int32) (a2 : Int32) (a3 : Int32) (a4 : Int32) (a5 : Int32) (a6 : Value) (st : List Value) (M : xM) (Q : Option Value → xM → Prop), xW xSR 167 58 [.ref a0, .int a1, .int a2, .int a3, .int a4, .int a5, a6] (st) M Q = xW xSR 167 60 [.ref a0, .int a1, .int a2, .int a3, .int a4, .int a5, a6] (.int (nI 6) :: st) M Q) ∧
  (∀ (a0 : Nat) (a1 : Int32) (a2 : Int32) (a3 : Int32) (a4 : Int32) (a5 : Int32) (a6 : Value) (st : List Value) (M : xM) (Q : Option Value → xM → Prop), xW xSR 167 60 [.ref a0, .int a1, .int a2, .int a3, .int a4, .int a5, a6] (st) M Q = xW xSR 167 61 [.ref a0, .int a1, .int a2, .int a3, .int a4, .int a5, a6] (.int a2 :: st) M Q) ∧
  (∀ (a0 : Nat) (a1 : Int32) (a2 : Int32) (a3 : Int32) (a4 : Int32) (a5 : Int32) (a6 : Value) (y0 : Int32) (y1 : Int32) (st : List Value) (M : xM) (Q : Option Value → xM → Prop), xW xSR 167 61 [.ref a0, .int a1, .int a2, .int a3, .int a4, .int a5, a6] (.int y0 :: .int y1 :: st) M Q = xW xSR 167 62 [.ref a0, .int a1, .int a2, .int a3, .int a4, .int a5, a6] (.int (y1 * y0) :: st) M Q) ∧
  (∀ (a0 : Nat) (a1 : Int32) (a2 : Int32) (a3 : Int32) (a4 : Int32) (a5 : Int32) (a6 : Value) (y0 : Int32) (y1 : Int32) (st : List Value) (M : xM) (Q : Option Value → xM → Prop), xW xSR 167 62 [.ref a0, .int a1, .int a2, .int a3, .int a4, .int a5, a6] (.int y0 :: .int y1 :: st) M Q = xW xSR 167 63 [.ref a0, .int a1, .int a2, .int a3, .int a4, .int a5, a6] (.int (y1 + y0) :: st) M Q) ∧
  (∀ (a0 : Nat) (a1 : Int32) (a2 : Int32) (a3 : Int32) (a4 : Int32) (a5 : Int32) (a6 : Value) (st : List Value) (M : xM) (Q : Option Value → xM → Prop), xW xSR 167 63 [.ref a0, .int a1, .int a2, .int a3, .int a4, .int a5, a6] (st) M Q = xW xSR 167 64 [.ref a0, .int a1, .int a2, .int a3, .int a4, .int a5, a6] (.int (nI 3) :: st) M Q) ∧
  (∀ (a0 : Nat) (a1 : Int32) (a2 : Int32) (a3 : Int32) (a4 : Int32) (a5 : Int32) (a6 : Value) (y0 : Int32) (y1 : Int32) (st : List Value) (M : xM) (Q : Option Value → xM → Prop), xW xSR 167 64 [.ref a0, .int a1, .int a2, .int a3, .int a4, .int a5, a6] (.int y0 :: .int y1 :: st) M Q = xW xSR 167 65 [.ref a0, .int a1, .int a2, .int a3, .int a4, .int a5, a6] (.int (y1 + y0) :: st) M Q) ∧
  (∀ (a0 : Nat) (a1 : Int32) (a2 : Int32) (a3 : Int32) (a4 : Int32) (a5 : Int32) (a6 : Value) (y0 : Nat) (st : List Value) (M : xM) (Q : Option Value → xM → Prop), y0 < 156 → xW xSR 167 65 [.ref a0, .int a1, .int a2, .int a3, .int a4, .int a5, a6] (.int (nI y0) :: .ref 1 :: st) M Q = xW xSR 167 66 [.ref a0, .int a1, .int a2, .int a3, .int a4, .int a5, a6] (.int (M 1 y0) :: st) M Q) ∧
  (∀ (a0 : Nat) (a1 : Int32) (a2 : Int32) (a3 : Int32) (a4 : Int32) (a5 : Int32) (a6 : Value) (st : List Value) (M : xM) (Q : Option Value → xM → Prop), xW xSR 167 66 [.ref a0, .int a1, .int a2, .int a3, .int a4, .int a5, a6] (st) M Q = xW xSR 167 67 [.ref a0, .int a1, .int a2, .int a3, .int a4, .int a5, a6] (.int (nI 2) :: st) M Q) ∧
  (∀ (a0 : Nat) (a1 : Int32) (a2 : Int32) (a3 : Int32) (a4 : Int32) (a5 : Int32) (a6 : Value) (y0 : Int32) (y1 : Int32) (st : List Value) (M : xM) (Q : Option Value → xM → Prop), xW xSR 167 67 [.ref a0, .int a1, .int a2, .int a3, .int a4, .int a5, a6] (.int y0 :: .int y1 :: st) M Q = if y1 = y0 then xW xSR 167 70 [.ref a0, .int a1, .int a2, .int a3, .int a4, .int a5, a6] (st) M Q else xW xSR 167 132 [.ref a0, .int a1, .int a2, .int a3, .int a4, .int a5, a6] (st) M Q) ∧
  (∀ (a0 : Nat) (a1 : Int32) (a2 : Int32) (a3 : Int32) (a4 : Int32) (a5 : Int32) (a6 : Value) (st : List Value) (M : xM) (Q : Option Value → xM → Prop), xW xSR 167 70 [.ref a0, .int a1, .int a2, .int a3, .int a4, .int a5, a6] (st) M Q = xW xSR 167 71 [.ref a0, .int a1, .int a2, .int a3, .int a4, .int a5, a6] (.int (nI 2) :: st) M Q) ∧
  (∀ (a0 : Nat) (a1 : Int32) (a2 : Int32) (a3 : Int32) (a4 : Int32) (a5 : Int32) (a6 : Value) (st : List Value) (M : xM) (Q : Option Value → xM → Prop), xW xSR 167 71 [.ref a0, .int a1, .int a2, .int a3, .int a4, .int a5, a6] (st) M Q = xW xSR 167 72 [.ref a0, .int a1, .int a2, .int a3, .int a4, .int a5, a6] (.int a1 :: st) M Q) ∧
  (∀ (a0 : Nat) (a1 : Int32) (a2 : Int32) (a3 : Int32) (a4 : Int32) (a5 : Int32) (a6 : Value) (y0 : Int32) (st : List Value) (M : xM) (Q : Option Value → xM → Prop), xW xSR 167 72 [.ref a0, .int a1, .int a2, .int a3, .int a4, .int a5, a6] (.int y0 :: st) M Q = if y0 < nI 0 then xW xSR 167 75 [.ref a0, .int a1, .int a2, .int a3, .int a4, .int a5, a6] (st) M Q else xW xSR 167 79 [.ref a0, .int a1, .int a2, .int a3, .int a4, .int a5, a6] (st) M Q) ∧
  (∀ (a0 : Nat) (a1 : Int32) (a2 : Int32) (a3 : Int32) (a4 : Int32) (a5 : Int32) (a6 : Value) (st : List Value) (M : xM) (Q : Option Value → xM → Prop), xW xSR 167 75 [.ref a0, .int a1, .int a2, .int a3, .int a4, .int a5, a6] (st) M Q = xW xSR 167 76 [.ref a0, .int a1, .int a2, .int a3, .int a4, .int a5, a6] (.int (nI 0) :: st) M Q) ∧
  (∀ (a0 : Nat) (a1 : Int32) (a2 : Int32) (a3 : Int32) (a4 : Int32) (a5 : Int32) (a6 : Value) (st : List Value) (M : xM) (Q : Option Value → xM → Prop), xW xSR 167 76 [.ref a0, .int a1, .int a2, .int a3, .int a4, .int a5, a6] (st) M Q = xW xSR 167 102 [.ref a0, .int a1, .int a2, .int a3, .int a4, .int a5, a6] (st) M Q) ∧
  (∀ (a0 : Nat) (a1 : Int32) (a2 : Int32) (a3 : Int32) (a4 : Int32) (a5 : Int32) (a6 : Value) (st : List Value) (M : xM) (Q : Option Value → xM → Prop), xW xSR 167 79 [.ref a0, .int a1, .int a2, .int a3, .int a4, .int a5, a6] (st) M Q = xW xSR 167 80 [.ref a0, .int a1, .int a2, .int a3, .int a4, .int a5, a6] (.ref a0 :: st) M Q) ∧
  (∀ (a0 : Nat) (a1 : Int32) (a2 : Int32) (a3 : Int32) (a4 : Int32) (a5 : Int32) (a6 : Value) (st : List Value) (M : xM) (Q : Option Value → xM → Prop), xW xSR 167 80 [.ref a0, .int a1, .int a2, .int a3, .int a4, .int a5, a6] (.ref 0 :: st) M Q = xW xSR 167 83 [.ref a0, .int a1, .int a2, .int a3, .int a4, .int a5, a6] (.ref 1 :: st) M Q) ∧
  (∀ (a0 : Nat) (a1 : Int32) (a2 : Int32) (a3 : Int32) (a4 : Int32) (a5 : Int32) (a6 : Value) (st : List Value) (M : xM) (Q : Option Value → xM → Prop), xW xSR 167 83 [.ref a0, .int a1, .int a2, .int a3, .int a4, .int a5, a6] (st) M Q = xW xSR 167 84 [.ref a0, .int a1, .int a2, .int a3, .int a4, .int a5, a6] (.int a1 :: st) M Q) ∧
  (∀ (a0 : Nat) (a1 : Int32) (a2 : Int32) (a3 : Int32) (a4 : Int32) (a5 : Int32) (a6 : Value) (st : List Value) (M : xM) (Q : Option Value → xM → Prop), xW xSR 167 84 [.ref a0, .int a1, .int a2, .int a3, .int a4, .int a5, a6] (st) M Q = xW xSR 167 85 [.ref a0, .int a1, .int a2, .int a3, .int a4, .int a5, a6] (.int a2 :: st) M Q) ∧
  (∀ (a0 : Nat) (a1 : Int32) (a2 : Int32) (a3 : Int32) (a4 : Int32) (a5 : Int32) (a6 : Value) (st : List Value) (M : xM) (Q : Option Value → xM → Prop), xW xSR 167 85 [.ref a0, .int a1, .int a2, .int a3, .int a4, .int a5, a6] (st) M Q = xW xSR 167 86 [.ref a0, .int a1, .int a2, .int a3, .int a4, .int a5, a6] (.int (nI 0) :: st) M Q) ∧
  (∀ (a0 : Nat) (a1 : Int32) (a2 : Int32) (a3 : Int32) (a4 : Int32) (a5 : Int32) (a6 : Value) (y0 : Int32) (y1 : Int32) (y2 : Int32) (y3 : Nat) (y4 : Int32) (M : xM) (Q : Option Value → xM → Prop), xW xSR 167 86 [.ref a0, .int a1, .int a2, .int a3, .int a4, .int a5, a6] (.int y0 :: .int y1 :: .int y2 :: .ref y3 :: .int y4 :: []) M Q = xW xSR 158 0 [.int y2, .int y1, .int y0] [] M (fun v M' => xW xSR 167 89 [.ref a0, .int a1, .int a2, .int a3, .int a4, .int a5, a6] (xpush v [.ref y3, .int y4]) M' Q)) ∧
  (∀ (a0 : Nat) (a1 : Int32) (a2 : Int32) (a3 : Int32) (a4 : Int32) (a5 : Int32) (a6 : Value) (y0 : Nat) (st : List Value) (M : xM) (Q : Option Value → xM → Prop), y0 < 156 → xW xSR 167 89 [.ref a0, .int a1, .int a2, .int a3, .int a4, .int a5, a6] (.int (nI y0) :: .ref 1 :: st) M Q = xW xSR 167 90 [.ref a0, .int a1, .int a2, .int a3, .int a4, .int a5, a6] (.int (M 1 y0) :: st) M Q) ∧
  (∀ (a0 : Nat) (a1 : Int32) (a2 : Int32) (a3 : Int32) (a4 : Int32) (a5 : Int32) (a6 : Value) (st : List Value) (M : xM) (Q : Option Value → xM → Prop), xW xSR 167 90 [.ref a0, .int a1, .int a2, .int a3, .int a4, .int a5, a6] (st) M Q = xW xSR 167 91 [.ref a0, .int a1, .int a2, .int a3, .int a4, .int a5, a6] (.ref a0 :: st) M Q) ∧
  (∀ (a0 : Nat) (a1 : Int32) (a2 : Int32) (a3 : Int32) (a4 : Int32) (a5 : Int32) (a6 : Value) (st : List Value) (M : xM) (Q : Option Value → xM → Prop), xW xSR 167 91 [.ref a0, .int a1, .int a2, .int a3, .int a4, .int a5, a6] (.ref 0 :: st) M Q = xW xSR 167 94 [.ref a0, .int a1, .int a2, .int a3, .int a4, .int a5, a6] (.ref 1 :: st) M Q) ∧
  (∀ (a0 : Nat) (a1 : Int32) (a2 : Int32) (a3 : Int32) (a4 : Int32) (a5 : Int32) (a6 : Value) (st : List Value) (M : xM) (Q : Option Value → xM → Prop), xW xSR 167 94 [.ref a0, .int a1, .int a2, .int a3, .int a4, .int a5, a6] (st) M Q = xW xSR 167 95 [.ref a0, .int a1, .int a2, .int a3, .int a4, .int a5, a6] (.int a1 :: st) M Q) ∧
  (∀ (a0 : Nat) (a1 : Int32) (a2 : Int32) (a3 : Int32) (a4 : Int32) (a5 : Int32) (a6 : Value) (st : List Value) (M : xM) (Q : Option Value → xM → Prop), xW xSR 167 95 [.ref a0, .int a1, .int a2, .int a3, .int a4, .int a5, a6] (st) M Q = xW xSR 167 96 [.ref a0, .int a1, .int a2, .int a3, .int a4, .int a5, a6] (.int a2 :: st) M Q) ∧
  (∀ (a0 : Nat) (a1 : Int32) (a2 : Int32) (a3 : Int32) (a4 : Int32) (a5 : Int32) (a6 : Value) (st : List Value) (M : xM) (Q : Option Value → xM → Prop), xW xSR 167 96 [.ref a0, .int a1, .int a2, .int a3, .int a4, .int a5, a6] (st) M Q = xW xSR 167 97 [.ref a0, .int a1, .int a2, .int a3, .int a4, .int a5, a6] (.int (nI 1) :: st) M Q) ∧
  (∀ (a0 : Nat) (a1 : Int32) (a2 : Int32) (a3 : Int32) (a4 : Int32) (a5 : Int32) (a6 : Value) (y0 : Int32) (y1 : Int32) (y2 : Int32) (y3 : Nat) (y4 : Int32) (y5 : Int32) (M : xM) (Q : Option Value → xM → Prop), xW xSR 167 97 [.ref a0, .int a1, .int a2, .int a3, .int a4, .int a5, a6] (.int y0 :: .int y1 :: .int y2 :: .ref y3 :: .int y4 :: .int y5 :: []) M Q = xW xSR 158 0 [.int y2, .int y1, .int y0] [] M (fun v M' => xW xSR 167 100 [.ref a0, .int a1, .int a2, .int a3, .int a4, .int a5, a6] (xpush v [.ref y3, .int y4, .int y5]) M' Q)) ∧
  (∀ (a0 : Nat) (a1 : Int32) (a2 : Int32) (a3 : Int32) (a4 : Int32) (a5 : Int32) (a6 : Value) (y0 : Nat) (st : List Value) (M : xM) (Q : Option Value → xM → Prop), y0 < 156 → xW xSR 167 100 [.ref a0, .int a1, .int a2, .int a3, .int a4, .int a5, a6] (.int (nI y0) :: .ref 1 :: st) M Q = xW xSR 167 101 [.ref a0, .int a1, .int a2, .int a3, .int a4, .int a5, a6] (.int (M 1 y0) :: st) M Q) ∧
  (∀ (a0 : Nat) (a1 : Int32) (a2 : Int32) (a3 : Int32) (a4 : Int32) (a5 : Int32) (a6 : Value) (y0 : Int32) (y1 : Int32) (st : List Value) (M : xM) (Q : Option Value → xM → Prop), xW xSR 167 101 [.ref a0, .int a1, .int a2, .int a3, .int a4, .int a5, a6] (.int y0 :: .int y1 :: st) M Q = xW xSR 167 102 [.ref a0, .int a1, .int a2, .int a3, .int a4, .int a5, a6] (.int (y1 + y0) :: st) M Q) ∧
  (∀ (a0 : Nat) (a1 : Int32) (a2 : Int32) (a3 : Int32) (a4 : Int32) (a5 : Int32) (a6 : Value) (y0 : Int32) (st : List Value) (M : xM) (Q : Option Value → xM → Prop), xW xSR 167 103 [.ref a0, .int a1, .int a2, .int a3, .int a4, .int a5, a6] (.int y0 :: st) M Q = xW xSR 167 105 [.ref a0, .int a1, .int a2, .int a3, .int a4, .int a5, .int y0] (st) M Q) ∧
  (∀ (a0 : Nat) (a1 : Int32) (a2 : Int32) (a3 : Int32) (a4 : Int32) (a5 : Int32) (a6 : Int32) (st : List Value) (M : xM) (Q : Option Value → xM → Prop), xW xSR 167 105 [.ref a0, .int a1, .int a2, .int a3, .int a4, .int a5, .int a6] (st) M Q = xW xSR 167 106 [.ref a0, .int a1, .int a2, .int a3, .int a4, .int a5, .int a6] (.ref a0 :: st) M Q) ∧
  (∀ (a0 : Nat) (a1 : Int32) (a2 : Int32) (a3 : Int32) (a4 : Int32) (a5 : Int32) (a6 : Int32) (st : List Value) (M : xM) (Q : Option Value → xM → Prop), xW xSR 167 106 [.ref a0, .int a1, .int a2, .int a3, .int a4, .int a5, .int a6] (st) M Q = xW xSR 167 107 [.ref a0, .int a1, .int a2, .int a3, .int a4, .int a5, .int a6] (.ref a0 :: st) M Q) ∧
  (∀ (a0 : Nat) (a1 : Int32) (a2 : Int32) (a3 : Int32) (a4 : Int32) (a5 : Int32) (a6 : Int32) (st : List Value) (M : xM) (Q : Option Value → xM → Prop), xW xSR 167 107 [.ref a0, .int a1, .int a2, .int a3, .int a4, .int a5, .int a6] (.ref 0 :: st) M Q = xW xSR 167 110 [.ref a0, .int a1, .int a2, .int a3, .int a4, .int a5, .int a6] (.int (M 0 7) :: st) M Q) ∧
  (∀ (a0 : Nat) (a1 : Int32) (a2 : Int32) (a3 : Int32) (a4 : Int32) (a5 : Int32) (a6 : Int32) (st : List Value) (M : xM) (Q : Option Value → xM → Prop), xW xSR 167 110 [.ref a0, .int a1, .int a2, .int a3, .int a4, .int a5, .int a6] (st) M Q = xW xSR 167 112 [.ref a0, .int a1, .int a2, .int a3, .int a4, .int a5, .int a6] (.int a6 :: st) M Q) ∧
  (∀ (a0 : Nat) (a1 : Int32) (a2 : Int32) (a3 : Int32) (a4 : Int32) (a5 : Int32) (a6 : Int32) (y0 : Int32) (y1 : Int32) (st : List Value) (M : xM) (Q : Option Value → xM → Prop), xW xSR 167 112 [.ref a0, .int a1, .int a2, .int a3, .int a4, .int a5, .int a6] (.int y0 :: .int y1 :: st) M Q = xW xSR 167 113 [.ref a0, .int a1, .int a2, .int a3, .int a4, .int a5, .int a6] (.int (y1 * y0) :: st) M Q) ∧
  (∀ (a0 : Nat) (a1 : Int32) (a2 : Int32) (a3 : Int32) (a4 : Int32) (a5 : Int32) (a6 : Int32) (st : List Value) (M : xM) (Q : Option Value → xM → Prop), xW xSR 167 113 [.ref a0, .int a1, .int a2, .int a3, .int a4, .int a5, .int a6] (st) M Q = xW xSR 167 114 [.ref a0, .int a1, .int a2, .int a3, .int a4, .int a5, .int a6] (.ref a0 :: st) M Q) ∧
  (∀ (a0 : Nat) (a1 : Int32) (a2 : Int32) (a3 : Int32) (a4 : Int32) (a5 : Int32) (a6 : Int32) (st : List Value) (M : xM) (Q : Option Value → xM → Prop), xW xSR 167 114 [.ref a0, .int a1, .int a2, .int a3, .int a4, .int a5, .int a6] (.ref 0 :: st) M Q = xW xSR 167 117 [.ref a0, .int a1, .int a2, .int a3, .int a4, .int a5, .int a6] (.int (M 0 8) :: st) M Q) ∧
  (∀ (a0 : Nat) (a1 : Int32) (a2 : Int32) (a3 : Int32) (a4 : Int32) (a5 : Int32) (a6 : Int32) (y0 : Int32) (y1 : Int32) (st : List Value) (M : xM) (Q : Option Value → xM → Prop), xW xSR 167 117 [.ref a0, .int a1, .int a2, .int a3, .int a4, .int a5, .int a6] (.int y0 :: .int y1 :: st) M Q = xW xSR 167 118 [.ref a0, .int a1, .int a2, .int a3, .int a4, .int a5, .int a6] (.int (y1 + y0) :: st) M Q) ∧
  (∀ (a0 : Nat) (a1 : Int32) (a2 : Int32) (a3 : Int32) (a4 : Int32) (a5 : Int32) (a6 : Int32) (y0 : Int32) (st : List Value) (M : xM) (Q : Option Value → xM → Prop), xW xSR 167 118 [.ref a0, .int a1, .int a2, .int a3, .int a4, .int a5, .int a6] (.int y0 :: .ref 0 :: st) M Q = xW xSR 167 121 [.ref a0, .int a1, .int a2, .int a3, .int a4, .int a5, .int a6] (st) (xup M 0 7 y0) Q) ∧
  (∀ (a0 : Nat) (a1 : Int32) (a2 : Int32) (a3 : Int32) (a4 : Int32) (a5 : Int32) (a6 : Int32) (st : List Value) (M : xM) (Q : Option Value → xM → Prop), xW xSR 167 121 [.ref a0, .int a1, .int a2, .int a3, .int a4, .int a5, .int a6] (st) M Q = xW xSR 167 122 [.ref a0, .int a1, .int a2, .int a3, .int a4, .int a5, .int a6] (.ref a0 :: st) M Q) ∧
  (∀ (a0 : Nat) (a1 : Int32) (a2 : Int32) (a3 : Int32) (a4 : Int32) (a5 : Int32) (a6 : Int32) (st : List Value) (M : xM) (Q : Option Value → xM → Prop), xW xSR 167 122 [.ref a0, .int a1, .int a2, .int a3, .int a4, .int a5, .int a6] (st) M Q = xW xSR 167 123 [.ref a0, .int a1, .int a2, .int a3, .int a4, .int a5, .int a6] (.ref a0 :: st) M Q) ∧
  (∀ (a0 : Nat) (a1 : Int32) (a2 : Int32) (a3 : Int32) (a4 : Int32) (a5 : Int32) (a6 : Int32) (st : List Value) (M : xM) (Q : Option Value → xM → Prop), xW xSR 167 123 [.ref a0, .int a1, .int a2, .int a3, .int a4, .int a5, .int a6] (.ref 0 :: st) M Q = xW xSR 167 126 [.ref a0, .int a1, .int a2, .int a3, .int a4, .int a5, .int a6] (.int (M 0 8) :: st) M Q) ∧
  (∀ (a0 : Nat) (a1 : Int32) (a2 : Int32) (a3 : Int32) (a4 : Int32) (a5 : Int32) (a6 : Int32) (st : List Value) (M : xM) (Q : Option Value → xM → Prop), xW xSR 167 126 [.ref a0, .int a1, .int a2, .int a3, .int a4, .int a5, .int a6] (st) M Q = xW xSR 167 128 [.ref a0, .int a1, .int a2, .int a3, .int a4, .int a5, .int a6] (.int a6 :: st) M Q) ∧
  (∀ (a0 : Nat) (a1 : Int32) (a2 : Int32) (a3 : Int32) (a4 : Int32) (a5 : Int32) (a6 : Int32) (y0 : Int32) (y1 : Int32) (st : List Value) (M : xM) (Q : Option Value → xM → Prop), xW xSR 167 128 [.ref a0, .int a1, .int a2, .int a3, .int a4, .int a5, .int a6] (.int y0 :: .int y1 :: st) M Q = xW xSR 167 129 [.ref a0, .int a1, .int a2, .int a3, .int a4, .int a5, .int a6] (.int (y1 * y0) :: st) M Q) ∧
  (∀ (a0 : Nat) (a1 : Int32) (a2 : Int32) (a3 : Int32) (a4 : Int32) (a5 : Int32) (a6 : Int32) (y0 : Int32) (st : List Value) (M : xM) (Q : Option Value → xM → Prop), xW xSR 167 129 [.ref a0, .int a1, .int a2, .int a3, .int a4, .int a5, .int a6] (.int y0 :: .ref 0 :: st) M Q = xW xSR 167 132 [.ref a0, .int a1, .int a2, .int a3, .int a4, .int a5, .int a6] (st) (xup M 0 8 y0) Q) ∧
  (∀ (a0 : Nat) (a1 : Int32) (a2 : Int32) (a3 : Int32) (a4 : Int32) (a5 : Int32) (a6 : Value) (st : List Value) (M : xM) (Q : Option Value → xM → Prop), xW xSR 167 133 [.ref a0, .int a1, .int a2, .int a3, .int a4, .int a5, a6] (.ref 0 :: st) M Q = xW xSR 167 136 [.ref a0, .int a1, .int a2, .int a3, .int a4, .int a5, a6] (.int (M 0 7) :: st) M Q) ∧
  (∀ (a0 : Nat) (a1 : Int32) (a2 : Int32) (a3 : Int32) (a4 : Int32) (a5 : Int32) (a6 : Value) (st : List Value) (M : xM) (Q : Option Value → xM → Prop), xW xSR 167 136 [.ref a0, .int a1, .int a2, .int a3, .int a4, .int a5, a6] (st) M Q = xW xSR 167 137 [.ref a0, .int a1, .int a2, .int a3, .int a4, .int a5, a6] (.ref a0 :: st) M Q) ∧
  (∀ (a0 : Nat) (a1 : Int32) (a2 : Int32) (a3 : Int32) (a4 : Int32) (a5 : Int32) (a6 : Value) (st : List Value) (M : xM) (Q : Option Value → xM → Prop), xW xSR 167 137 [.ref a0, .int a1, .int a2, .int a3, .int a4, .int a5, a6] (.ref 0 :: st) M Q = xW xSR 167 140 [.ref a0, .int a1, .int a2, .int a3, .int a4, .int a5, a6] (.int (M 0 8) :: st) M Q) ∧
  (∀ (a0 : Nat) (a1 : Int32) (a2 : Int32) (a3 : Int32) (a4 : Int32) (a5 : Int32) (a6 : Value) (y0 : Int32) (y1 : Int32) (M : xM) (Q : Option Value → xM → Prop), xW xSR 167 140 [.ref a0, .int a1, .int a2, .int a3, .int a4, .int a5, a6] (.int y0 :: .int y1 :: []) M Q = xW xSR 166 0 [.int y1, .int y0, .null, .null, .null] [] M (fun v M' => xW xSR 167 143 [.ref a0, .int a1, .int a2, .int a3, .int a4, .int a5, a6] (xpush v []) M' Q)) ∧
  (∀ (a0 : Nat) (a1 : Int32) (a2 : Int32) (a3 : Int32) (a4 : Int32) (a5 : Int32) (a6 : Value) (y0 : Int32) (st : List Value) (M : xM) (Q : Option Value → xM → Prop), xW xSR 167 143 [.ref a0, .int a1, .int a2, .int a3, .int a4, .int a5, a6] (.int y0 :: st) M Q = xW xSR 167 145 [.ref a0, .int a1, .int a2, .int a3, .int a4, .int a5, .int y0] (st) M Q) ∧
  (∀ (a0 : Nat) (a1 : Int32) (a2 : Int32) (a3 : Int32) (a4 : Int32) (a5 : Int32) (a6 : Int32) (st : List Value) (M : xM) (Q : Option Value → xM → Prop), xW xSR 167 145 [.ref a0, .int a1, .int a2, .int a3, .int a4, .int a5, .int a6] (st) M Q = xW xSR 167 146 [.ref a0, .int a1, .int a2, .int a3, .int a4, .int a5, .int a6] (.ref a0 :: st) M Q) ∧
  (∀ (a0 : Nat) (a1 : Int32) (a2 : Int32) (a3 : Int32) (a4 : Int32) (a5 : Int32) (a6 : Int32) (y0 : Nat) (st : List Value) (M : xM) (Q : Option Value → xM → Prop), xW xSR 167 146 [.ref a0, .int a1, .int a2, .int a3, .int a4, .int a5, .int a6] (.ref y0 :: st) M Q = xW xSR 167 147 [.ref a0, .int a1, .int a2, .int a3, .int a4, .int a5, .int a6] (.ref y0 :: .ref y0 :: st) M Q) ∧
  (∀ (a0 : Nat) (a1 : Int32) (a2 : Int32) (a3 : Int32) (a4 : Int32) (a5 : Int32) (a6 : Int32) (st : List Value) (M : xM) (Q : Option Value → xM → Prop), xW xSR 167 147 [.ref a0, .int a1, .int a2, .int a3, .int a4, .int a5, .int a6] (.ref 0 :: st) M Q = xW xSR 167 150 [.ref a0, .int a1, .int a2, .int a3, .int a4, .int a5, .int a6] (.int (M 0 7) :: st) M Q) ∧
  (∀ (a0 : Nat) (a1 : Int32) (a2 : Int32) (a3 : Int32) (a4 : Int32) (a5 : Int32) (a6 : Int32) (st : List Value) (M : xM) (Q : Option Value → xM → Prop), xW xSR 167 150 [.ref a0, .int a1, .int a2, .int a3, .int a4, .int a5, .int a6] (st) M Q = xW xSR 167 152 [.ref a0, .int a1, .int a2, .int a3, .int a4, .int a5, .int a6] (.int a6 :: st) M Q) ∧
  (∀ (a0 : Nat) (a1 : Int32) (a2 : Int32) (a3 : Int32) (a4 : Int32) (a5 : Int32) (a6 : Int32) (y0 : Nat) (y1 : Int32) (st : List Value) (M : xM) (Q : Option Value → xM → Prop), 0 < y0 → y0 < 2 ^ 31 → xW xSR 167 152 [.ref a0, .int a1, .int a2, .int a3, .int a4, .int a5, .int a6] (.int (nI y0) :: .int y1 :: st) M Q = xW xSR 167 153 [.ref a0, .int a1, .int a2, .int a3, .int a4, .int a5, .int a6] (.int (y1 / nI y0) :: st) M Q) ∧
  (∀ (a0 : Nat) (a1 : Int32) (a2 : Int32) (a3 : Int32) (a4 : Int32) (a5 : Int32) (a6 : Int32) (y0 : Int32) (st : List Value) (M : xM) (Q : Option Value → xM → Prop), xW xSR 167 153 [.ref a0, .int a1, .int a2, .int a3, .int a4, .int a5, .int a6] (.int y0 :: .ref 0 :: st) M Q = xW xSR 167 156 [.ref a0, .int a1, .int a2, .int a3, .int a4, .int a5, .int a6] (st) (xup M 0 7 y0) Q) ∧
  (∀ (a0 : Nat) (a1 : Int32) (a2 : Int32) (a3 : Int32) (a4 : Int32) (a5 : Int32) (a6 : Int32) (st : List Value) (M : xM) (Q : Option Value → xM → Prop), xW xSR 167 156 [.ref a0, .int a1, .int a2, .int a3, .int a4, .int a5, .int a6] (st) M Q = xW xSR 167 157 [.ref a0, .int a1, .int a2, .int a3, .int a4, .int a5, .int a6] (.ref a0 :: st) M Q) ∧
  (∀ (a0 : Nat) (a1 : Int32) (a2 : Int32) (a3 : Int32) (a4 : Int32) (a5 : Int32) (a6 : Int32) (y0 : Nat) (st : List Value) (M : xM) (Q : Option Value → xM → Prop), xW xSR 167 157 [.ref a0, .int a1, .int a2, .int a3, .int a4, .int a5, .int a6] (.ref y0 :: st) M Q = xW xSR 167 158 [.ref a0, .int a1, .int a2, .int a3, .int a4, .int a5, .int a6] (.ref y0 :: .ref y0 :: st) M Q) ∧
  (∀ (a0 : Nat) (a1 : Int32) (a2 : Int32) (a3 : Int32) (a4 : Int32) (a5 : Int32) (a6 : Int32) (st : List Value) (M : xM) (Q : Option Value → xM → Prop), xW xSR 167 158 [.ref a0, .int a1, .int a2, .int a3, .int a4, .int a5, .int a6] (.ref 0 :: st) M Q = xW xSR 167 161 [.ref a0, .int a1, .int a2, .int a3, .int a4, .int a5, .int a6] (.int (M 0 8) :: st) M Q) ∧
  (∀ (a0 : Nat) (a1 : Int32) (a2 : Int32) (a3 : Int32) (a4 : Int32) (a5 : Int32) (a6 : Int32) (st : List Value) (M : xM) (Q : Option Value → xM → Prop), xW xSR 167 161 [.ref a0, .int a1, .int a2, .int a3, .int a4, .int a5, .int a6] (st) M Q = xW xSR 167 163 [.ref a0, .int a1, .int a2, .int a3, .int a4, .int a5, .int a6] (.int a6 :: st) M Q) ∧
  (∀ (a0 : Nat) (a1 : Int32) (a2 : Int32) (a3 : Int32) (a4 : Int32) (a5 : Int32) (a6 : Int32) (y0 : Nat) (y1 : Int32) (st : List Value) (M : xM) (Q : Option Value → xM → Prop), 0 < y0 → y0 < 2 ^ 31 → xW xSR 167 163 [.ref a0, .int a1, .int a2, .int a3, .int a4, .int a5, .int a6] (.int (nI y0) :: .int y1 :: st) M Q = xW xSR 167 164 [.ref a0, .int a1, .int a2, .int a3, .int a4, .int a5, .int a6] (.int (y1 / nI y0) :: st) M Q) ∧
  (∀ (a0 : Nat) (a1 : Int32) (a2 : Int32) (a3 : Int32) (a4 : Int32) (a5 : Int32) (a6 : Int32) (y0 : Int32) (st : List Value) (M : xM) (Q : Option Value → xM → Prop), xW xSR 167 164 [.ref a0, .int a1, .int a2, .int a3, .int a4, .int a5, .int a6] (.int y0 :: .ref 0 :: st) M Q = xW xSR 167 167 [.ref a0, .int a1, .int a2, .int a3, .int a4, .int a5, .int a6] (st) (xup M 0 8 y0) Q) ∧
  (∀ (a0 : Nat) (a1 : Int32) (a2 : Int32) (a3 : Int32) (a4 : Int32) (a5 : Int32) (a6 : Int32) (M : xM) (Q : Option Value → xM → Prop), xW xSR 167 167 [.ref a0, .int a1, .int a2, .int a3, .int a4, .int a5, .int a6] ([]) M Q = Q none M) :=
  ⟨fun a0 a1 a2 a3 a4 a5 a6 st M Q => xw_s rfl rfl,
  fun a0 a1 a2 a3 a4 a5 a6 st M Q => xw_s rfl rfl,
  fun a0 a1 a2 a3 a4 a5 a6 st M Q => xw_s rfl rfl,
  fun a0 a1 a2 a3 a4 a5 a6 y0 y1 M Q => xw_call rfl rfl rfl,
  fun a0 a1 a2 a3 a4 a5 a6 y0 st M Q => xw_s rfl rfl,
  fun a0 a1 a2 a3 a4 a5 a6 st M Q => xw_s rfl rfl,
  fun a0 a1 a2 a3 a4 a5 a6 st M Q => xw_s rfl rfl,
  fun a0 a1 a2 a3 a4 a5 a6 st M Q => xw_s rfl rfl,
  fun a0 a1 a2 a3 a4 a5 a6 y0 y1 st M Q => xw_br (c0 := y1 = y0) rfl rfl,
  fun a0 a1 a2 a3 a4 a5 a6 st M Q => xw_s rfl rfl,
  fun a0 a1 a2 a3 a4 a5 a6 y0 st M Q => xw_br (c0 := y0 = nI 0) rfl rfl,
  fun a0 a1 a2 a3 a4 a5 a6 st M Q => xw_s rfl rfl,
  fun a0 a1 a2 a3 a4 a5 a6 st M Q => xw_s rfl rfl,
  fun a0 a1 a2 a3 a4 a5 a6 st M Q => xw_s rfl rfl,
  fun a0 a1 a2 a3 a4 a5 a6 st M Q => xw_s rfl rfl,
  fun a0 a1 a2 a3 a4 a5 a6 st M Q => xw_s rfl rfl,
  fun a0 a1 a2 a3 a4 a5 a6 y0 y1 st M Q => xw_s rfl rfl,
  fun a0 a1 a2 a3 a4 a5 a6 y0 st M Q h0 => xw_ald rfl rfl rfl (by decide) h0,
  fun a0 a1 a2 a3 a4 a5 a6 st M Q => xw_s rfl rfl,
  fun a0 a1 a2 a3 a4 a5 a6 st M Q => xw_s rfl rfl,
  fun a0 a1 a2 a3 a4 a5 a6 st M Q => xw_s rfl rfl,
  fun a0 a1 a2 a3 a4 a5 a6 st M Q => xw_s rfl rfl,
  fun a0 a1 a2 a3 a4 a5 a6 y0 st M Q h0 => xw_ald rfl rfl rfl (by decide) h0,
  fun a0 a1 a2 a3 a4 a5 a6 st M Q => xw_s rfl rfl,
  fun a0 a1 a2 a3 a4 a5 a6 st M Q => xw_s rfl rfl,
  fun a0 a1 a2 a3 a4 a5 a6 st M Q => xw_s rfl rfl,
  fun a0 a1 a2 a3 a4 a5 a6 y0 st M Q h0 => xw_ald rfl rfl rfl (by decide) h0,
  fun a0 a1 a2 a3 a4 a5 a6 y0 y1 st M Q => xw_s rfl rfl,
  fun a0 a1 a2 a3 a4 a5 a6 y0 st M Q => xw_s rfl rfl,
  fun a0 a1 a2 a3 a4 a5 a6 st M Q => xw_s rfl rfl,
  fun a0 a1 a2 a3 a4 a5 a6 st M Q => xw_s rfl rfl,
  fun a0 a1 a2 a3 a4 a5 a6 st M Q => xw_s rfl rfl,
  fun a0 a1 a2 a3 a4 a5 a6 st M Q => xw_s rfl rfl,
  fun a0 a1 a2 a3 a4 a5 a6 st M Q => xw_s rfl rfl,
  fun a0 a1 a2 a3 a4 a5 a6 y0 y1 st M Q => xw_s rfl rfl,
  fun a0 a1 a2 a3 a4 a5 a6 y0 y1 st M Q => xw_s rfl rfl,
  fun a0 a1 a2 a3 a4 a5 a6 st M Q => xw_s rfl rfl,
  fun a0 a1 a2 a3 a4 a5 a6 y0 y1 st M Q => xw_s rfl rfl,
  fun a0 a1 a2 a3 a4 a5 a6 y0 st M Q h0 => xw_ald rfl rfl rfl (by decide) h0,
  fun a0 a1 a2 a3 a4 a5 a6 st M Q => xw_s rfl rfl,
  fun a0 a1 a2 a3 a4 a5 a6 y0 y1 st M Q => xw_brn (c0 := y1 ≠ y0) (c1 := y1 = y0) rfl rfl (Iff.rfl),
  fun a0 a1 a2 a3 a4 a5 a6 st M Q => xw_s rfl rfl,
  fun a0 a1 a2 a3 a4 a5 a6 st M Q => xw_s rfl rfl,
  fun a0 a1 a2 a3 a4 a5 a6 y0 st M Q => xw_brn (c0 := nI 0 ≤ y0) (c1 := y0 < nI 0) rfl rfl (xge _ _),
  fun a0 a1 a2 a3 a4 a5 a6 st M Q => xw_s rfl rfl,
  fun a0 a1 a2 a3 a4 a5 a6 st M Q => xw_s rfl rfl,
  fun a0 a1 a2 a3 a4 a5 a6 st M Q => xw_s rfl rfl,
  fun a0 a1 a2 a3 a4 a5 a6 st M Q => xw_s rfl rfl,
  fun a0 a1 a2 a3 a4 a5 a6 st M Q => xw_s rfl rfl,
  fun a0 a1 a2 a3 a4 a5 a6 st M Q => xw_s rfl rfl,
  fun a0 a1 a2 a3 a4 a5 a6 st M Q => xw_s rfl rfl,
  fun a0 a1 a2 a3 a4 a5 a6 y0 y1 y2 y3 y4 M Q => xw_call rfl rfl rfl,
  fun a0 a1 a2 a3 a4 a5 a6 y0 st M Q h0 => xw_ald rfl rfl rfl (by decide) h0,
  fun a0 a1 a2 a3 a4 a5 a6 st M Q => xw_s rfl rfl,
  fun a0 a1 a2 a3 a4 a5 a6 st M Q => xw_s rfl rfl,
  fun a0 a1 a2 a3 a4 a5 a6 st M Q => xw_s rfl rfl,
  fun a0 a1 a2 a3 a4 a5 a6 st M Q => xw_s rfl rfl,
  fun a0 a1 a2 a3 a4 a5 a6 st M Q => xw_s rfl rfl,
  fun a0 a1 a2 a3 a4 a5 a6 y0 y1 y2 y3 y4 y5 M Q => xw_call rfl rfl rfl,
  fun a0 a1 a2 a3 a4 a5 a6 y0 st M Q h0 => xw_ald rfl rfl rfl (by decide) h0,
  fun a0 a1 a2 a3 a4 a5 a6 y0 y1 st M Q => xw_s rfl rfl,
  fun a0 a1 a2 a3 a4 a5 a6 y0 st M Q => xw_s rfl rfl,
  fun a0 a1 a2 a3 a4 a5 a6 st M Q => xw_s rfl rfl,
  fun a0 a1 a2 a3 a4 a5 a6 st M Q => xw_s rfl rfl,
  fun a0 a1 a2 a3 a4 a5 a6 st M Q => xw_s rfl rfl,
  fun a0 a1 a2 a3 a4 a5 a6 st M Q => xw_s rfl rfl,
  fun a0 a1 a2 a3 a4 a5 a6 y0 y1 st M Q => xw_s rfl rfl,
  fun a0 a1 a2 a3 a4 a5 a6 st M Q => xw_s rfl rfl,
  fun a0 a1 a2 a3 a4 a5 a6 st M Q => xw_s rfl rfl,
  fun a0 a1 a2 a3 a4 a5 a6 y0 y1 st M Q => xw_s rfl rfl,
  fun a0 a1 a2 a3 a4 a5 a6 y0 st M Q => xw_s rfl rfl,
  fun a0 a1 a2 a3 a4 a5 a6 st M Q => xw_s rfl rfl,
  fun a0 a1 a2 a3 a4 a5 a6 st M Q => xw_s rfl rfl,
  fun a0 a1 a2 a3 a4 a5 a6 st M Q => xw_s rfl rfl,
  fun a0 a1 a2 a3 a4 a5 a6 st M Q => xw_s rfl rfl,
  fun a0 a1 a2 a3 a4 a5 a6 y0 y1 st M Q => xw_s rfl rfl,
  fun a0 a1 a2 a3 a4 a5 a6 y0 st M Q => xw_s rfl rfl,
  fun a0 a1 a2 a3 a4 a5 a6 st M Q => xw_s rfl rfl,
  fun a0 a1 a2 a3 a4 a5 a6 st M Q => xw_s rfl rfl,
  fun a0 a1 a2 a3 a4 a5 a6 st M Q => xw_s rfl rfl,
  fun a0 a1 a2 a3 a4 a5 a6 y0 y1 M Q => xw_call rfl rfl rfl,
  fun a0 a1 a2 a3 a4 a5 a6 y0 st M Q => xw_s rfl rfl,
  fun a0 a1 a2 a3 a4 a5 a6 st M Q => xw_s rfl rfl,
  fun a0 a1 a2 a3 a4 a5 a6 y0 st M Q => xw_s rfl rfl,
  fun a0 a1 a2 a3 a4 a5 a6 st M Q => xw_s rfl rfl,
  fun a0 a1 a2 a3 a4 a5 a6 st M Q => xw_s rfl rfl,
  fun a0 a1 a2 a3 a4 a5 a6 y0 y1 st M Q h0 h1 => xw_div (f := fun x y => x / y) rfl rfl (nI_ne0 h0 h1),
  fun a0 a1 a2 a3 a4 a5 a6 y0 st M Q => xw_s rfl rfl,
  fun a0 a1 a2 a3 a4 a5 a6 st M Q => xw_s rfl rfl,
  fun a0 a1 a2 a3 a4 a5 a6 y0 st M Q => xw_s rfl rfl,
  fun a0 a1 a2 a3 a4 a5 a6 st M Q => xw_s rfl rfl,
  fun a0 a1 a2 a3 a4 a5 a6 st M Q => xw_s rfl rfl,
  fun a0 a1 a2 a3 a4 a5 a6 y0 y1 st M Q h0 h1 => xw_div (f := fun x y => x / y) rfl rfl (nI_ne0 h0 h1),
  fun a0 a1 a2 a3 a4 a5 a6 y0 st M Q => xw_s rfl rfl,
  fun a0 a1 a2 a3 a4 a5 a6 M Q => xw_retv rfl rfl⟩
set_option maxRecDepth 20000 in
theorem h167_20 :
  (∀ (a0 : Nat) (a1 : Int32) (a2 : Int32) (a3 : Int32) (a4 : Int32) (a5 : Int32) (a6 : Value) (st : List Value) (M : xM) (Q : Option Value → xM → Prop), xW xSR 167 20 [.ref a0, .int a1, .int a2, .int a3, .int a4, .int a5, a6] (st) M Q = xW xSR 167 21 [.ref a0, .int a1, .int a2, .int a3, .int a4, .int a5, a6] (.int (nI 0) :: st) M Q) :=
  fun a0 a1 a2 a3 a4 a5 a6 st M Q => xw_s rfl rfl
set_option maxRecDepth 20000 in
theorem h167_33 :
  (∀ (a0 : Nat) (a1 : Int32) (a2 : Int32) (a3 : Int32) (a4 : Int32) (a5 : Int32) (a6 : Value) (y0 : Int32) (st : List Value) (M : xM) (Q : Option Value → xM → Prop), xW xSR 167 33 [.ref a0, .int a1, .int a2, .int a3, .int a4, .int a5, a6] (.int y0 :: .ref 0 :: st) M Q = xW xSR 167 36 [.ref a0, .int a1, .int a2, .int a3, .int a4, .int a5, a6] (st) (xup M 0 7 y0) Q) :=
  fun a0 a1 a2 a3 a4 a5 a6 y0 st M Q => xw_s rfl rfl
set_option maxRecDepth 20000 in
theorem h167_102 :
  (∀ (a0 : Nat) (a1 : Int32) (a2 : Int32) (a3 : Int32) (a4 : Int32) (a5 : Int32) (a6 : Value) (y0 : Int32) (y1 : Int32) (st : List Value) (M : xM) (Q : Option Value → xM → Prop), xW xSR 167 102 [.ref a0, .int a1, .int a2, .int a3, .int a4, .int a5, a6] (.int y0 :: .int y1 :: st) M Q = xW xSR 167 103 [.ref a0, .int a1, .int a2, .int a3, .int a4, .int a5, a6] (.int (y1 + y0) :: st) M Q) :=
  fun a0 a1 a2 a3 a4 a5 a6 y0 y1 st M Q => xw_s rfl rfl
set_option maxRecDepth 20000 in
theorem h167_132 :
  (∀ (a0 : Nat) (a1 : Int32) (a2 : Int32) (a3 : Int32) (a4 : Int32) (a5 : Int32) (a6 : Value) (st : List Value) (M : xM) (Q : Option Value → xM → Prop), xW xSR 167 132 [.ref a0, .int a1, .int a2, .int a3, .int a4, .int a5, a6] (st) M Q = xW xSR 167 133 [.ref a0, .int a1, .int a2, .int a3, .int a4, .int a5, a6] (.ref a0 :: st) M Q) :=
  fun a0 a1 a2 a3 a4 a5 a6 st M Q => xw_s rfl rfl
set_option maxRecDepth 20000 in
theorem j167 :
  (∀ (a0 : Nat) (a1 : Int32) (a2 : Int32) (a3 : Int32) (a4 : Int32) (a5 : Int32) (a6 : Value) (st : List Value) (M : xM) (Q : Option Value → xM → Prop), xW xSR 167 20 [.ref a0, .int a1, .int a2, .int a3, .int a4, .int a5, a6] (st) M Q = xW xSR 167 21 [.ref a0, .int a1, .int a2, .int a3, .int a4, .int a5, a6] (.int (nI 0) :: st) M Q) ∧
  (∀ (a0 : Nat) (a1 : Int32) (a2 : Int32) (a3 : Int32) (a4 : Int32) (a5 : Int32) (a6 : Value) (y0 : Int32) (st : List Value) (M : xM) (Q : Option Value → xM → Prop), xW xSR 167 33 [.ref a0, .int a1, .int a2, .int a3, .int a4, .int a5, a6] (.int y0 :: .ref 0 :: st) M Q = xW xSR 167 36 [.ref a0, .int a1, .int a2, .int a3, .int a4, .int a5, a6] (st) (xup M 0 7 y0) Q) ∧
  (∀ (a0 : Nat) (a1 : Int32) (a2 : Int32) (a3 : Int32) (a4 : Int32) (a5 : Int32) (a6 : Value) (y0 : Int32) (y1 : Int32) (st : List Value) (M : xM) (Q : Option Value → xM → Prop), xW xSR 167 102 [.ref a0, .int a1, .int a2, .int a3, .int a4, .int a5, a6] (.int y0 :: .int y1 :: st) M Q = xW xSR 167 103 [.ref a0, .int a1, .int a2, .int a3, .int a4, .int a5, a6] (.int (y1 + y0) :: st) M Q) ∧
  (∀ (a0 : Nat) (a1 : Int32) (a2 : Int32) (a3 : Int32) (a4 : Int32) (a5 : Int32) (a6 : Value) (st : List Value) (M : xM) (Q : Option Value → xM → Prop), xW xSR 167 132 [.ref a0, .int a1, .int a2, .int a3, .int a4, .int a5, a6] (st) M Q = xW xSR 167 133 [.ref a0, .int a1, .int a2, .int a3, .int a4, .int a5, a6] (.ref a0 :: st) M Q) :=
  ⟨fun a0 a1 a2 a3 a4 a5 a6 st M Q => xw_s rfl rfl,
  fun a0 a1 a2 a3 a4 a5 a6 y0 st M Q => xw_s rfl rfl,
  fun a0 a1 a2 a3 a4 a5 a6 y0 y1 st M Q => xw_s rfl rfl,
  fun a0 a1 a2 a3 a4 a5 a6 st M Q => xw_s rfl rfl⟩
