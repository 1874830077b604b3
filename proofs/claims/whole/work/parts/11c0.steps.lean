set_option maxRecDepth 20000 in
theorem s69 :
  (∀ (a0 : Nat) (a1 : Int32) (st : List Value) (M : xM) (Q : Option Value → xM → Prop), xW xSC 69 0 [.ref a0, .int a1] (st) M Q = xW xSC 69 1 [.ref a0, .int a1] (.ref a0 :: st) M Q) ∧
  (∀ (a0 : Nat) (a1 : Int32) (st : List Value) (M : xM) (Q : Option Value → xM → Prop), xW xSC 69 1 [.ref a0, .int a1] (.ref 1 :: st) M Q = xW xSC 69 4 [.ref a0, .int a1] (.int (M 1 4) :: st) M Q) ∧
  (∀ (a0 : Nat) (a1 : Int32) (y0 : Int32) (st : List Value) (M : xM) (Q : Option Value → xM → Prop), xW xSC 69 4 [.ref a0, .int a1] (.int y0 :: st) M Q = if y0 < nI 0 then xW xSC 69 39 [.ref a0, .int a1] (st) M Q else xW xSC 69 7 [.ref a0, .int a1] (st) M Q) ∧
  (∀ (a0 : Nat) (a1 : Int32) (st : List Value) (M : xM) (Q : Option Value → xM → Prop), xW xSC 69 7 [.ref a0, .int a1] (st) M Q = xW xSC 69 8 [.ref a0, .int a1] (.ref a0 :: st) M Q) ∧
  (∀ (a0 : Nat) (a1 : Int32) (st : List Value) (M : xM) (Q : Option Value → xM → Prop), xW xSC 69 8 [.ref a0, .int a1] (.ref 1 :: st) M Q = xW xSC 69 11 [.ref a0, .int a1] (.int (M 1 4) :: st) M Q) ∧
  (∀ (a0 : Nat) (a1 : Int32) (st : List Value) (M : xM) (Q : Option Value → xM → Prop), xW xSC 69 11 [.ref a0, .int a1] (st) M Q = xW xSC 69 12 [.ref a0, .int a1] (.ref a0 :: st) M Q) ∧
  (∀ (a0 : Nat) (a1 : Int32) (st : List Value) (M : xM) (Q : Option Value → xM → Prop), xW xSC 69 12 [.ref a0, .int a1] (.ref 1 :: st) M Q = xW xSC 69 15 [.ref a0, .int a1] (.ref 2 :: st) M Q) ∧
  (∀ (a0 : Nat) (a1 : Int32) (st : List Value) (M : xM) (Q : Option Value → xM → Prop), xW xSC 69 15 [.ref a0, .int a1] (.ref 2 :: st) M Q = xW xSC 69 16 [.ref a0, .int a1] (.int (nI 200) :: st) M Q) ∧
  (∀ (a0 : Nat) (a1 : Int32) (y0 : Int32) (y1 : Int32) (st : List Value) (M : xM) (Q : Option Value → xM → Prop), xW xSC 69 16 [.ref a0, .int a1] (.int y0 :: .int y1 :: st) M Q = if y1 < y0 then xW xSC 69 19 [.ref a0, .int a1] (st) M Q else xW xSC 69 39 [.ref a0, .int a1] (st) M Q) ∧
  (∀ (a0 : Nat) (a1 : Int32) (st : List Value) (M : xM) (Q : Option Value → xM → Prop), xW xSC 69 19 [.ref a0, .int a1] (st) M Q = xW xSC 69 20 [.ref a0, .int a1] (.ref a0 :: st) M Q) ∧
  (∀ (a0 : Nat) (a1 : Int32) (st : List Value) (M : xM) (Q : Option Value → xM → Prop), xW xSC 69 20 [.ref a0, .int a1] (.ref 1 :: st) M Q = xW xSC 69 23 [.ref a0, .int a1] (.ref 2 :: st) M Q) ∧
  (∀ (a0 : Nat) (a1 : Int32) (st : List Value) (M : xM) (Q : Option Value → xM → Prop), xW xSC 69 23 [.ref a0, .int a1] (st) M Q = xW xSC 69 24 [.ref a0, .int a1] (.ref a0 :: st) M Q) ∧
  (∀ (a0 : Nat) (a1 : Int32) (st : List Value) (M : xM) (Q : Option Value → xM → Prop), xW xSC 69 24 [.ref a0, .int a1] (.ref 1 :: st) M Q = xW xSC 69 27 [.ref a0, .int a1] (.int (M 1 4) :: st) M Q) ∧
  (∀ (a0 : Nat) (a1 : Int32) (st : List Value) (M : xM) (Q : Option Value → xM → Prop), xW xSC 69 27 [.ref a0, .int a1] (st) M Q = xW xSC 69 28 [.ref a0, .int a1] (.int a1 :: st) M Q) ∧
  (∀ (a0 : Nat) (a1 : Int32) (y0 : Int32) (y1 : Nat) (st : List Value) (M : xM) (Q : Option Value → xM → Prop), y1 < 200 → xW xSC 69 28 [.ref a0, .int a1] (.int y0 :: .int (nI y1) :: .ref 2 :: st) M Q = xW xSC 69 29 [.ref a0, .int a1] (st) (xup M 2 y1 (vp_nar .char y0)) Q) ∧
  (∀ (a0 : Nat) (a1 : Int32) (st : List Value) (M : xM) (Q : Option Value → xM → Prop), xW xSC 69 29 [.ref a0, .int a1] (st) M Q = xW xSC 69 30 [.ref a0, .int a1] (.ref a0 :: st) M Q) ∧
  (∀ (a0 : Nat) (a1 : Int32) (y0 : Nat) (st : List Value) (M : xM) (Q : Option Value → xM → Prop), xW xSC 69 30 [.ref a0, .int a1] (.ref y0 :: st) M Q = xW xSC 69 31 [.ref a0, .int a1] (.ref y0 :: .ref y0 :: st) M Q) ∧
  (∀ (a0 : Nat) (a1 : Int32) (st : List Value) (M : xM) (Q : Option Value → xM → Prop), xW xSC 69 31 [.ref a0, .int a1] (.ref 1 :: st) M Q = xW xSC 69 34 [.ref a0, .int a1] (.int (M 1 4) :: st) M Q) ∧
  (∀ (a0 : Nat) (a1 : Int32) (st : List Value) (M : xM) (Q : Option Value → xM → Prop), xW xSC 69 34 [.ref a0, .int a1] (st) M Q = xW xSC 69 35 [.ref a0, .int a1] (.int (nI 1) :: st) M Q) ∧
  (∀ (a0 : Nat) (a1 : Int32) (y0 : Int32) (y1 : Int32) (st : List Value) (M : xM) (Q : Option Value → xM → Prop), xW xSC 69 35 [.ref a0, .int a1] (.int y0 :: .int y1 :: st) M Q = xW xSC 69 36 [.ref a0, .int a1] (.int (y1 + y0) :: st) M Q) ∧
  (∀ (a0 : Nat) (a1 : Int32) (y0 : Int32) (st : List Value) (M : xM) (Q : Option Value → xM → Prop), xW xSC 69 36 [.ref a0, .int a1] (.int y0 :: .ref 1 :: st) M Q = xW xSC 69 39 [.ref a0, .int a1] (st) (xup M 1 4 y0) Q) :=
  ⟨fun a0 a1 st M Q => xw_s rfl rfl,
  fun a0 a1 st M Q => xw_s rfl rfl,
  fun a0 a1 y0 st M Q => xw_br (c0 := y0 < nI 0) rfl rfl,
  fun a0 a1 st M Q => xw_s rfl rfl,
  fun a0 a1 st M Q => xw_s rfl rfl,
  fun a0 a1 st M Q => xw_s rfl rfl,
  fun a0 a1 st M Q => xw_s rfl rfl,
  fun a0 a1 st M Q => xw_s rfl rfl,
  fun a0 a1 y0 y1 st M Q => xw_brn (c0 := y0 ≤ y1) (c1 := y1 < y0) rfl rfl (xge _ _),
  fun a0 a1 st M Q => xw_s rfl rfl,
  fun a0 a1 st M Q => xw_s rfl rfl,
  fun a0 a1 st M Q => xw_s rfl rfl,
  fun a0 a1 st M Q => xw_s rfl rfl,
  fun a0 a1 st M Q => xw_s rfl rfl,
  fun a0 a1 y0 y1 st M Q h0 => xw_ast (f := vp_nar .char) rfl rfl rfl (by decide) h0,
  fun a0 a1 st M Q => xw_s rfl rfl,
  fun a0 a1 y0 st M Q => xw_s rfl rfl,
  fun a0 a1 st M Q => xw_s rfl rfl,
  fun a0 a1 st M Q => xw_s rfl rfl,
  fun a0 a1 y0 y1 st M Q => xw_s rfl rfl,
  fun a0 a1 y0 st M Q => xw_s rfl rfl⟩
set_option maxRecDepth 20000 in
theorem h69_39 :
  (∀ (a0 : Nat) (a1 : Int32) (M : xM) (Q : Option Value → xM → Prop), xW xSC 69 39 [.ref a0, .int a1] ([]) M Q = Q none M) :=
  fun a0 a1 M Q => xw_retv rfl rfl
set_option maxRecDepth 20000 in
theorem j69 :
  (∀ (a0 : Nat) (a1 : Int32) (M : xM) (Q : Option Value → xM → Prop), xW xSC 69 39 [.ref a0, .int a1] ([]) M Q = Q none M) :=
  fun a0 a1 M Q => xw_retv rfl rfl

set_option maxRecDepth 20000 in
theorem s70 :
  (∀ (a0 : Nat) (st : List Value) (M : xM) (Q : Option Value → xM → Prop), xW xSC 70 0 [.ref a0] (st) M Q = xW xSC 70 1 [.ref a0] (.ref a0 :: st) M Q) ∧
  (∀ (a0 : Nat) (st : List Value) (M : xM) (Q : Option Value → xM → Prop), xW xSC 70 1 [.ref a0] (st) M Q = xW xSC 70 2 [.ref a0] (.int (nI 0) :: st) M Q) ∧
  (∀ (a0 : Nat) (y0 : Int32) (st : List Value) (M : xM) (Q : Option Value → xM → Prop), xW xSC 70 2 [.ref a0] (.int y0 :: .ref 1 :: st) M Q = xW xSC 70 5 [.ref a0] (st) (xup M 1 4 y0) Q) ∧
  (∀ (a0 : Nat) (M : xM) (Q : Option Value → xM → Prop), xW xSC 70 5 [.ref a0] ([]) M Q = Q none M) :=
  ⟨fun a0 st M Q => xw_s rfl rfl,
  fun a0 st M Q => xw_s rfl rfl,
  fun a0 y0 st M Q => xw_s rfl rfl,
  fun a0 M Q => xw_retv rfl rfl⟩
theorem j70 : True := trivial

set_option maxRecDepth 20000 in
theorem s71 :
  (∀ (a0 : Nat) (a1 : Value) (a2 : Value) (st : List Value) (M : xM) (Q : Option Value → xM → Prop), xW xSC 71 0 [.ref a0, a1, a2] (st) M Q = xW xSC 71 1 [.ref a0, a1, a2] (.ref a0 :: st) M Q) ∧
  (∀ (a0 : Nat) (a1 : Value) (a2 : Value) (st : List Value) (M : xM) (Q : Option Value → xM → Prop), xW xSC 71 1 [.ref a0, a1, a2] (.ref 1 :: st) M Q = xW xSC 71 4 [.ref a0, a1, a2] (.ref 4 :: st) M Q) ∧
  (∀ (a0 : Nat) (a1 : Value) (a2 : Value) (M : xM) (Q : Option Value → xM → Prop), xW xSC 71 4 [.ref a0, a1, a2] (.ref 4 :: []) M Q = xW xSC 21 0 [.ref 4, .null] [] M (fun v M' => xW xSC 71 7 [.ref a0, a1, a2] (xpush v []) M' Q)) ∧
  (∀ (a0 : Nat) (a1 : Value) (a2 : Value) (st : List Value) (M : xM) (Q : Option Value → xM → Prop), xW xSC 71 7 [.ref a0, a1, a2] (st) M Q = xW xSC 71 8 [.ref a0, a1, a2] (.ref a0 :: st) M Q) ∧
  (∀ (a0 : Nat) (a1 : Value) (a2 : Value) (st : List Value) (M : xM) (Q : Option Value → xM → Prop), xW xSC 71 8 [.ref a0, a1, a2] (st) M Q = xW xSC 71 9 [.ref a0, a1, a2] (.int (nI 0) :: st) M Q) ∧
  (∀ (a0 : Nat) (a1 : Value) (a2 : Value) (y0 : Int32) (st : List Value) (M : xM) (Q : Option Value → xM → Prop), xW xSC 71 9 [.ref a0, a1, a2] (.int y0 :: .ref 1 :: st) M Q = xW xSC 71 12 [.ref a0, a1, a2] (st) (xup M 1 2 y0) Q) ∧
  (∀ (a0 : Nat) (a1 : Value) (a2 : Value) (st : List Value) (M : xM) (Q : Option Value → xM → Prop), xW xSC 71 12 [.ref a0, a1, a2] (st) M Q = xW xSC 71 13 [.ref a0, a1, a2] (.ref a0 :: st) M Q) ∧
  (∀ (a0 : Nat) (a1 : Value) (a2 : Value) (st : List Value) (M : xM) (Q : Option Value → xM → Prop), xW xSC 71 13 [.ref a0, a1, a2] (st) M Q = xW xSC 71 14 [.ref a0, a1, a2] (.int (nI 1) :: st) M Q) ∧
  (∀ (a0 : Nat) (a1 : Value) (a2 : Value) (y0 : Int32) (st : List Value) (M : xM) (Q : Option Value → xM → Prop), y0 = 0 ∨ y0 = 1 → xW xSC 71 14 [.ref a0, a1, a2] (.int y0 :: .ref 1 :: st) M Q = xW xSC 71 17 [.ref a0, a1, a2] (st) (xup M 1 3 y0) Q) ∧
  (∀ (a0 : Nat) (a1 : Value) (a2 : Value) (st : List Value) (M : xM) (Q : Option Value → xM → Prop), xW xSC 71 17 [.ref a0, a1, a2] (st) M Q = xW xSC 71 18 [.ref a0, a1, a2] (.int (nI 0) :: st) M Q) ∧
  (∀ (a0 : Nat) (a1 : Value) (a2 : Value) (y0 : Int32) (st : List Value) (M : xM) (Q : Option Value → xM → Prop), xW xSC 71 18 [.ref a0, a1, a2] (.int y0 :: st) M Q = xW xSC 71 19 [.ref a0, .int y0, a2] (st) M Q) ∧
  (∀ (a0 : Nat) (a1 : Int32) (a2 : Value) (st : List Value) (M : xM) (Q : Option Value → xM → Prop), xW xSC 71 20 [.ref a0, .int a1, a2] (st) M Q = xW xSC 71 23 [.ref a0, .int a1, a2] (.int (nI 200) :: st) M Q) ∧
  (∀ (a0 : Nat) (a1 : Int32) (a2 : Value) (y0 : Int32) (y1 : Int32) (st : List Value) (M : xM) (Q : Option Value → xM → Prop), xW xSC 71 23 [.ref a0, .int a1, a2] (.int y0 :: .int y1 :: st) M Q = if y1 < y0 then xW xSC 71 26 [.ref a0, .int a1, a2] (st) M Q else xW xSC 71 62 [.ref a0, .int a1, a2] (st) M Q) ∧
  (∀ (a0 : Nat) (a1 : Int32) (a2 : Value) (st : List Value) (M : xM) (Q : Option Value → xM → Prop), xW xSC 71 26 [.ref a0, .int a1, a2] (st) M Q = xW xSC 71 27 [.ref a0, .int a1, a2] (.ref a0 :: st) M Q) ∧
  (∀ (a0 : Nat) (a1 : Int32) (a2 : Value) (st : List Value) (M : xM) (Q : Option Value → xM → Prop), xW xSC 71 27 [.ref a0, .int a1, a2] (.ref 1 :: st) M Q = xW xSC 71 30 [.ref a0, .int a1, a2] (.int (M 1 2) :: st) M Q) ∧
  (∀ (a0 : Nat) (a1 : Int32) (a2 : Value) (st : List Value) (M : xM) (Q : Option Value → xM → Prop), xW xSC 71 30 [.ref a0, .int a1, a2] (st) M Q = xW xSC 71 31 [.ref a0, .int a1, a2] (.ref a0 :: st) M Q) ∧
  (∀ (a0 : Nat) (a1 : Int32) (a2 : Value) (st : List Value) (M : xM) (Q : Option Value → xM → Prop), xW xSC 71 31 [.ref a0, .int a1, a2] (.ref 1 :: st) M Q = xW xSC 71 34 [.ref a0, .int a1, a2] (.int (M 1 4) :: st) M Q) ∧
  (∀ (a0 : Nat) (a1 : Int32) (a2 : Value) (y0 : Int32) (y1 : Int32) (st : List Value) (M : xM) (Q : Option Value → xM → Prop), xW xSC 71 34 [.ref a0, .int a1, a2] (.int y0 :: .int y1 :: st) M Q = if y1 < y0 then xW xSC 71 37 [.ref a0, .int a1, a2] (st) M Q else xW xSC 71 62 [.ref a0, .int a1, a2] (st) M Q) ∧
  (∀ (a0 : Nat) (a1 : Int32) (a2 : Value) (st : List Value) (M : xM) (Q : Option Value → xM → Prop), xW xSC 71 37 [.ref a0, .int a1, a2] (st) M Q = xW xSC 71 38 [.ref a0, .int a1, a2] (.ref a0 :: st) M Q) ∧
  (∀ (a0 : Nat) (a1 : Int32) (a2 : Value) (st : List Value) (M : xM) (Q : Option Value → xM → Prop), xW xSC 71 38 [.ref a0, .int a1, a2] (.ref 1 :: st) M Q = xW xSC 71 41 [.ref a0, .int a1, a2] (.int (M 1 2) :: st) M Q) ∧
  (∀ (a0 : Nat) (a1 : Int32) (a2 : Value) (y0 : Int32) (st : List Value) (M : xM) (Q : Option Value → xM → Prop), xW xSC 71 41 [.ref a0, .int a1, a2] (.int y0 :: st) M Q = xW xSC 71 42 [.ref a0, .int a1, .int y0] (st) M Q) ∧
  (∀ (a0 : Nat) (a1 : Int32) (a2 : Int32) (st : List Value) (M : xM) (Q : Option Value → xM → Prop), xW xSC 71 42 [.ref a0, .int a1, .int a2] (st) M Q = xW xSC 71 43 [.ref a0, .int a1, .int a2] (.ref a0 :: st) M Q) ∧
  (∀ (a0 : Nat) (a1 : Int32) (a2 : Int32) (st : List Value) (M : xM) (Q : Option Value → xM → Prop), xW xSC 71 43 [.ref a0, .int a1, .int a2] (st) M Q = xW xSC 71 44 [.ref a0, .int a1, .int a2] (.ref a0 :: st) M Q) ∧
  (∀ (a0 : Nat) (a1 : Int32) (a2 : Int32) (st : List Value) (M : xM) (Q : Option Value → xM → Prop), xW xSC 71 44 [.ref a0, .int a1, .int a2] (st) M Q = xW xSC 71 45 [.ref a0, .int a1, .int a2] (.int a2 :: st) M Q) ∧
  (∀ (a0 : Nat) (a1 : Int32) (a2 : Int32) (y0 : Int32) (y2 : Nat) (M : xM) (Q : Option Value → xM → Prop), xW xSC 71 45 [.ref a0, .int a1, .int a2] (.int y0 :: .ref 1 :: .ref y2 :: []) M Q = xW xSC 83 0 [.ref 1, .int y0, .null] [] M (fun v M' => xW xSC 71 48 [.ref a0, .int a1, .int a2] (xpush v [.ref y2]) M' Q)) ∧
  (∀ (a0 : Nat) (a1 : Int32) (a2 : Int32) (y0 : Int32) (M : xM) (Q : Option Value → xM → Prop), xW xSC 71 48 [.ref a0, .int a1, .int a2] (.int y0 :: .ref 1 :: []) M Q = xW xSC 72 0 [.ref 1, .int y0] [] M (fun v M' => xW xSC 71 51 [.ref a0, .int a1, .int a2] (xpush v []) M' Q)) ∧
  (∀ (a0 : Nat) (a1 : Int32) (a2 : Int32) (y0 : Int32) (st : List Value) (M : xM) (Q : Option Value → xM → Prop), xW xSC 71 51 [.ref a0, .int a1, .int a2] (.int y0 :: st) M Q = if y0 = nI 0 then xW xSC 71 54 [.ref a0, .int a1, .int a2] (st) M Q else xW xSC 71 56 [.ref a0, .int a1, .int a2] (st) M Q) ∧
  (∀ (a0 : Nat) (a1 : Int32) (a2 : Int32) (st : List Value) (M : xM) (Q : Option Value → xM → Prop), xW xSC 71 54 [.ref a0, .int a1, .int a2] (st) M Q = xW xSC 71 55 [.ref a0, .int a1, .int a2] (.int a2 :: st) M Q) ∧
  (∀ (a0 : Nat) (a1 : Int32) (a2 : Int32) (y0 : Int32) (M : xM) (Q : Option Value → xM → Prop), xW xSC 71 55 [.ref a0, .int a1, .int a2] ([.int y0]) M Q = Q (some (.int y0)) M) ∧
  (∀ (a0 : Nat) (a1 : Int32) (a2 : Int32) (st : List Value) (M : xM) (Q : Option Value → xM → Prop), xW xSC 71 56 [.ref a0, .int a1, .int a2] (st) M Q = xW xSC 71 59 [.ref a0, .int (a1 + nI 1), .int a2] (st) M Q) ∧
  (∀ (a0 : Nat) (a1 : Int32) (a2 : Int32) (st : List Value) (M : xM) (Q : Option Value → xM → Prop), xW xSC 71 59 [.ref a0, .int a1, .int a2] (st) M Q = xW xSC 71 19 [.ref a0, .int a1, .int a2] (st) M Q) ∧
  (∀ (a0 : Nat) (a1 : Int32) (a2 : Value) (y0 : Int32) (M : xM) (Q : Option Value → xM → Prop), xW xSC 71 64 [.ref a0, .int a1, a2] ([.int y0]) M Q = Q (some (.int y0)) M) :=
  ⟨fun a0 a1 a2 st M Q => xw_s rfl rfl,
  fun a0 a1 a2 st M Q => xw_s rfl rfl,
  fun a0 a1 a2 M Q => xw_call rfl rfl rfl,
  fun a0 a1 a2 st M Q => xw_s rfl rfl,
  fun a0 a1 a2 st M Q => xw_s rfl rfl,
  fun a0 a1 a2 y0 st M Q => xw_s rfl rfl,
  fun a0 a1 a2 st M Q => xw_s rfl rfl,
  fun a0 a1 a2 st M Q => xw_s rfl rfl,
  fun a0 a1 a2 y0 st M Q h0 => xw_putz rfl rfl rfl rfl rfl h0,
  fun a0 a1 a2 st M Q => xw_s rfl rfl,
  fun a0 a1 a2 y0 st M Q => xw_s rfl rfl,
  fun a0 a1 a2 st M Q => xw_s rfl rfl,
  fun a0 a1 a2 y0 y1 st M Q => xw_brn (c0 := y0 ≤ y1) (c1 := y1 < y0) rfl rfl (xge _ _),
  fun a0 a1 a2 st M Q => xw_s rfl rfl,
  fun a0 a1 a2 st M Q => xw_s rfl rfl,
  fun a0 a1 a2 st M Q => xw_s rfl rfl,
  fun a0 a1 a2 st M Q => xw_s rfl rfl,
  fun a0 a1 a2 y0 y1 st M Q => xw_brn (c0 := y0 ≤ y1) (c1 := y1 < y0) rfl rfl (xge _ _),
  fun a0 a1 a2 st M Q => xw_s rfl rfl,
  fun a0 a1 a2 st M Q => xw_s rfl rfl,
  fun a0 a1 a2 y0 st M Q => xw_s rfl rfl,
  fun a0 a1 a2 st M Q => xw_s rfl rfl,
  fun a0 a1 a2 st M Q => xw_s rfl rfl,
  fun a0 a1 a2 st M Q => xw_s rfl rfl,
  fun a0 a1 a2 y0 y2 M Q => xw_call rfl rfl rfl,
  fun a0 a1 a2 y0 M Q => xw_call rfl rfl rfl,
  fun a0 a1 a2 y0 st M Q => xw_brn (c0 := y0 ≠ nI 0) (c1 := y0 = nI 0) rfl rfl (Iff.rfl),
  fun a0 a1 a2 st M Q => xw_s rfl rfl,
  fun a0 a1 a2 y0 M Q => xw_ret rfl rfl,
  fun a0 a1 a2 st M Q => xw_s rfl rfl,
  fun a0 a1 a2 st M Q => xw_s rfl rfl,
  fun a0 a1 a2 y0 M Q => xw_ret rfl rfl⟩
set_option maxRecDepth 20000 in
theorem h71_19 :
  (∀ (a0 : Nat) (a1 : Int32) (a2 : Value) (st : List Value) (M : xM) (Q : Option Value → xM → Prop), xW xSC 71 19 [.ref a0, .int a1, a2] (st) M Q = xW xSC 71 20 [.ref a0, .int a1, a2] (.int a1 :: st) M Q) :=
  fun a0 a1 a2 st M Q => xw_s rfl rfl
set_option maxRecDepth 20000 in
theorem h71_62 :
  (∀ (a0 : Nat) (a1 : Int32) (a2 : Value) (st : List Value) (M : xM) (Q : Option Value → xM → Prop), xW xSC 71 62 [.ref a0, .int a1, a2] (st) M Q = xW xSC 71 64 [.ref a0, .int a1, a2] (.int (-4) :: st) M Q) :=
  fun a0 a1 a2 st M Q => xw_s rfl rfl
set_option maxRecDepth 20000 in
theorem j71 :
  (∀ (a0 : Nat) (a1 : Int32) (a2 : Value) (st : List Value) (M : xM) (Q : Option Value → xM → Prop), xW xSC 71 62 [.ref a0, .int a1, a2] (st) M Q = xW xSC 71 64 [.ref a0, .int a1, a2] (.int (-4) :: st) M Q) :=
  fun a0 a1 a2 st M Q => xw_s rfl rfl

set_option maxRecDepth 20000 in
theorem s72 :
  (∀ (a0 : Nat) (a1 : Int32) (st : List Value) (M : xM) (Q : Option Value → xM → Prop), xW xSC 72 0 [.ref a0, .int a1] (st) M Q = xW xSC 72 1 [.ref a0, .int a1] (.int a1 :: st) M Q) ∧
  (∀ (a0 : Nat) (a1 : Int32) (st : List Value) (M : xM) (Q : Option Value → xM → Prop), xW xSC 72 1 [.ref a0, .int a1] (st) M Q = xW xSC 72 3 [.ref a0, .int a1] (.int (nI 114) :: st) M Q) ∧
  (∀ (a0 : Nat) (a1 : Int32) (y0 : Int32) (y1 : Int32) (st : List Value) (M : xM) (Q : Option Value → xM → Prop), xW xSC 72 3 [.ref a0, .int a1] (.int y0 :: .int y1 :: st) M Q = if y1 = y0 then xW xSC 72 6 [.ref a0, .int a1] (st) M Q else xW xSC 72 27 [.ref a0, .int a1] (st) M Q) ∧
  (∀ (a0 : Nat) (a1 : Int32) (st : List Value) (M : xM) (Q : Option Value → xM → Prop), xW xSC 72 6 [.ref a0, .int a1] (st) M Q = xW xSC 72 7 [.ref a0, .int a1] (.ref a0 :: st) M Q) ∧
  (∀ (a0 : Nat) (a1 : Int32) (st : List Value) (M : xM) (Q : Option Value → xM → Prop), xW xSC 72 7 [.ref a0, .int a1] (st) M Q = xW xSC 72 8 [.ref a0, .int a1] (.int (nI 1) :: st) M Q) ∧
  (∀ (a0 : Nat) (a1 : Int32) (y0 : Int32) (M : xM) (Q : Option Value → xM → Prop), xW xSC 72 8 [.ref a0, .int a1] (.int y0 :: .ref 1 :: []) M Q = xW xSC 80 0 [.ref 1, .int y0, .null, .null, .null] [] M (fun v M' => xW xSC 72 11 [.ref a0, .int a1] (xpush v []) M' Q)) ∧
  (∀ (a0 : Nat) (a1 : Int32) (y0 : Int32) (st : List Value) (M : xM) (Q : Option Value → xM → Prop), xW xSC 72 11 [.ref a0, .int a1] (.int y0 :: st) M Q = if y0 = nI 0 then xW xSC 72 25 [.ref a0, .int a1] (st) M Q else xW xSC 72 14 [.ref a0, .int a1] (st) M Q) ∧
  (∀ (a0 : Nat) (a1 : Int32) (st : List Value) (M : xM) (Q : Option Value → xM → Prop), xW xSC 72 14 [.ref a0, .int a1] (st) M Q = xW xSC 72 15 [.ref a0, .int a1] (.ref a0 :: st) M Q) ∧
  (∀ (a0 : Nat) (a1 : Int32) (M : xM) (Q : Option Value → xM → Prop), xW xSC 72 15 [.ref a0, .int a1] (.ref 1 :: []) M Q = xW xSC 73 0 [.ref 1] [] M (fun v M' => xW xSC 72 18 [.ref a0, .int a1] (xpush v []) M' Q)) ∧
  (∀ (a0 : Nat) (a1 : Int32) (y0 : Int32) (st : List Value) (M : xM) (Q : Option Value → xM → Prop), xW xSC 72 18 [.ref a0, .int a1] (.int y0 :: st) M Q = if y0 = nI 0 then xW xSC 72 25 [.ref a0, .int a1] (st) M Q else xW xSC 72 21 [.ref a0, .int a1] (st) M Q) ∧
  (∀ (a0 : Nat) (a1 : Int32) (st : List Value) (M : xM) (Q : Option Value → xM → Prop), xW xSC 72 21 [.ref a0, .int a1] (st) M Q = xW xSC 72 22 [.ref a0, .int a1] (.int (nI 1) :: st) M Q) ∧
  (∀ (a0 : Nat) (a1 : Int32) (st : List Value) (M : xM) (Q : Option Value → xM → Prop), xW xSC 72 22 [.ref a0, .int a1] (st) M Q = xW xSC 72 26 [.ref a0, .int a1] (st) M Q) ∧
  (∀ (a0 : Nat) (a1 : Int32) (st : List Value) (M : xM) (Q : Option Value → xM → Prop), xW xSC 72 27 [.ref a0, .int a1] (st) M Q = xW xSC 72 28 [.ref a0, .int a1] (.ref a0 :: st) M Q) ∧
  (∀ (a0 : Nat) (a1 : Int32) (st : List Value) (M : xM) (Q : Option Value → xM → Prop), xW xSC 72 28 [.ref a0, .int a1] (st) M Q = xW xSC 72 29 [.ref a0, .int a1] (.int (nI 0) :: st) M Q) ∧
  (∀ (a0 : Nat) (a1 : Int32) (y0 : Int32) (st : List Value) (M : xM) (Q : Option Value → xM → Prop), y0 = 0 ∨ y0 = 1 → xW xSC 72 29 [.ref a0, .int a1] (.int y0 :: .ref 1 :: st) M Q = xW xSC 72 32 [.ref a0, .int a1] (st) (xup M 1 3 y0) Q) ∧
  (∀ (a0 : Nat) (a1 : Int32) (st : List Value) (M : xM) (Q : Option Value → xM → Prop), xW xSC 72 32 [.ref a0, .int a1] (st) M Q = xW xSC 72 33 [.ref a0, .int a1] (.int a1 :: st) M Q) ∧
  (∀ (a0 : Nat) (a1 : Int32) (st : List Value) (M : xM) (Q : Option Value → xM → Prop), xW xSC 72 33 [.ref a0, .int a1] (.int (nI 99) :: st) M Q = xW xSC 72 148 [.ref a0, .int a1] (st) M Q) ∧
  (∀ (a0 : Nat) (a1 : Int32) (st : List Value) (M : xM) (Q : Option Value → xM → Prop), xW xSC 72 33 [.ref a0, .int a1] (.int (nI 100) :: st) M Q = xW xSC 72 84 [.ref a0, .int a1] (st) M Q) ∧
  (∀ (a0 : Nat) (a1 : Int32) (st : List Value) (M : xM) (Q : Option Value → xM → Prop), xW xSC 72 33 [.ref a0, .int a1] (.int (nI 112) :: st) M Q = xW xSC 72 169 [.ref a0, .int a1] (st) M Q) ∧
  (∀ (a0 : Nat) (a1 : Int32) (st : List Value) (M : xM) (Q : Option Value → xM → Prop), xW xSC 72 33 [.ref a0, .int a1] (.int (nI 115) :: st) M Q = xW xSC 72 105 [.ref a0, .int a1] (st) M Q) ∧
  (∀ (a0 : Nat) (a1 : Int32) (st : List Value) (M : xM) (Q : Option Value → xM → Prop), xW xSC 72 33 [.ref a0, .int a1] (.int (nI 119) :: st) M Q = xW xSC 72 126 [.ref a0, .int a1] (st) M Q) ∧
  (∀ (a0 : Nat) (a1 : Int32) (st : List Value) (M : xM) (Q : Option Value → xM → Prop), xW xSC 72 84 [.ref a0, .int a1] (st) M Q = xW xSC 72 85 [.ref a0, .int a1] (.ref a0 :: st) M Q) ∧
  (∀ (a0 : Nat) (a1 : Int32) (st : List Value) (M : xM) (Q : Option Value → xM → Prop), xW xSC 72 85 [.ref a0, .int a1] (st) M Q = xW xSC 72 86 [.ref a0, .int a1] (.int (nI 4) :: st) M Q) ∧
  (∀ (a0 : Nat) (a1 : Int32) (y0 : Int32) (M : xM) (Q : Option Value → xM → Prop), xW xSC 72 86 [.ref a0, .int a1] (.int y0 :: .ref 1 :: []) M Q = xW xSC 80 0 [.ref 1, .int y0, .null, .null, .null] [] M (fun v M' => xW xSC 72 89 [.ref a0, .int a1] (xpush v []) M' Q)) ∧
  (∀ (a0 : Nat) (a1 : Int32) (y0 : Int32) (st : List Value) (M : xM) (Q : Option Value → xM → Prop), xW xSC 72 89 [.ref a0, .int a1] (.int y0 :: st) M Q = if y0 = nI 0 then xW xSC 72 103 [.ref a0, .int a1] (st) M Q else xW xSC 72 92 [.ref a0, .int a1] (st) M Q) ∧
  (∀ (a0 : Nat) (a1 : Int32) (st : List Value) (M : xM) (Q : Option Value → xM → Prop), xW xSC 72 92 [.ref a0, .int a1] (st) M Q = xW xSC 72 93 [.ref a0, .int a1] (.ref a0 :: st) M Q) ∧
  (∀ (a0 : Nat) (a1 : Int32) (M : xM) (Q : Option Value → xM → Prop), xW xSC 72 93 [.ref a0, .int a1] (.ref 1 :: []) M Q = xW xSC 74 0 [.ref 1, .null] [] M (fun v M' => xW xSC 72 96 [.ref a0, .int a1] (xpush v []) M' Q)) ∧
  (∀ (a0 : Nat) (a1 : Int32) (y0 : Int32) (st : List Value) (M : xM) (Q : Option Value → xM → Prop), xW xSC 72 96 [.ref a0, .int a1] (.int y0 :: st) M Q = if y0 = nI 0 then xW xSC 72 103 [.ref a0, .int a1] (st) M Q else xW xSC 72 99 [.ref a0, .int a1] (st) M Q) ∧
  (∀ (a0 : Nat) (a1 : Int32) (st : List Value) (M : xM) (Q : Option Value → xM → Prop), xW xSC 72 99 [.ref a0, .int a1] (st) M Q = xW xSC 72 100 [.ref a0, .int a1] (.int (nI 1) :: st) M Q) ∧
  (∀ (a0 : Nat) (a1 : Int32) (st : List Value) (M : xM) (Q : Option Value → xM → Prop), xW xSC 72 100 [.ref a0, .int a1] (st) M Q = xW xSC 72 104 [.ref a0, .int a1] (st) M Q) ∧
  (∀ (a0 : Nat) (a1 : Int32) (st : List Value) (M : xM) (Q : Option Value → xM → Prop), xW xSC 72 105 [.ref a0, .int a1] (st) M Q = xW xSC 72 106 [.ref a0, .int a1] (.ref a0 :: st) M Q) ∧
  (∀ (a0 : Nat) (a1 : Int32) (st : List Value) (M : xM) (Q : Option Value → xM → Prop), xW xSC 72 106 [.ref a0, .int a1] (st) M Q = xW xSC 72 107 [.ref a0, .int a1] (.int (nI 3) :: st) M Q) ∧
  (∀ (a0 : Nat) (a1 : Int32) (y0 : Int32) (M : xM) (Q : Option Value → xM → Prop), xW xSC 72 107 [.ref a0, .int a1] (.int y0 :: .ref 1 :: []) M Q = xW xSC 80 0 [.ref 1, .int y0, .null, .null, .null] [] M (fun v M' => xW xSC 72 110 [.ref a0, .int a1] (xpush v []) M' Q)) ∧
  (∀ (a0 : Nat) (a1 : Int32) (y0 : Int32) (st : List Value) (M : xM) (Q : Option Value → xM → Prop), xW xSC 72 110 [.ref a0, .int a1] (.int y0 :: st) M Q = if y0 = nI 0 then xW xSC 72 124 [.ref a0, .int a1] (st) M Q else xW xSC 72 113 [.ref a0, .int a1] (st) M Q) ∧
  (∀ (a0 : Nat) (a1 : Int32) (st : List Value) (M : xM) (Q : Option Value → xM → Prop), xW xSC 72 113 [.ref a0, .int a1] (st) M Q = xW xSC 72 114 [.ref a0, .int a1] (.ref a0 :: st) M Q) ∧
  (∀ (a0 : Nat) (a1 : Int32) (M : xM) (Q : Option Value → xM → Prop), xW xSC 72 114 [.ref a0, .int a1] (.ref 1 :: []) M Q = xW xSC 75 0 [.ref 1] [] M (fun v M' => xW xSC 72 117 [.ref a0, .int a1] (xpush v []) M' Q)) ∧
  (∀ (a0 : Nat) (a1 : Int32) (y0 : Int32) (st : List Value) (M : xM) (Q : Option Value → xM → Prop), xW xSC 72 117 [.ref a0, .int a1] (.int y0 :: st) M Q = if y0 = nI 0 then xW xSC 72 124 [.ref a0, .int a1] (st) M Q else xW xSC 72 120 [.ref a0, .int a1] (st) M Q) ∧
  (∀ (a0 : Nat) (a1 : Int32) (st : List Value) (M : xM) (Q : Option Value → xM → Prop), xW xSC 72 120 [.ref a0, .int a1] (st) M Q = xW xSC 72 121 [.ref a0, .int a1] (.int (nI 1) :: st) M Q) ∧
  (∀ (a0 : Nat) (a1 : Int32) (st : List Value) (M : xM) (Q : Option Value → xM → Prop), xW xSC 72 121 [.ref a0, .int a1] (st) M Q = xW xSC 72 125 [.ref a0, .int a1] (st) M Q) ∧
  (∀ (a0 : Nat) (a1 : Int32) (st : List Value) (M : xM) (Q : Option Value → xM → Prop), xW xSC 72 126 [.ref a0, .int a1] (st) M Q = xW xSC 72 127 [.ref a0, .int a1] (.ref a0 :: st) M Q) ∧
  (∀ (a0 : Nat) (a1 : Int32) (st : List Value) (M : xM) (Q : Option Value → xM → Prop), xW xSC 72 127 [.ref a0, .int a1] (st) M Q = xW xSC 72 129 [.ref a0, .int a1] (.int (nI 6) :: st) M Q) ∧
  (∀ (a0 : Nat) (a1 : Int32) (y0 : Int32) (M : xM) (Q : Option Value → xM → Prop), xW xSC 72 129 [.ref a0, .int a1] (.int y0 :: .ref 1 :: []) M Q = xW xSC 80 0 [.ref 1, .int y0, .null, .null, .null] [] M (fun v M' => xW xSC 72 132 [.ref a0, .int a1] (xpush v []) M' Q)) ∧
  (∀ (a0 : Nat) (a1 : Int32) (y0 : Int32) (st : List Value) (M : xM) (Q : Option Value → xM → Prop), xW xSC 72 132 [.ref a0, .int a1] (.int y0 :: st) M Q = if y0 = nI 0 then xW xSC 72 146 [.ref a0, .int a1] (st) M Q else xW xSC 72 135 [.ref a0, .int a1] (st) M Q) ∧
  (∀ (a0 : Nat) (a1 : Int32) (st : List Value) (M : xM) (Q : Option Value → xM → Prop), xW xSC 72 135 [.ref a0, .int a1] (st) M Q = xW xSC 72 136 [.ref a0, .int a1] (.ref a0 :: st) M Q) ∧
  (∀ (a0 : Nat) (a1 : Int32) (M : xM) (Q : Option Value → xM → Prop), xW xSC 72 136 [.ref a0, .int a1] (.ref 1 :: []) M Q = xW xSC 76 0 [.ref 1, .null] [] M (fun v M' => xW xSC 72 139 [.ref a0, .int a1] (xpush v []) M' Q)) ∧
  (∀ (a0 : Nat) (a1 : Int32) (y0 : Int32) (st : List Value) (M : xM) (Q : Option Value → xM → Prop), xW xSC 72 139 [.ref a0, .int a1] (.int y0 :: st) M Q = if y0 = nI 0 then xW xSC 72 146 [.ref a0, .int a1] (st) M Q else xW xSC 72 142 [.ref a0, .int a1] (st) M Q) ∧
  (∀ (a0 : Nat) (a1 : Int32) (st : List Value) (M : xM) (Q : Option Value → xM → Prop), xW xSC 72 142 [.ref a0, .int a1] (st) M Q = xW xSC 72 143 [.ref a0, .int a1] (.int (nI 1) :: st) M Q) ∧
  (∀ (a0 : Nat) (a1 : Int32) (st : List Value) (M : xM) (Q : Option Value → xM → Prop), xW xSC 72 143 [.ref a0, .int a1] (st) M Q = xW xSC 72 147 [.ref a0, .int a1] (st) M Q) ∧
  (∀ (a0 : Nat) (a1 : Int32) (st : List Value) (M : xM) (Q : Option Value → xM → Prop), xW xSC 72 148 [.ref a0, .int a1] (st) M Q = xW xSC 72 149 [.ref a0, .int a1] (.ref a0 :: st) M Q) ∧
  (∀ (a0 : Nat) (a1 : Int32) (st : List Value) (M : xM) (Q : Option Value → xM → Prop), xW xSC 72 149 [.ref a0, .int a1] (st) M Q = xW xSC 72 150 [.ref a0, .int a1] (.int (nI 2) :: st) M Q) ∧
  (∀ (a0 : Nat) (a1 : Int32) (y0 : Int32) (M : xM) (Q : Option Value → xM → Prop), xW xSC 72 150 [.ref a0, .int a1] (.int y0 :: .ref 1 :: []) M Q = xW xSC 80 0 [.ref 1, .int y0, .null, .null, .null] [] M (fun v M' => xW xSC 72 153 [.ref a0, .int a1] (xpush v []) M' Q)) ∧
  (∀ (a0 : Nat) (a1 : Int32) (y0 : Int32) (st : List Value) (M : xM) (Q : Option Value → xM → Prop), xW xSC 72 153 [.ref a0, .int a1] (.int y0 :: st) M Q = if y0 = nI 0 then xW xSC 72 167 [.ref a0, .int a1] (st) M Q else xW xSC 72 156 [.ref a0, .int a1] (st) M Q) ∧
  (∀ (a0 : Nat) (a1 : Int32) (st : List Value) (M : xM) (Q : Option Value → xM → Prop), xW xSC 72 156 [.ref a0, .int a1] (st) M Q = xW xSC 72 157 [.ref a0, .int a1] (.ref a0 :: st) M Q) ∧
  (∀ (a0 : Nat) (a1 : Int32) (M : xM) (Q : Option Value → xM → Prop), xW xSC 72 157 [.ref a0, .int a1] (.ref 1 :: []) M Q = xW xSC 77 0 [.ref 1] [] M (fun v M' => xW xSC 72 160 [.ref a0, .int a1] (xpush v []) M' Q)) ∧
  (∀ (a0 : Nat) (a1 : Int32) (y0 : Int32) (st : List Value) (M : xM) (Q : Option Value → xM → Prop), xW xSC 72 160 [.ref a0, .int a1] (.int y0 :: st) M Q = if y0 = nI 0 then xW xSC 72 167 [.ref a0, .int a1] (st) M Q else xW xSC 72 163 [.ref a0, .int a1] (st) M Q) ∧
  (∀ (a0 : Nat) (a1 : Int32) (st : List Value) (M : xM) (Q : Option Value → xM → Prop), xW xSC 72 163 [.ref a0, .int a1] (st) M Q = xW xSC 72 164 [.ref a0, .int a1] (.int (nI 1) :: st) M Q) ∧
  (∀ (a0 : Nat) (a1 : Int32) (st : List Value) (M : xM) (Q : Option Value → xM → Prop), xW xSC 72 164 [.ref a0, .int a1] (st) M Q = xW xSC 72 168 [.ref a0, .int a1] (st) M Q) ∧
  (∀ (a0 : Nat) (a1 : Int32) (st : List Value) (M : xM) (Q : Option Value → xM → Prop), xW xSC 72 169 [.ref a0, .int a1] (st) M Q = xW xSC 72 170 [.ref a0, .int a1] (.ref a0 :: st) M Q) ∧
  (∀ (a0 : Nat) (a1 : Int32) (st : List Value) (M : xM) (Q : Option Value → xM → Prop), xW xSC 72 170 [.ref a0, .int a1] (st) M Q = xW xSC 72 171 [.ref a0, .int a1] (.int (nI 2) :: st) M Q) ∧
  (∀ (a0 : Nat) (a1 : Int32) (y0 : Int32) (M : xM) (Q : Option Value → xM → Prop), xW xSC 72 171 [.ref a0, .int a1] (.int y0 :: .ref 1 :: []) M Q = xW xSC 80 0 [.ref 1, .int y0, .null, .null, .null] [] M (fun v M' => xW xSC 72 174 [.ref a0, .int a1] (xpush v []) M' Q)) ∧
  (∀ (a0 : Nat) (a1 : Int32) (y0 : Int32) (st : List Value) (M : xM) (Q : Option Value → xM → Prop), xW xSC 72 174 [.ref a0, .int a1] (.int y0 :: st) M Q = if y0 = nI 0 then xW xSC 72 188 [.ref a0, .int a1] (st) M Q else xW xSC 72 177 [.ref a0, .int a1] (st) M Q) ∧
  (∀ (a0 : Nat) (a1 : Int32) (st : List Value) (M : xM) (Q : Option Value → xM → Prop), xW xSC 72 177 [.ref a0, .int a1] (st) M Q = xW xSC 72 178 [.ref a0, .int a1] (.ref a0 :: st) M Q) ∧
  (∀ (a0 : Nat) (a1 : Int32) (M : xM) (Q : Option Value → xM → Prop), xW xSC 72 178 [.ref a0, .int a1] (.ref 1 :: []) M Q = xW xSC 78 0 [.ref 1] [] M (fun v M' => xW xSC 72 181 [.ref a0, .int a1] (xpush v []) M' Q)) ∧
  (∀ (a0 : Nat) (a1 : Int32) (y0 : Int32) (st : List Value) (M : xM) (Q : Option Value → xM → Prop), xW xSC 72 181 [.ref a0, .int a1] (.int y0 :: st) M Q = if y0 = nI 0 then xW xSC 72 188 [.ref a0, .int a1] (st) M Q else xW xSC 72 184 [.ref a0, .int a1] (st) M Q) ∧
  (∀ (a0 : Nat) (a1 : Int32) (st : List Value) (M : xM) (Q : Option Value → xM → Prop), xW xSC 72 184 [.ref a0, .int a1] (st) M Q = xW xSC 72 185 [.ref a0, .int a1] (.int (nI 1) :: st) M Q) ∧
  (∀ (a0 : Nat) (a1 : Int32) (st : List Value) (M : xM) (Q : Option Value → xM → Prop), xW xSC 72 185 [.ref a0, .int a1] (st) M Q = xW xSC 72 189 [.ref a0, .int a1] (st) M Q) ∧
  (∀ (a0 : Nat) (a1 : Int32) (st : List Value) (M : xM) (Q : Option Value → xM → Prop), xW xSC 72 190 [.ref a0, .int a1] (st) M Q = xW xSC 72 191 [.ref a0, .int a1] (.int (nI 0) :: st) M Q) ∧
  (∀ (a0 : Nat) (a1 : Int32) (y0 : Int32) (M : xM) (Q : Option Value → xM → Prop), y0 = 0 ∨ y0 = 1 → xW xSC 72 191 [.ref a0, .int a1] ([.int y0]) M Q = Q (some (.int y0)) M) :=
  ⟨fun a0 a1 st M Q => xw_s rfl rfl,
  fun a0 a1 st M Q => xw_s rfl rfl,
  fun a0 a1 y0 y1 st M Q => xw_brn (c0 := y1 ≠ y0) (c1 := y1 = y0) rfl rfl (Iff.rfl),
  fun a0 a1 st M Q => xw_s rfl rfl,
  fun a0 a1 st M Q => xw_s rfl rfl,
  fun a0 a1 y0 M Q => xw_call rfl rfl rfl,
  fun a0 a1 y0 st M Q => xw_br (c0 := y0 = nI 0) rfl rfl,
  fun a0 a1 st M Q => xw_s rfl rfl,
  fun a0 a1 M Q => xw_call rfl rfl rfl,
  fun a0 a1 y0 st M Q => xw_br (c0 := y0 = nI 0) rfl rfl,
  fun a0 a1 st M Q => xw_s rfl rfl,
  fun a0 a1 st M Q => xw_s rfl rfl,
  fun a0 a1 st M Q => xw_s rfl rfl,
  fun a0 a1 st M Q => xw_s rfl rfl,
  fun a0 a1 y0 st M Q h0 => xw_putz rfl rfl rfl rfl rfl h0,
  fun a0 a1 st M Q => xw_s rfl rfl,
  fun a0 a1 st M Q => xw_s rfl (by simp only [xdo]; rfl),
  fun a0 a1 st M Q => xw_s rfl (by simp only [xdo]; rfl),
  fun a0 a1 st M Q => xw_s rfl (by simp only [xdo]; rfl),
  fun a0 a1 st M Q => xw_s rfl (by simp only [xdo]; rfl),
  fun a0 a1 st M Q => xw_s rfl (by simp only [xdo]; rfl),
  fun a0 a1 st M Q => xw_s rfl rfl,
  fun a0 a1 st M Q => xw_s rfl rfl,
  fun a0 a1 y0 M Q => xw_call rfl rfl rfl,
  fun a0 a1 y0 st M Q => xw_br (c0 := y0 = nI 0) rfl rfl,
  fun a0 a1 st M Q => xw_s rfl rfl,
  fun a0 a1 M Q => xw_call rfl rfl rfl,
  fun a0 a1 y0 st M Q => xw_br (c0 := y0 = nI 0) rfl rfl,
  fun a0 a1 st M Q => xw_s rfl rfl,
  fun a0 a1 st M Q => xw_s rfl rfl,
  fun a0 a1 st M Q => xw_s rfl rfl,
  fun a0 a1 st M Q => xw_s rfl rfl,
  fun a0 a1 y0 M Q => xw_call rfl rfl rfl,
  fun a0 a1 y0 st M Q => xw_br (c0 := y0 = nI 0) rfl rfl,
  fun a0 a1 st M Q => xw_s rfl rfl,
  fun a0 a1 M Q => xw_call rfl rfl rfl,
  fun a0 a1 y0 st M Q => xw_br (c0 := y0 = nI 0) rfl rfl,
  fun a0 a1 st M Q => xw_s rfl rfl,
  fun a0 a1 st M Q => xw_s rfl rfl,
  fun a0 a1 st M Q => xw_s rfl rfl,
  fun a0 a1 st M Q => xw_s rfl rfl,
  fun a0 a1 y0 M Q => xw_call rfl rfl rfl,
  fun a0 a1 y0 st M Q => xw_br (c0 := y0 = nI 0) rfl rfl,
  fun a0 a1 st M Q => xw_s rfl rfl,
  fun a0 a1 M Q => xw_call rfl rfl rfl,
  fun a0 a1 y0 st M Q => xw_br (c0 := y0 = nI 0) rfl rfl,
  fun a0 a1 st M Q => xw_s rfl rfl,
  fun a0 a1 st M Q => xw_s rfl rfl,
  fun a0 a1 st M Q => xw_s rfl rfl,
  fun a0 a1 st M Q => xw_s rfl rfl,
  fun a0 a1 y0 M Q => xw_call rfl rfl rfl,
  fun a0 a1 y0 st M Q => xw_br (c0 := y0 = nI 0) rfl rfl,
  fun a0 a1 st M Q => xw_s rfl rfl,
  fun a0 a1 M Q => xw_call rfl rfl rfl,
  fun a0 a1 y0 st M Q => xw_br (c0 := y0 = nI 0) rfl rfl,
  fun a0 a1 st M Q => xw_s rfl rfl,
  fun a0 a1 st M Q => xw_s rfl rfl,
  fun a0 a1 st M Q => xw_s rfl rfl,
  fun a0 a1 st M Q => xw_s rfl rfl,
  fun a0 a1 y0 M Q => xw_call rfl rfl rfl,
  fun a0 a1 y0 st M Q => xw_br (c0 := y0 = nI 0) rfl rfl,
  fun a0 a1 st M Q => xw_s rfl rfl,
  fun a0 a1 M Q => xw_call rfl rfl rfl,
  fun a0 a1 y0 st M Q => xw_br (c0 := y0 = nI 0) rfl rfl,
  fun a0 a1 st M Q => xw_s rfl rfl,
  fun a0 a1 st M Q => xw_s rfl rfl,
  fun a0 a1 st M Q => xw_s rfl rfl,
  fun a0 a1 y0 M Q h0 => xw_retz rfl rfl h0⟩
set_option maxRecDepth 20000 in
theorem h72_25 :
  (∀ (a0 : Nat) (a1 : Int32) (st : List Value) (M : xM) (Q : Option Value → xM → Prop), xW xSC 72 25 [.ref a0, .int a1] (st) M Q = xW xSC 72 26 [.ref a0, .int a1] (.int (nI 0) :: st) M Q) :=
  fun a0 a1 st M Q => xw_s rfl rfl
set_option maxRecDepth 20000 in
theorem h72_26 :
  (∀ (a0 : Nat) (a1 : Int32) (y0 : Int32) (M : xM) (Q : Option Value → xM → Prop), y0 = 0 ∨ y0 = 1 → xW xSC 72 26 [.ref a0, .int a1] ([.int y0]) M Q = Q (some (.int y0)) M) :=
  fun a0 a1 y0 M Q h0 => xw_retz rfl rfl h0
set_option maxRecDepth 20000 in
theorem h72_103 :
  (∀ (a0 : Nat) (a1 : Int32) (st : List Value) (M : xM) (Q : Option Value → xM → Prop), xW xSC 72 103 [.ref a0, .int a1] (st) M Q = xW xSC 72 104 [.ref a0, .int a1] (.int (nI 0) :: st) M Q) :=
  fun a0 a1 st M Q => xw_s rfl rfl
set_option maxRecDepth 20000 in
theorem h72_104 :
  (∀ (a0 : Nat) (a1 : Int32) (y0 : Int32) (M : xM) (Q : Option Value → xM → Prop), y0 = 0 ∨ y0 = 1 → xW xSC 72 104 [.ref a0, .int a1] ([.int y0]) M Q = Q (some (.int y0)) M) :=
  fun a0 a1 y0 M Q h0 => xw_retz rfl rfl h0
set_option maxRecDepth 20000 in
theorem h72_124 :
  (∀ (a0 : Nat) (a1 : Int32) (st : List Value) (M : xM) (Q : Option Value → xM → Prop), xW xSC 72 124 [.ref a0, .int a1] (st) M Q = xW xSC 72 125 [.ref a0, .int a1] (.int (nI 0) :: st) M Q) :=
  fun a0 a1 st M Q => xw_s rfl rfl
set_option maxRecDepth 20000 in
theorem h72_125 :
  (∀ (a0 : Nat) (a1 : Int32) (y0 : Int32) (M : xM) (Q : Option Value → xM → Prop), y0 = 0 ∨ y0 = 1 → xW xSC 72 125 [.ref a0, .int a1] ([.int y0]) M Q = Q (some (.int y0)) M) :=
  fun a0 a1 y0 M Q h0 => xw_retz rfl rfl h0
set_option maxRecDepth 20000 in
theorem h72_146 :
  (∀ (a0 : Nat) (a1 : Int32) (st : List Value) (M : xM) (Q : Option Value → xM → Prop), xW xSC 72 146 [.ref a0, .int a1] (st) M Q = xW xSC 72 147 [.ref a0, .int a1] (.int (nI 0) :: st) M Q) :=
  fun a0 a1 st M Q => xw_s rfl rfl
set_option maxRecDepth 20000 in
theorem h72_147 :
  (∀ (a0 : Nat) (a1 : Int32) (y0 : Int32) (M : xM) (Q : Option Value → xM → Prop), y0 = 0 ∨ y0 = 1 → xW xSC 72 147 [.ref a0, .int a1] ([.int y0]) M Q = Q (some (.int y0)) M) :=
  fun a0 a1 y0 M Q h0 => xw_retz rfl rfl h0
set_option maxRecDepth 20000 in
theorem h72_167 :
  (∀ (a0 : Nat) (a1 : Int32) (st : List Value) (M : xM) (Q : Option Value → xM → Prop), xW xSC 72 167 [.ref a0, .int a1] (st) M Q = xW xSC 72 168 [.ref a0, .int a1] (.int (nI 0) :: st) M Q) :=
  fun a0 a1 st M Q => xw_s rfl rfl
set_option maxRecDepth 20000 in
theorem h72_168 :
  (∀ (a0 : Nat) (a1 : Int32) (y0 : Int32) (M : xM) (Q : Option Value → xM → Prop), y0 = 0 ∨ y0 = 1 → xW xSC 72 168 [.ref a0, .int a1] ([.int y0]) M Q = Q (some (.int y0)) M) :=
  fun a0 a1 y0 M Q h0 => xw_retz rfl rfl h0
set_option maxRecDepth 20000 in
theorem h72_188 :
  (∀ (a0 : Nat) (a1 : Int32) (st : List Value) (M : xM) (Q : Option Value → xM → Prop), xW xSC 72 188 [.ref a0, .int a1] (st) M Q = xW xSC 72 189 [.ref a0, .int a1] (.int (nI 0) :: st) M Q) :=
  fun a0 a1 st M Q => xw_s rfl rfl
set_option maxRecDepth 20000 in
theorem h72_189 :
  (∀ (a0 : Nat) (a1 : Int32) (y0 : Int32) (M : xM) (Q : Option Value → xM → Prop), y0 = 0 ∨ y0 = 1 → xW xSC 72 189 [.ref a0, .int a1] ([.int y0]) M Q = Q (some (.int y0)) M) :=
  fun a0 a1 y0 M Q h0 => xw_retz rfl rfl h0
set_option maxRecDepth 20000 in
theorem j72 :
  (∀ (a0 : Nat) (a1 : Int32) (st : List Value) (M : xM) (Q : Option Value → xM → Prop), xW xSC 72 25 [.ref a0, .int a1] (st) M Q = xW xSC 72 26 [.ref a0, .int a1] (.int (nI 0) :: st) M Q) ∧
  (∀ (a0 : Nat) (a1 : Int32) (y0 : Int32) (M : xM) (Q : Option Value → xM → Prop), y0 = 0 ∨ y0 = 1 → xW xSC 72 26 [.ref a0, .int a1] ([.int y0]) M Q = Q (some (.int y0)) M) ∧
  (∀ (a0 : Nat) (a1 : Int32) (st : List Value) (M : xM) (Q : Option Value → xM → Prop), xW xSC 72 103 [.ref a0, .int a1] (st) M Q = xW xSC 72 104 [.ref a0, .int a1] (.int (nI 0) :: st) M Q) ∧
  (∀ (a0 : Nat) (a1 : Int32) (y0 : Int32) (M : xM) (Q : Option Value → xM → Prop), y0 = 0 ∨ y0 = 1 → xW xSC 72 104 [.ref a0, .int a1] ([.int y0]) M Q = Q (some (.int y0)) M) ∧
  (∀ (a0 : Nat) (a1 : Int32) (st : List Value) (M : xM) (Q : Option Value → xM → Prop), xW xSC 72 124 [.ref a0, .int a1] (st) M Q = xW xSC 72 125 [.ref a0, .int a1] (.int (nI 0) :: st) M Q) ∧
  (∀ (a0 : Nat) (a1 : Int32) (y0 : Int32) (M : xM) (Q : Option Value → xM → Prop), y0 = 0 ∨ y0 = 1 → xW xSC 72 125 [.ref a0, .int a1] ([.int y0]) M Q = Q (some (.int y0)) M) ∧
  (∀ (a0 : Nat) (a1 : Int32) (st : List Value) (M : xM) (Q : Option Value → xM → Prop), xW xSC 72 146 [.ref a0, .int a1] (st) M Q = xW xSC 72 147 [.ref a0, .int a1] (.int (nI 0) :: st) M Q) ∧
  (∀ (a0 : Nat) (a1 : Int32) (y0 : Int32) (M : xM) (Q : Option Value → xM → Prop), y0 = 0 ∨ y0 = 1 → xW xSC 72 147 [.ref a0, .int a1] ([.int y0]) M Q = Q (some (.int y0)) M) ∧
  (∀ (a0 : Nat) (a1 : Int32) (st : List Value) (M : xM) (Q : Option Value → xM → Prop), xW xSC 72 167 [.ref a0, .int a1] (st) M Q = xW xSC 72 168 [.ref a0, .int a1] (.int (nI 0) :: st) M Q) ∧
  (∀ (a0 : Nat) (a1 : Int32) (y0 : Int32) (M : xM) (Q : Option Value → xM → Prop), y0 = 0 ∨ y0 = 1 → xW xSC 72 168 [.ref a0, .int a1] ([.int y0]) M Q = Q (some (.int y0)) M) ∧
  (∀ (a0 : Nat) (a1 : Int32) (st : List Value) (M : xM) (Q : Option Value → xM → Prop), xW xSC 72 188 [.ref a0, .int a1] (st) M Q = xW xSC 72 189 [.ref a0, .int a1] (.int (nI 0) :: st) M Q) ∧
  (∀ (a0 : Nat) (a1 : Int32) (y0 : Int32) (M : xM) (Q : Option Value → xM → Prop), y0 = 0 ∨ y0 = 1 → xW xSC 72 189 [.ref a0, .int a1] ([.int y0]) M Q = Q (some (.int y0)) M) :=
  ⟨fun a0 a1 st M Q => xw_s rfl rfl,
  fun a0 a1 y0 M Q h0 => xw_retz rfl rfl h0,
  fun a0 a1 st M Q => xw_s rfl rfl,
  fun a0 a1 y0 M Q h0 => xw_retz rfl rfl h0,
  fun a0 a1 st M Q => xw_s rfl rfl,
  fun a0 a1 y0 M Q h0 => xw_retz rfl rfl h0,
  fun a0 a1 st M Q => xw_s rfl rfl,
  fun a0 a1 y0 M Q h0 => xw_retz rfl rfl h0,
  fun a0 a1 st M Q => xw_s rfl rfl,
  fun a0 a1 y0 M Q h0 => xw_retz rfl rfl h0,
  fun a0 a1 st M Q => xw_s rfl rfl,
  fun a0 a1 y0 M Q h0 => xw_retz rfl rfl h0⟩

set_option maxRecDepth 20000 in
theorem s73 :
  (∀ (a0 : Nat) (st : List Value) (M : xM) (Q : Option Value → xM → Prop), xW xSC 73 0 [.ref a0] (st) M Q = xW xSC 73 1 [.ref a0] (.ref a0 :: st) M Q) ∧
  (∀ (a0 : Nat) (st : List Value) (M : xM) (Q : Option Value → xM → Prop), xW xSC 73 1 [.ref a0] (.ref 1 :: st) M Q = xW xSC 73 4 [.ref a0] (.int (M 1 3) :: st) M Q) ∧
  (∀ (a0 : Nat) (y0 : Int32) (st : List Value) (M : xM) (Q : Option Value → xM → Prop), xW xSC 73 4 [.ref a0] (.int y0 :: st) M Q = if y0 = nI 0 then xW xSC 73 21 [.ref a0] (st) M Q else xW xSC 73 7 [.ref a0] (st) M Q) ∧
  (∀ (a0 : Nat) (st : List Value) (M : xM) (Q : Option Value → xM → Prop), xW xSC 73 7 [.ref a0] (st) M Q = xW xSC 73 8 [.ref a0] (.ref a0 :: st) M Q) ∧
  (∀ (a0 : Nat) (st : List Value) (M : xM) (Q : Option Value → xM → Prop), xW xSC 73 8 [.ref a0] (st) M Q = xW xSC 73 9 [.ref a0] (.int (nI 0) :: st) M Q) ∧
  (∀ (a0 : Nat) (y0 : Int32) (M : xM) (Q : Option Value → xM → Prop), xW xSC 73 9 [.ref a0] (.int y0 :: .ref 1 :: []) M Q = xW xSC 79 0 [.ref 1, .int y0] [] M (fun v M' => xW xSC 73 12 [.ref a0] (xpush v []) M' Q)) ∧
  (∀ (a0 : Nat) (st : List Value) (M : xM) (Q : Option Value → xM → Prop), xW xSC 73 12 [.ref a0] (st) M Q = xW xSC 73 13 [.ref a0] (.int (nI 2) :: st) M Q) ∧
  (∀ (a0 : Nat) (st : List Value) (M : xM) (Q : Option Value → xM → Prop), xW xSC 73 13 [.ref a0] (st) M Q = xW xSC 73 15 [.ref a0] (.int (nI 8) :: st) M Q) ∧
  (∀ (a0 : Nat) (y0 : Int32) (y1 : Int32) (y2 : Int32) (M : xM) (Q : Option Value → xM → Prop), xW xSC 73 15 [.ref a0] (.int y0 :: .int y1 :: .int y2 :: []) M Q = xW xSC 132 0 [.int y2, .int y1, .int y0] [] M (fun v M' => xW xSC 73 18 [.ref a0] (xpush v []) M' Q)) ∧
  (∀ (a0 : Nat) (y0 : Int32) (st : List Value) (M : xM) (Q : Option Value → xM → Prop), xW xSC 73 18 [.ref a0] (.int y0 :: st) M Q = if y0 = nI 0 then xW xSC 73 21 [.ref a0] (st) M Q else xW xSC 73 23 [.ref a0] (st) M Q) ∧
  (∀ (a0 : Nat) (y0 : Int32) (M : xM) (Q : Option Value → xM → Prop), y0 = 0 ∨ y0 = 1 → xW xSC 73 22 [.ref a0] ([.int y0]) M Q = Q (some (.int y0)) M) ∧
  (∀ (a0 : Nat) (st : List Value) (M : xM) (Q : Option Value → xM → Prop), xW xSC 73 23 [.ref a0] (st) M Q = xW xSC 73 24 [.ref a0] (.ref a0 :: st) M Q) ∧
  (∀ (a0 : Nat) (st : List Value) (M : xM) (Q : Option Value → xM → Prop), xW xSC 73 24 [.ref a0] (.ref 1 :: st) M Q = xW xSC 73 27 [.ref a0] (.ref 4 :: st) M Q) ∧
  (∀ (a0 : Nat) (st : List Value) (M : xM) (Q : Option Value → xM → Prop), xW xSC 73 27 [.ref a0] (st) M Q = xW xSC 73 28 [.ref a0] (.ref a0 :: st) M Q) ∧
  (∀ (a0 : Nat) (st : List Value) (M : xM) (Q : Option Value → xM → Prop), xW xSC 73 28 [.ref a0] (st) M Q = xW xSC 73 29 [.ref a0] (.int (nI 0) :: st) M Q) ∧
  (∀ (a0 : Nat) (y0 : Int32) (y2 : Nat) (M : xM) (Q : Option Value → xM → Prop), xW xSC 73 29 [.ref a0] (.int y0 :: .ref 1 :: .ref y2 :: []) M Q = xW xSC 79 0 [.ref 1, .int y0] [] M (fun v M' => xW xSC 73 32 [.ref a0] (xpush v [.ref y2]) M' Q)) ∧
  (∀ (a0 : Nat) (y0 : Int32) (st : List Value) (M : xM) (Q : Option Value → xM → Prop), xW xSC 73 32 [.ref a0] (.int y0 :: .ref 4 :: st) M Q = xW xSC 73 35 [.ref a0] (st) (xup M 4 0 y0) Q) ∧
  (∀ (a0 : Nat) (st : List Value) (M : xM) (Q : Option Value → xM → Prop), xW xSC 73 35 [.ref a0] (st) M Q = xW xSC 73 36 [.ref a0] (.int (nI 1) :: st) M Q) ∧
  (∀ (a0 : Nat) (y0 : Int32) (M : xM) (Q : Option Value → xM → Prop), y0 = 0 ∨ y0 = 1 → xW xSC 73 36 [.ref a0] ([.int y0]) M Q = Q (some (.int y0)) M) :=
  ⟨fun a0 st M Q => xw_s rfl rfl,
  fun a0 st M Q => xw_s rfl rfl,
  fun a0 y0 st M Q => xw_br (c0 := y0 = nI 0) rfl rfl,
  fun a0 st M Q => xw_s rfl rfl,
  fun a0 st M Q => xw_s rfl rfl,
  fun a0 y0 M Q => xw_call rfl rfl rfl,
  fun a0 st M Q => xw_s rfl rfl,
  fun a0 st M Q => xw_s rfl rfl,
  fun a0 y0 y1 y2 M Q => xw_call rfl rfl rfl,
  fun a0 y0 st M Q => xw_brn (c0 := y0 ≠ nI 0) (c1 := y0 = nI 0) rfl rfl (Iff.rfl),
  fun a0 y0 M Q h0 => xw_retz rfl rfl h0,
  fun a0 st M Q => xw_s rfl rfl,
  fun a0 st M Q => xw_s rfl rfl,
  fun a0 st M Q => xw_s rfl rfl,
  fun a0 st M Q => xw_s rfl rfl,
  fun a0 y0 y2 M Q => xw_call rfl rfl rfl,
  fun a0 y0 st M Q => xw_s rfl rfl,
  fun a0 st M Q => xw_s rfl rfl,
  fun a0 y0 M Q h0 => xw_retz rfl rfl h0⟩
set_option maxRecDepth 20000 in
theorem h73_21 :
  (∀ (a0 : Nat) (st : List Value) (M : xM) (Q : Option Value → xM → Prop), xW xSC 73 21 [.ref a0] (st) M Q = xW xSC 73 22 [.ref a0] (.int (nI 0) :: st) M Q) :=
  fun a0 st M Q => xw_s rfl rfl
set_option maxRecDepth 20000 in
theorem j73 :
  (∀ (a0 : Nat) (st : List Value) (M : xM) (Q : Option Value → xM → Prop), xW xSC 73 21 [.ref a0] (st) M Q = xW xSC 73 22 [.ref a0] (.int (nI 0) :: st) M Q) :=
  fun a0 st M Q => xw_s rfl rfl

set_option maxRecDepth 20000 in
theorem s74 :
  (∀ (a0 : Nat) (a1 : Value) (st : List Value) (M : xM) (Q : Option Value → xM → Prop), xW xSC 74 0 [.ref a0, a1] (st) M Q = xW xSC 74 1 [.ref a0, a1] (.ref a0 :: st) M Q) ∧
  (∀ (a0 : Nat) (a1 : Value) (st : List Value) (M : xM) (Q : Option Value → xM → Prop), xW xSC 74 1 [.ref a0, a1] (.ref 1 :: st) M Q = xW xSC 74 4 [.ref a0, a1] (.ref 4 :: st) M Q) ∧
  (∀ (a0 : Nat) (a1 : Value) (st : List Value) (M : xM) (Q : Option Value → xM → Prop), xW xSC 74 4 [.ref a0, a1] (st) M Q = xW xSC 74 5 [.ref a0, a1] (.ref a0 :: st) M Q) ∧
  (∀ (a0 : Nat) (a1 : Value) (st : List Value) (M : xM) (Q : Option Value → xM → Prop), xW xSC 74 5 [.ref a0, a1] (st) M Q = xW xSC 74 6 [.ref a0, a1] (.int (nI 0) :: st) M Q) ∧
  (∀ (a0 : Nat) (a1 : Value) (y0 : Int32) (y2 : Nat) (M : xM) (Q : Option Value → xM → Prop), xW xSC 74 6 [.ref a0, a1] (.int y0 :: .ref 1 :: .ref y2 :: []) M Q = xW xSC 79 0 [.ref 1, .int y0] [] M (fun v M' => xW xSC 74 9 [.ref a0, a1] (xpush v [.ref y2]) M' Q)) ∧
  (∀ (a0 : Nat) (a1 : Value) (y0 : Int32) (M : xM) (Q : Option Value → xM → Prop), xW xSC 74 9 [.ref a0, a1] (.int y0 :: .ref 4 :: []) M Q = xW xSC 23 0 [.ref 4, .int y0] [] M (fun v M' => xW xSC 74 12 [.ref a0, a1] (xpush v []) M' Q)) ∧
  (∀ (a0 : Nat) (a1 : Value) (y0 : Int32) (st : List Value) (M : xM) (Q : Option Value → xM → Prop), xW xSC 74 12 [.ref a0, a1] (.int y0 :: st) M Q = if y0 = nI 0 then xW xSC 74 34 [.ref a0, a1] (st) M Q else xW xSC 74 15 [.ref a0, a1] (st) M Q) ∧
  (∀ (a0 : Nat) (a1 : Value) (st : List Value) (M : xM) (Q : Option Value → xM → Prop), xW xSC 74 15 [.ref a0, a1] (st) M Q = xW xSC 74 16 [.ref a0, a1] (.ref a0 :: st) M Q) ∧
  (∀ (a0 : Nat) (a1 : Value) (st : List Value) (M : xM) (Q : Option Value → xM → Prop), xW xSC 74 16 [.ref a0, a1] (.ref 1 :: st) M Q = xW xSC 74 19 [.ref a0, a1] (.ref 4 :: st) M Q) ∧
  (∀ (a0 : Nat) (a1 : Value) (st : List Value) (M : xM) (Q : Option Value → xM → Prop), xW xSC 74 19 [.ref a0, a1] (st) M Q = xW xSC 74 20 [.ref a0, a1] (.ref a0 :: st) M Q) ∧
  (∀ (a0 : Nat) (a1 : Value) (st : List Value) (M : xM) (Q : Option Value → xM → Prop), xW xSC 74 20 [.ref a0, a1] (st) M Q = xW xSC 74 21 [.ref a0, a1] (.int (nI 1) :: st) M Q) ∧
  (∀ (a0 : Nat) (a1 : Value) (y0 : Int32) (y2 : Nat) (M : xM) (Q : Option Value → xM → Prop), xW xSC 74 21 [.ref a0, a1] (.int y0 :: .ref 1 :: .ref y2 :: []) M Q = xW xSC 79 0 [.ref 1, .int y0] [] M (fun v M' => xW xSC 74 24 [.ref a0, a1] (xpush v [.ref y2]) M' Q)) ∧
  (∀ (a0 : Nat) (a1 : Value) (y0 : Int32) (M : xM) (Q : Option Value → xM → Prop), xW xSC 74 24 [.ref a0, a1] (.int y0 :: .ref 4 :: []) M Q = xW xSC 23 0 [.ref 4, .int y0] [] M (fun v M' => xW xSC 74 27 [.ref a0, a1] (xpush v []) M' Q)) ∧
  (∀ (a0 : Nat) (a1 : Value) (y0 : Int32) (st : List Value) (M : xM) (Q : Option Value → xM → Prop), xW xSC 74 27 [.ref a0, a1] (.int y0 :: st) M Q = if y0 = nI 0 then xW xSC 74 34 [.ref a0, a1] (st) M Q else xW xSC 74 30 [.ref a0, a1] (st) M Q) ∧
  (∀ (a0 : Nat) (a1 : Value) (st : List Value) (M : xM) (Q : Option Value → xM → Prop), xW xSC 74 30 [.ref a0, a1] (st) M Q = xW xSC 74 31 [.ref a0, a1] (.int (nI 1) :: st) M Q) ∧
  (∀ (a0 : Nat) (a1 : Value) (st : List Value) (M : xM) (Q : Option Value → xM → Prop), xW xSC 74 31 [.ref a0, a1] (st) M Q = xW xSC 74 35 [.ref a0, a1] (st) M Q) ∧
  (∀ (a0 : Nat) (a1 : Int32) (st : List Value) (M : xM) (Q : Option Value → xM → Prop), xW xSC 74 36 [.ref a0, .int a1] (st) M Q = xW xSC 74 37 [.ref a0, .int a1] (.ref a0 :: st) M Q) ∧
  (∀ (a0 : Nat) (a1 : Int32) (st : List Value) (M : xM) (Q : Option Value → xM → Prop), xW xSC 74 37 [.ref a0, .int a1] (.ref 1 :: st) M Q = xW xSC 74 40 [.ref a0, .int a1] (.ref 4 :: st) M Q) ∧
  (∀ (a0 : Nat) (a1 : Int32) (st : List Value) (M : xM) (Q : Option Value → xM → Prop), xW xSC 74 40 [.ref a0, .int a1] (.ref 4 :: st) M Q = xW xSC 74 43 [.ref a0, .int a1] (.int (M 4 1) :: st) M Q) ∧
  (∀ (a0 : Nat) (a1 : Int32) (st : List Value) (M : xM) (Q : Option Value → xM → Prop), xW xSC 74 43 [.ref a0, .int a1] (st) M Q = xW xSC 74 45 [.ref a0, .int a1] (.int (nI 8) :: st) M Q) ∧
  (∀ (a0 : Nat) (a1 : Int32) (y0 : Int32) (y1 : Int32) (st : List Value) (M : xM) (Q : Option Value → xM → Prop), xW xSC 74 45 [.ref a0, .int a1] (.int y0 :: .int y1 :: st) M Q = if y1 < y0 then xW xSC 74 48 [.ref a0, .int a1] (st) M Q else xW xSC 74 65 [.ref a0, .int a1] (st) M Q) ∧
  (∀ (a0 : Nat) (a1 : Int32) (st : List Value) (M : xM) (Q : Option Value → xM → Prop), xW xSC 74 48 [.ref a0, .int a1] (st) M Q = xW xSC 74 49 [.ref a0, .int a1] (.int a1 :: st) M Q) ∧
  (∀ (a0 : Nat) (a1 : Int32) (y0 : Int32) (st : List Value) (M : xM) (Q : Option Value → xM → Prop), xW xSC 74 49 [.ref a0, .int a1] (.int y0 :: st) M Q = if y0 = nI 0 then xW xSC 74 65 [.ref a0, .int a1] (st) M Q else xW xSC 74 52 [.ref a0, .int a1] (st) M Q) ∧
  (∀ (a0 : Nat) (a1 : Int32) (st : List Value) (M : xM) (Q : Option Value → xM → Prop), xW xSC 74 52 [.ref a0, .int a1] (st) M Q = xW xSC 74 53 [.ref a0, .int a1] (.ref a0 :: st) M Q) ∧
  (∀ (a0 : Nat) (a1 : Int32) (st : List Value) (M : xM) (Q : Option Value → xM → Prop), xW xSC 74 53 [.ref a0, .int a1] (st) M Q = xW xSC 74 54 [.ref a0, .int a1] (.int (nI 0) :: st) M Q) ∧
  (∀ (a0 : Nat) (a1 : Int32) (y0 : Int32) (M : xM) (Q : Option Value → xM → Prop), xW xSC 74 54 [.ref a0, .int a1] (.int y0 :: .ref 1 :: []) M Q = xW xSC 79 0 [.ref 1, .int y0] [] M (fun v M' => xW xSC 74 57 [.ref a0, .int a1] (xpush v []) M' Q)) ∧
  (∀ (a0 : Nat) (a1 : Int32) (st : List Value) (M : xM) (Q : Option Value → xM → Prop), xW xSC 74 57 [.ref a0, .int a1] (st) M Q = xW xSC 74 58 [.ref a0, .int a1] (.ref a0 :: st) M Q) ∧
  (∀ (a0 : Nat) (a1 : Int32) (st : List Value) (M : xM) (Q : Option Value → xM → Prop), xW xSC 74 58 [.ref a0, .int a1] (st) M Q = xW xSC 74 59 [.ref a0, .int a1] (.int (nI 1) :: st) M Q) ∧
  (∀ (a0 : Nat) (a1 : Int32) (y0 : Int32) (y2 : Int32) (M : xM) (Q : Option Value → xM → Prop), xW xSC 74 59 [.ref a0, .int a1] (.int y0 :: .ref 1 :: .int y2 :: []) M Q = xW xSC 79 0 [.ref 1, .int y0] [] M (fun v M' => xW xSC 74 62 [.ref a0, .int a1] (xpush v [.int y2]) M' Q)) ∧
  (∀ (a0 : Nat) (a1 : Int32) (y0 : Int32) (y1 : Int32) (st : List Value) (M : xM) (Q : Option Value → xM → Prop), xW xSC 74 62 [.ref a0, .int a1] (.int y0 :: .int y1 :: st) M Q = if y1 = y0 then xW xSC 74 65 [.ref a0, .int a1] (st) M Q else xW xSC 74 67 [.ref a0, .int a1] (st) M Q) ∧
  (∀ (a0 : Nat) (a1 : Int32) (y0 : Int32) (M : xM) (Q : Option Value → xM → Prop), y0 = 0 ∨ y0 = 1 → xW xSC 74 66 [.ref a0, .int a1] ([.int y0]) M Q = Q (some (.int y0)) M) ∧
  (∀ (a0 : Nat) (a1 : Int32) (st : List Value) (M : xM) (Q : Option Value → xM → Prop), xW xSC 74 67 [.ref a0, .int a1] (st) M Q = xW xSC 74 68 [.ref a0, .int a1] (.ref a0 :: st) M Q) ∧
  (∀ (a0 : Nat) (a1 : Int32) (st : List Value) (M : xM) (Q : Option Value → xM → Prop), xW xSC 74 68 [.ref a0, .int a1] (st) M Q = xW xSC 74 69 [.ref a0, .int a1] (.int (nI 2) :: st) M Q) ∧
  (∀ (a0 : Nat) (a1 : Int32) (y0 : Int32) (M : xM) (Q : Option Value → xM → Prop), xW xSC 74 69 [.ref a0, .int a1] (.int y0 :: .ref 1 :: []) M Q = xW xSC 79 0 [.ref 1, .int y0] [] M (fun v M' => xW xSC 74 72 [.ref a0, .int a1] (xpush v []) M' Q)) ∧
  (∀ (a0 : Nat) (a1 : Int32) (st : List Value) (M : xM) (Q : Option Value → xM → Prop), xW xSC 74 72 [.ref a0, .int a1] (st) M Q = xW xSC 74 73 [.ref a0, .int a1] (.int (nI 0) :: st) M Q) ∧
  (∀ (a0 : Nat) (a1 : Int32) (st : List Value) (M : xM) (Q : Option Value → xM → Prop), xW xSC 74 73 [.ref a0, .int a1] (st) M Q = xW xSC 74 74 [.ref a0, .int a1] (.int (nI 2) :: st) M Q) ∧
  (∀ (a0 : Nat) (a1 : Int32) (y0 : Int32) (y1 : Int32) (y2 : Int32) (M : xM) (Q : Option Value → xM → Prop), xW xSC 74 74 [.ref a0, .int a1] (.int y0 :: .int y1 :: .int y2 :: []) M Q = xW xSC 132 0 [.int y2, .int y1, .int y0] [] M (fun v M' => xW xSC 74 77 [.ref a0, .int a1] (xpush v []) M' Q)) ∧
  (∀ (a0 : Nat) (a1 : Int32) (y0 : Int32) (st : List Value) (M : xM) (Q : Option Value → xM → Prop), xW xSC 74 77 [.ref a0, .int a1] (.int y0 :: st) M Q = if y0 = nI 0 then xW xSC 74 93 [.ref a0, .int a1] (st) M Q else xW xSC 74 80 [.ref a0, .int a1] (st) M Q) ∧
  (∀ (a0 : Nat) (a1 : Int32) (st : List Value) (M : xM) (Q : Option Value → xM → Prop), xW xSC 74 80 [.ref a0, .int a1] (st) M Q = xW xSC 74 81 [.ref a0, .int a1] (.ref a0 :: st) M Q) ∧
  (∀ (a0 : Nat) (a1 : Int32) (st : List Value) (M : xM) (Q : Option Value → xM → Prop), xW xSC 74 81 [.ref a0, .int a1] (st) M Q = xW xSC 74 82 [.ref a0, .int a1] (.int (nI 3) :: st) M Q) ∧
  (∀ (a0 : Nat) (a1 : Int32) (y0 : Int32) (M : xM) (Q : Option Value → xM → Prop), xW xSC 74 82 [.ref a0, .int a1] (.int y0 :: .ref 1 :: []) M Q = xW xSC 79 0 [.ref 1, .int y0] [] M (fun v M' => xW xSC 74 85 [.ref a0, .int a1] (xpush v []) M' Q)) ∧
  (∀ (a0 : Nat) (a1 : Int32) (st : List Value) (M : xM) (Q : Option Value → xM → Prop), xW xSC 74 85 [.ref a0, .int a1] (st) M Q = xW xSC 74 86 [.ref a0, .int a1] (.int (nI 1) :: st) M Q) ∧
  (∀ (a0 : Nat) (a1 : Int32) (st : List Value) (M : xM) (Q : Option Value → xM → Prop), xW xSC 74 86 [.ref a0, .int a1] (st) M Q = xW xSC 74 87 [.ref a0, .int a1] (.int (nI 2) :: st) M Q) ∧
  (∀ (a0 : Nat) (a1 : Int32) (y0 : Int32) (y1 : Int32) (y2 : Int32) (M : xM) (Q : Option Value → xM → Prop), xW xSC 74 87 [.ref a0, .int a1] (.int y0 :: .int y1 :: .int y2 :: []) M Q = xW xSC 132 0 [.int y2, .int y1, .int y0] [] M (fun v M' => xW xSC 74 90 [.ref a0, .int a1] (xpush v []) M' Q)) ∧
  (∀ (a0 : Nat) (a1 : Int32) (y0 : Int32) (st : List Value) (M : xM) (Q : Option Value → xM → Prop), xW xSC 74 90 [.ref a0, .int a1] (.int y0 :: st) M Q = if y0 = nI 0 then xW xSC 74 93 [.ref a0, .int a1] (st) M Q else xW xSC 74 95 [.ref a0, .int a1] (st) M Q) ∧
  (∀ (a0 : Nat) (a1 : Int32) (y0 : Int32) (M : xM) (Q : Option Value → xM → Prop), y0 = 0 ∨ y0 = 1 → xW xSC 74 94 [.ref a0, .int a1] ([.int y0]) M Q = Q (some (.int y0)) M) ∧
  (∀ (a0 : Nat) (a1 : Int32) (st : List Value) (M : xM) (Q : Option Value → xM → Prop), xW xSC 74 95 [.ref a0, .int a1] (st) M Q = xW xSC 74 96 [.ref a0, .int a1] (.ref a0 :: st) M Q) ∧
  (∀ (a0 : Nat) (a1 : Int32) (st : List Value) (M : xM) (Q : Option Value → xM → Prop), xW xSC 74 96 [.ref a0, .int a1] (.ref 1 :: st) M Q = xW xSC 74 99 [.ref a0, .int a1] (.ref 4 :: st) M Q) ∧
  (∀ (a0 : Nat) (a1 : Int32) (st : List Value) (M : xM) (Q : Option Value → xM → Prop), xW xSC 74 99 [.ref a0, .int a1] (st) M Q = xW xSC 74 100 [.ref a0, .int a1] (.ref a0 :: st) M Q) ∧
  (∀ (a0 : Nat) (a1 : Int32) (st : List Value) (M : xM) (Q : Option Value → xM → Prop), xW xSC 74 100 [.ref a0, .int a1] (st) M Q = xW xSC 74 101 [.ref a0, .int a1] (.int (nI 0) :: st) M Q) ∧
  (∀ (a0 : Nat) (a1 : Int32) (y0 : Int32) (y2 : Nat) (M : xM) (Q : Option Value → xM → Prop), xW xSC 74 101 [.ref a0, .int a1] (.int y0 :: .ref 1 :: .ref y2 :: []) M Q = xW xSC 79 0 [.ref 1, .int y0] [] M (fun v M' => xW xSC 74 104 [.ref a0, .int a1] (xpush v [.ref y2]) M' Q)) ∧
  (∀ (a0 : Nat) (a1 : Int32) (st : List Value) (M : xM) (Q : Option Value → xM → Prop), xW xSC 74 104 [.ref a0, .int a1] (st) M Q = xW xSC 74 105 [.ref a0, .int a1] (.ref a0 :: st) M Q) ∧
  (∀ (a0 : Nat) (a1 : Int32) (st : List Value) (M : xM) (Q : Option Value → xM → Prop), xW xSC 74 105 [.ref a0, .int a1] (st) M Q = xW xSC 74 106 [.ref a0, .int a1] (.int (nI 1) :: st) M Q) ∧
  (∀ (a0 : Nat) (a1 : Int32) (y0 : Int32) (y2 : Int32) (y3 : Nat) (M : xM) (Q : Option Value → xM → Prop), xW xSC 74 106 [.ref a0, .int a1] (.int y0 :: .ref 1 :: .int y2 :: .ref y3 :: []) M Q = xW xSC 79 0 [.ref 1, .int y0] [] M (fun v M' => xW xSC 74 109 [.ref a0, .int a1] (xpush v [.int y2, .ref y3]) M' Q)) ∧
  (∀ (a0 : Nat) (a1 : Int32) (st : List Value) (M : xM) (Q : Option Value → xM → Prop), xW xSC 74 109 [.ref a0, .int a1] (st) M Q = xW xSC 74 110 [.ref a0, .int a1] (.ref a0 :: st) M Q) ∧
  (∀ (a0 : Nat) (a1 : Int32) (st : List Value) (M : xM) (Q : Option Value → xM → Prop), xW xSC 74 110 [.ref a0, .int a1] (st) M Q = xW xSC 74 111 [.ref a0, .int a1] (.int (nI 2) :: st) M Q) ∧
  (∀ (a0 : Nat) (a1 : Int32) (y0 : Int32) (y2 : Int32) (y3 : Int32) (y4 : Nat) (M : xM) (Q : Option Value → xM → Prop), xW xSC 74 111 [.ref a0, .int a1] (.int y0 :: .ref 1 :: .int y2 :: .int y3 :: .ref y4 :: []) M Q = xW xSC 79 0 [.ref 1, .int y0] [] M (fun v M' => xW xSC 74 114 [.ref a0, .int a1] (xpush v [.int y2, .int y3, .ref y4]) M' Q)) ∧
  (∀ (a0 : Nat) (a1 : Int32) (st : List Value) (M : xM) (Q : Option Value → xM → Prop), xW xSC 74 114 [.ref a0, .int a1] (st) M Q = xW xSC 74 115 [.ref a0, .int a1] (.ref a0 :: st) M Q) ∧
  (∀ (a0 : Nat) (a1 : Int32) (st : List Value) (M : xM) (Q : Option Value → xM → Prop), xW xSC 74 115 [.ref a0, .int a1] (st) M Q = xW xSC 74 116 [.ref a0, .int a1] (.int (nI 3) :: st) M Q) ∧
  (∀ (a0 : Nat) (a1 : Int32) (y0 : Int32) (y2 : Int32) (y3 : Int32) (y4 : Int32) (y5 : Nat) (M : xM) (Q : Option Value → xM → Prop), xW xSC 74 116 [.ref a0, .int a1] (.int y0 :: .ref 1 :: .int y2 :: .int y3 :: .int y4 :: .ref y5 :: []) M Q = xW xSC 79 0 [.ref 1, .int y0] [] M (fun v M' => xW xSC 74 119 [.ref a0, .int a1] (xpush v [.int y2, .int y3, .int y4, .ref y5]) M' Q)) ∧
  (∀ (a0 : Nat) (a1 : Int32) (y0 : Int32) (y1 : Int32) (y2 : Int32) (y3 : Int32) (M : xM) (Q : Option Value → xM → Prop), xW xSC 74 119 [.ref a0, .int a1] (.int y0 :: .int y1 :: .int y2 :: .int y3 :: .ref 4 :: []) M Q = xW xSC 26 0 [.ref 4, .int y3, .int y2, .int y1, .int y0] [] M (fun v M' => xW xSC 74 122 [.ref a0, .int a1] (xpush v []) M' Q)) ∧
  (∀ (a0 : Nat) (a1 : Int32) (st : List Value) (M : xM) (Q : Option Value → xM → Prop), xW xSC 74 122 [.ref a0, .int a1] (st) M Q = xW xSC 74 123 [.ref a0, .int a1] (.int (nI 1) :: st) M Q) ∧
  (∀ (a0 : Nat) (a1 : Int32) (y0 : Int32) (M : xM) (Q : Option Value → xM → Prop), y0 = 0 ∨ y0 = 1 → xW xSC 74 123 [.ref a0, .int a1] ([.int y0]) M Q = Q (some (.int y0)) M) :=
  ⟨fun a0 a1 st M Q => xw_s rfl rfl,
  fun a0 a1 st M Q => xw_s rfl rfl,
  fun a0 a1 st M Q => xw_s rfl rfl,
  fun a0 a1 st M Q => xw_s rfl rfl,
  fun a0 a1 y0 y2 M Q => xw_call rfl rfl rfl,
  fun a0 a1 y0 M Q => xw_call rfl rfl rfl,
  fun a0 a1 y0 st M Q => xw_br (c0 := y0 = nI 0) rfl rfl,
  fun a0 a1 st M Q => xw_s rfl rfl,
  fun a0 a1 st M Q => xw_s rfl rfl,
  fun a0 a1 st M Q => xw_s rfl rfl,
  fun a0 a1 st M Q => xw_s rfl rfl,
  fun a0 a1 y0 y2 M Q => xw_call rfl rfl rfl,
  fun a0 a1 y0 M Q => xw_call rfl rfl rfl,
  fun a0 a1 y0 st M Q => xw_br (c0 := y0 = nI 0) rfl rfl,
  fun a0 a1 st M Q => xw_s rfl rfl,
  fun a0 a1 st M Q => xw_s rfl rfl,
  fun a0 a1 st M Q => xw_s rfl rfl,
  fun a0 a1 st M Q => xw_s rfl rfl,
  fun a0 a1 st M Q => xw_s rfl rfl,
  fun a0 a1 st M Q => xw_s rfl rfl,
  fun a0 a1 y0 y1 st M Q => xw_brn (c0 := y0 ≤ y1) (c1 := y1 < y0) rfl rfl (xge _ _),
  fun a0 a1 st M Q => xw_s rfl rfl,
  fun a0 a1 y0 st M Q => xw_br (c0 := y0 = nI 0) rfl rfl,
  fun a0 a1 st M Q => xw_s rfl rfl,
  fun a0 a1 st M Q => xw_s rfl rfl,
  fun a0 a1 y0 M Q => xw_call rfl rfl rfl,
  fun a0 a1 st M Q => xw_s rfl rfl,
  fun a0 a1 st M Q => xw_s rfl rfl,
  fun a0 a1 y0 y2 M Q => xw_call rfl rfl rfl,
  fun a0 a1 y0 y1 st M Q => xw_brn (c0 := y1 ≠ y0) (c1 := y1 = y0) rfl rfl (Iff.rfl),
  fun a0 a1 y0 M Q h0 => xw_retz rfl rfl h0,
  fun a0 a1 st M Q => xw_s rfl rfl,
  fun a0 a1 st M Q => xw_s rfl rfl,
  fun a0 a1 y0 M Q => xw_call rfl rfl rfl,
  fun a0 a1 st M Q => xw_s rfl rfl,
  fun a0 a1 st M Q => xw_s rfl rfl,
  fun a0 a1 y0 y1 y2 M Q => xw_call rfl rfl rfl,
  fun a0 a1 y0 st M Q => xw_br (c0 := y0 = nI 0) rfl rfl,
  fun a0 a1 st M Q => xw_s rfl rfl,
  fun a0 a1 st M Q => xw_s rfl rfl,
  fun a0 a1 y0 M Q => xw_call rfl rfl rfl,
  fun a0 a1 st M Q => xw_s rfl rfl,
  fun a0 a1 st M Q => xw_s rfl rfl,
  fun a0 a1 y0 y1 y2 M Q => xw_call rfl rfl rfl,
  fun a0 a1 y0 st M Q => xw_brn (c0 := y0 ≠ nI 0) (c1 := y0 = nI 0) rfl rfl (Iff.rfl),
  fun a0 a1 y0 M Q h0 => xw_retz rfl rfl h0,
  fun a0 a1 st M Q => xw_s rfl rfl,
  fun a0 a1 st M Q => xw_s rfl rfl,
  fun a0 a1 st M Q => xw_s rfl rfl,
  fun a0 a1 st M Q => xw_s rfl rfl,
  fun a0 a1 y0 y2 M Q => xw_call rfl rfl rfl,
  fun a0 a1 st M Q => xw_s rfl rfl,
  fun a0 a1 st M Q => xw_s rfl rfl,
  fun a0 a1 y0 y2 y3 M Q => xw_call rfl rfl rfl,
  fun a0 a1 st M Q => xw_s rfl rfl,
  fun a0 a1 st M Q => xw_s rfl rfl,
  fun a0 a1 y0 y2 y3 y4 M Q => xw_call rfl rfl rfl,
  fun a0 a1 st M Q => xw_s rfl rfl,
  fun a0 a1 st M Q => xw_s rfl rfl,
  fun a0 a1 y0 y2 y3 y4 y5 M Q => xw_call rfl rfl rfl,
  fun a0 a1 y0 y1 y2 y3 M Q => xw_call rfl rfl rfl,
  fun a0 a1 st M Q => xw_s rfl rfl,
  fun a0 a1 y0 M Q h0 => xw_retz rfl rfl h0⟩
set_option maxRecDepth 20000 in
theorem h74_34 :
  (∀ (a0 : Nat) (a1 : Value) (st : List Value) (M : xM) (Q : Option Value → xM → Prop), xW xSC 74 34 [.ref a0, a1] (st) M Q = xW xSC 74 35 [.ref a0, a1] (.int (nI 0) :: st) M Q) :=
  fun a0 a1 st M Q => xw_s rfl rfl
set_option maxRecDepth 20000 in
theorem h74_35 :
  (∀ (a0 : Nat) (a1 : Value) (y0 : Int32) (st : List Value) (M : xM) (Q : Option Value → xM → Prop), xW xSC 74 35 [.ref a0, a1] (.int y0 :: st) M Q = xW xSC 74 36 [.ref a0, .int y0] (st) M Q) :=
  fun a0 a1 y0 st M Q => xw_s rfl rfl
set_option maxRecDepth 20000 in
theorem h74_65 :
  (∀ (a0 : Nat) (a1 : Int32) (st : List Value) (M : xM) (Q : Option Value → xM → Prop), xW xSC 74 65 [.ref a0, .int a1] (st) M Q = xW xSC 74 66 [.ref a0, .int a1] (.int (nI 0) :: st) M Q) :=
  fun a0 a1 st M Q => xw_s rfl rfl
set_option maxRecDepth 20000 in
theorem h74_93 :
  (∀ (a0 : Nat) (a1 : Int32) (st : List Value) (M : xM) (Q : Option Value → xM → Prop), xW xSC 74 93 [.ref a0, .int a1] (st) M Q = xW xSC 74 94 [.ref a0, .int a1] (.int (nI 0) :: st) M Q) :=
  fun a0 a1 st M Q => xw_s rfl rfl
set_option maxRecDepth 20000 in
theorem j74 :
  (∀ (a0 : Nat) (a1 : Value) (st : List Value) (M : xM) (Q : Option Value → xM → Prop), xW xSC 74 34 [.ref a0, a1] (st) M Q = xW xSC 74 35 [.ref a0, a1] (.int (nI 0) :: st) M Q) ∧
  (∀ (a0 : Nat) (a1 : Value) (y0 : Int32) (st : List Value) (M : xM) (Q : Option Value → xM → Prop), xW xSC 74 35 [.ref a0, a1] (.int y0 :: st) M Q = xW xSC 74 36 [.ref a0, .int y0] (st) M Q) ∧
  (∀ (a0 : Nat) (a1 : Int32) (st : List Value) (M : xM) (Q : Option Value → xM → Prop), xW xSC 74 65 [.ref a0, .int a1] (st) M Q = xW xSC 74 66 [.ref a0, .int a1] (.int (nI 0) :: st) M Q) ∧
  (∀ (a0 : Nat) (a1 : Int32) (st : List Value) (M : xM) (Q : Option Value → xM → Prop), xW xSC 74 93 [.ref a0, .int a1] (st) M Q = xW xSC 74 94 [.ref a0, .int a1] (.int (nI 0) :: st) M Q) :=
  ⟨fun a0 a1 st M Q => xw_s rfl rfl,
  fun a0 a1 y0 st M Q => xw_s rfl rfl,
  fun a0 a1 st M Q => xw_s rfl rfl,
  fun a0 a1 st M Q => xw_s rfl rfl⟩

set_option maxRecDepth 20000 in
theorem s75 :
  (∀ (a0 : Nat) (st : List Value) (M : xM) (Q : Option Value → xM → Prop), xW xSC 75 0 [.ref a0] (st) M Q = xW xSC 75 1 [.ref a0] (.ref a0 :: st) M Q) ∧
  (∀ (a0 : Nat) (st : List Value) (M : xM) (Q : Option Value → xM → Prop), xW xSC 75 1 [.ref a0] (.ref 1 :: st) M Q = xW xSC 75 4 [.ref a0] (.ref 4 :: st) M Q) ∧
  (∀ (a0 : Nat) (st : List Value) (M : xM) (Q : Option Value → xM → Prop), xW xSC 75 4 [.ref a0] (st) M Q = xW xSC 75 5 [.ref a0] (.ref a0 :: st) M Q) ∧
  (∀ (a0 : Nat) (st : List Value) (M : xM) (Q : Option Value → xM → Prop), xW xSC 75 5 [.ref a0] (st) M Q = xW xSC 75 6 [.ref a0] (.int (nI 0) :: st) M Q) ∧
  (∀ (a0 : Nat) (y0 : Int32) (y2 : Nat) (M : xM) (Q : Option Value → xM → Prop), xW xSC 75 6 [.ref a0] (.int y0 :: .ref 1 :: .ref y2 :: []) M Q = xW xSC 79 0 [.ref 1, .int y0] [] M (fun v M' => xW xSC 75 9 [.ref a0] (xpush v [.ref y2]) M' Q)) ∧
  (∀ (a0 : Nat) (y0 : Int32) (M : xM) (Q : Option Value → xM → Prop), xW xSC 75 9 [.ref a0] (.int y0 :: .ref 4 :: []) M Q = xW xSC 24 0 [.ref 4, .int y0] [] M (fun v M' => xW xSC 75 12 [.ref a0] (xpush v []) M' Q)) ∧
  (∀ (a0 : Nat) (y0 : Int32) (st : List Value) (M : xM) (Q : Option Value → xM → Prop), xW xSC 75 12 [.ref a0] (.int y0 :: st) M Q = if y0 = nI 0 then xW xSC 75 42 [.ref a0] (st) M Q else xW xSC 75 15 [.ref a0] (st) M Q) ∧
  (∀ (a0 : Nat) (st : List Value) (M : xM) (Q : Option Value → xM → Prop), xW xSC 75 15 [.ref a0] (st) M Q = xW xSC 75 16 [.ref a0] (.ref a0 :: st) M Q) ∧
  (∀ (a0 : Nat) (st : List Value) (M : xM) (Q : Option Value → xM → Prop), xW xSC 75 16 [.ref a0] (st) M Q = xW xSC 75 17 [.ref a0] (.int (nI 1) :: st) M Q) ∧
  (∀ (a0 : Nat) (y0 : Int32) (M : xM) (Q : Option Value → xM → Prop), xW xSC 75 17 [.ref a0] (.int y0 :: .ref 1 :: []) M Q = xW xSC 79 0 [.ref 1, .int y0] [] M (fun v M' => xW xSC 75 20 [.ref a0] (xpush v []) M' Q)) ∧
  (∀ (a0 : Nat) (st : List Value) (M : xM) (Q : Option Value → xM → Prop), xW xSC 75 20 [.ref a0] (st) M Q = xW xSC 75 21 [.ref a0] (.int (nI 0) :: st) M Q) ∧
  (∀ (a0 : Nat) (st : List Value) (M : xM) (Q : Option Value → xM → Prop), xW xSC 75 21 [.ref a0] (st) M Q = xW xSC 75 22 [.ref a0] (.int (nI 1) :: st) M Q) ∧
  (∀ (a0 : Nat) (y0 : Int32) (y1 : Int32) (y2 : Int32) (M : xM) (Q : Option Value → xM → Prop), xW xSC 75 22 [.ref a0] (.int y0 :: .int y1 :: .int y2 :: []) M Q = xW xSC 132 0 [.int y2, .int y1, .int y0] [] M (fun v M' => xW xSC 75 25 [.ref a0] (xpush v []) M' Q)) ∧
  (∀ (a0 : Nat) (y0 : Int32) (st : List Value) (M : xM) (Q : Option Value → xM → Prop), xW xSC 75 25 [.ref a0] (.int y0 :: st) M Q = if y0 = nI 0 then xW xSC 75 42 [.ref a0] (st) M Q else xW xSC 75 28 [.ref a0] (st) M Q) ∧
  (∀ (a0 : Nat) (st : List Value) (M : xM) (Q : Option Value → xM → Prop), xW xSC 75 28 [.ref a0] (st) M Q = xW xSC 75 29 [.ref a0] (.ref a0 :: st) M Q) ∧
  (∀ (a0 : Nat) (st : List Value) (M : xM) (Q : Option Value → xM → Prop), xW xSC 75 29 [.ref a0] (st) M Q = xW xSC 75 30 [.ref a0] (.int (nI 2) :: st) M Q) ∧
  (∀ (a0 : Nat) (y0 : Int32) (M : xM) (Q : Option Value → xM → Prop), xW xSC 75 30 [.ref a0] (.int y0 :: .ref 1 :: []) M Q = xW xSC 79 0 [.ref 1, .int y0] [] M (fun v M' => xW xSC 75 33 [.ref a0] (xpush v []) M' Q)) ∧
  (∀ (a0 : Nat) (st : List Value) (M : xM) (Q : Option Value → xM → Prop), xW xSC 75 33 [.ref a0] (st) M Q = xW xSC 75 34 [.ref a0] (.int (nI 0) :: st) M Q) ∧
  (∀ (a0 : Nat) (st : List Value) (M : xM) (Q : Option Value → xM → Prop), xW xSC 75 34 [.ref a0] (st) M Q = xW xSC 75 36 [.ref a0] (.int (nI 63) :: st) M Q) ∧
  (∀ (a0 : Nat) (y0 : Int32) (y1 : Int32) (y2 : Int32) (M : xM) (Q : Option Value → xM → Prop), xW xSC 75 36 [.ref a0] (.int y0 :: .int y1 :: .int y2 :: []) M Q = xW xSC 132 0 [.int y2, .int y1, .int y0] [] M (fun v M' => xW xSC 75 39 [.ref a0] (xpush v []) M' Q)) ∧
  (∀ (a0 : Nat) (y0 : Int32) (st : List Value) (M : xM) (Q : Option Value → xM → Prop), xW xSC 75 39 [.ref a0] (.int y0 :: st) M Q = if y0 = nI 0 then xW xSC 75 42 [.ref a0] (st) M Q else xW xSC 75 44 [.ref a0] (st) M Q) ∧
  (∀ (a0 : Nat) (y0 : Int32) (M : xM) (Q : Option Value → xM → Prop), y0 = 0 ∨ y0 = 1 → xW xSC 75 43 [.ref a0] ([.int y0]) M Q = Q (some (.int y0)) M) ∧
  (∀ (a0 : Nat) (st : List Value) (M : xM) (Q : Option Value → xM → Prop), xW xSC 75 44 [.ref a0] (st) M Q = xW xSC 75 45 [.ref a0] (.ref a0 :: st) M Q) ∧
  (∀ (a0 : Nat) (st : List Value) (M : xM) (Q : Option Value → xM → Prop), xW xSC 75 45 [.ref a0] (.ref 1 :: st) M Q = xW xSC 75 48 [.ref a0] (.ref 4 :: st) M Q) ∧
  (∀ (a0 : Nat) (st : List Value) (M : xM) (Q : Option Value → xM → Prop), xW xSC 75 48 [.ref a0] (st) M Q = xW xSC 75 49 [.ref a0] (.ref a0 :: st) M Q) ∧
  (∀ (a0 : Nat) (st : List Value) (M : xM) (Q : Option Value → xM → Prop), xW xSC 75 49 [.ref a0] (st) M Q = xW xSC 75 50 [.ref a0] (.int (nI 0) :: st) M Q) ∧
  (∀ (a0 : Nat) (y0 : Int32) (y2 : Nat) (M : xM) (Q : Option Value → xM → Prop), xW xSC 75 50 [.ref a0] (.int y0 :: .ref 1 :: .ref y2 :: []) M Q = xW xSC 79 0 [.ref 1, .int y0] [] M (fun v M' => xW xSC 75 53 [.ref a0] (xpush v [.ref y2]) M' Q)) ∧
  (∀ (a0 : Nat) (st : List Value) (M : xM) (Q : Option Value → xM → Prop), xW xSC 75 53 [.ref a0] (st) M Q = xW xSC 75 54 [.ref a0] (.int (nI 4) :: st) M Q) ∧
  (∀ (a0 : Nat) (st : List Value) (M : xM) (Q : Option Value → xM → Prop), xW xSC 75 54 [.ref a0] (st) M Q = xW xSC 75 55 [.ref a0] (.ref a0 :: st) M Q) ∧
  (∀ (a0 : Nat) (st : List Value) (M : xM) (Q : Option Value → xM → Prop), xW xSC 75 55 [.ref a0] (st) M Q = xW xSC 75 56 [.ref a0] (.int (nI 1) :: st) M Q) ∧
  (∀ (a0 : Nat) (y0 : Int32) (y2 : Int32) (y3 : Int32) (y4 : Nat) (M : xM) (Q : Option Value → xM → Prop), xW xSC 75 56 [.ref a0] (.int y0 :: .ref 1 :: .int y2 :: .int y3 :: .ref y4 :: []) M Q = xW xSC 79 0 [.ref 1, .int y0] [] M (fun v M' => xW xSC 75 59 [.ref a0] (xpush v [.int y2, .int y3, .ref y4]) M' Q)) ∧
  (∀ (a0 : Nat) (y0 : Int32) (y1 : Int32) (st : List Value) (M : xM) (Q : Option Value → xM → Prop), xW xSC 75 59 [.ref a0] (.int y0 :: .int y1 :: st) M Q = xW xSC 75 60 [.ref a0] (.int (y1 + y0) :: st) M Q) ∧
  (∀ (a0 : Nat) (st : List Value) (M : xM) (Q : Option Value → xM → Prop), xW xSC 75 60 [.ref a0] (st) M Q = xW xSC 75 61 [.ref a0] (.ref a0 :: st) M Q) ∧
  (∀ (a0 : Nat) (st : List Value) (M : xM) (Q : Option Value → xM → Prop), xW xSC 75 61 [.ref a0] (st) M Q = xW xSC 75 62 [.ref a0] (.int (nI 2) :: st) M Q) ∧
  (∀ (a0 : Nat) (y0 : Int32) (y2 : Int32) (y3 : Int32) (y4 : Nat) (M : xM) (Q : Option Value → xM → Prop), xW xSC 75 62 [.ref a0] (.int y0 :: .ref 1 :: .int y2 :: .int y3 :: .ref y4 :: []) M Q = xW xSC 79 0 [.ref 1, .int y0] [] M (fun v M' => xW xSC 75 65 [.ref a0] (xpush v [.int y2, .int y3, .ref y4]) M' Q)) ∧
  (∀ (a0 : Nat) (y0 : Int32) (y1 : Int32) (y2 : Int32) (M : xM) (Q : Option Value → xM → Prop), xW xSC 75 65 [.ref a0] (.int y0 :: .int y1 :: .int y2 :: .ref 4 :: []) M Q = xW xSC 29 0 [.ref 4, .int y2, .int y1, .int y0] [] M (fun v M' => xW xSC 75 68 [.ref a0] (xpush v []) M' Q)) ∧
  (∀ (a0 : Nat) (st : List Value) (M : xM) (Q : Option Value → xM → Prop), xW xSC 75 68 [.ref a0] (st) M Q = xW xSC 75 69 [.ref a0] (.int (nI 1) :: st) M Q) ∧
  (∀ (a0 : Nat) (y0 : Int32) (M : xM) (Q : Option Value → xM → Prop), y0 = 0 ∨ y0 = 1 → xW xSC 75 69 [.ref a0] ([.int y0]) M Q = Q (some (.int y0)) M) :=
  ⟨fun a0 st M Q => xw_s rfl rfl,
  fun a0 st M Q => xw_s rfl rfl,
  fun a0 st M Q => xw_s rfl rfl,
  fun a0 st M Q => xw_s rfl rfl,
  fun a0 y0 y2 M Q => xw_call rfl rfl rfl,
  fun a0 y0 M Q => xw_call rfl rfl rfl,
  fun a0 y0 st M Q => xw_br (c0 := y0 = nI 0) rfl rfl,
  fun a0 st M Q => xw_s rfl rfl,
  fun a0 st M Q => xw_s rfl rfl,
  fun a0 y0 M Q => xw_call rfl rfl rfl,
  fun a0 st M Q => xw_s rfl rfl,
  fun a0 st M Q => xw_s rfl rfl,
  fun a0 y0 y1 y2 M Q => xw_call rfl rfl rfl,
  fun a0 y0 st M Q => xw_br (c0 := y0 = nI 0) rfl rfl,
  fun a0 st M Q => xw_s rfl rfl,
  fun a0 st M Q => xw_s rfl rfl,
  fun a0 y0 M Q => xw_call rfl rfl rfl,
  fun a0 st M Q => xw_s rfl rfl,
  fun a0 st M Q => xw_s rfl rfl,
  fun a0 y0 y1 y2 M Q => xw_call rfl rfl rfl,
  fun a0 y0 st M Q => xw_brn (c0 := y0 ≠ nI 0) (c1 := y0 = nI 0) rfl rfl (Iff.rfl),
  fun a0 y0 M Q h0 => xw_retz rfl rfl h0,
  fun a0 st M Q => xw_s rfl rfl,
  fun a0 st M Q => xw_s rfl rfl,
  fun a0 st M Q => xw_s rfl rfl,
  fun a0 st M Q => xw_s rfl rfl,
  fun a0 y0 y2 M Q => xw_call rfl rfl rfl,
  fun a0 st M Q => xw_s rfl rfl,
  fun a0 st M Q => xw_s rfl rfl,
  fun a0 st M Q => xw_s rfl rfl,
  fun a0 y0 y2 y3 y4 M Q => xw_call rfl rfl rfl,
  fun a0 y0 y1 st M Q => xw_s rfl rfl,
  fun a0 st M Q => xw_s rfl rfl,
  fun a0 st M Q => xw_s rfl rfl,
  fun a0 y0 y2 y3 y4 M Q => xw_call rfl rfl rfl,
  fun a0 y0 y1 y2 M Q => xw_call rfl rfl rfl,
  fun a0 st M Q => xw_s rfl rfl,
  fun a0 y0 M Q h0 => xw_retz rfl rfl h0⟩
set_option maxRecDepth 20000 in
theorem h75_42 :
  (∀ (a0 : Nat) (st : List Value) (M : xM) (Q : Option Value → xM → Prop), xW xSC 75 42 [.ref a0] (st) M Q = xW xSC 75 43 [.ref a0] (.int (nI 0) :: st) M Q) :=
  fun a0 st M Q => xw_s rfl rfl
set_option maxRecDepth 20000 in
theorem j75 :
  (∀ (a0 : Nat) (st : List Value) (M : xM) (Q : Option Value → xM → Prop), xW xSC 75 42 [.ref a0] (st) M Q = xW xSC 75 43 [.ref a0] (.int (nI 0) :: st) M Q) :=
  fun a0 st M Q => xw_s rfl rfl

set_option maxRecDepth 20000 in
theorem s76 :
  (∀ (a0 : Nat) (a1 : Value) (st : List Value) (M : xM) (Q : Option Value → xM → Prop), xW xSC 76 0 [.ref a0, a1] (st) M Q = xW xSC 76 1 [.ref a0, a1] (.int (nI 0) :: st) M Q) ∧
  (∀ (a0 : Nat) (a1 : Value) (y0 : Int32) (st : List Value) (M : xM) (Q : Option Value → xM → Prop), xW xSC 76 1 [.ref a0, a1] (.int y0 :: st) M Q = xW xSC 76 2 [.ref a0, .int y0] (st) M Q) ∧
  (∀ (a0 : Nat) (a1 : Int32) (st : List Value) (M : xM) (Q : Option Value → xM → Prop), xW xSC 76 3 [.ref a0, .int a1] (st) M Q = xW xSC 76 5 [.ref a0, .int a1] (.int (nI 6) :: st) M Q) ∧
  (∀ (a0 : Nat) (a1 : Int32) (y0 : Int32) (y1 : Int32) (st : List Value) (M : xM) (Q : Option Value → xM → Prop), xW xSC 76 5 [.ref a0, .int a1] (.int y0 :: .int y1 :: st) M Q = if y1 < y0 then xW xSC 76 8 [.ref a0, .int a1] (st) M Q else xW xSC 76 30 [.ref a0, .int a1] (st) M Q) ∧
  (∀ (a0 : Nat) (a1 : Int32) (st : List Value) (M : xM) (Q : Option Value → xM → Prop), xW xSC 76 8 [.ref a0, .int a1] (st) M Q = xW xSC 76 9 [.ref a0, .int a1] (.ref a0 :: st) M Q) ∧
  (∀ (a0 : Nat) (a1 : Int32) (st : List Value) (M : xM) (Q : Option Value → xM → Prop), xW xSC 76 9 [.ref a0, .int a1] (st) M Q = xW xSC 76 10 [.ref a0, .int a1] (.int a1 :: st) M Q) ∧
  (∀ (a0 : Nat) (a1 : Int32) (y0 : Int32) (M : xM) (Q : Option Value → xM → Prop), xW xSC 76 10 [.ref a0, .int a1] (.int y0 :: .ref 1 :: []) M Q = xW xSC 79 0 [.ref 1, .int y0] [] M (fun v M' => xW xSC 76 13 [.ref a0, .int a1] (xpush v []) M' Q)) ∧
  (∀ (a0 : Nat) (a1 : Int32) (st : List Value) (M : xM) (Q : Option Value → xM → Prop), xW xSC 76 13 [.ref a0, .int a1] (st) M Q = xW xSC 76 14 [.ref a0, .int a1] (.int (nI 0) :: st) M Q) ∧
  (∀ (a0 : Nat) (a1 : Int32) (st : List Value) (M : xM) (Q : Option Value → xM → Prop), xW xSC 76 14 [.ref a0, .int a1] (st) M Q = xW xSC 76 16 [.ref a0, .int a1] (.int (nI 20) :: st) M Q) ∧
  (∀ (a0 : Nat) (a1 : Int32) (y0 : Int32) (y1 : Int32) (y2 : Int32) (M : xM) (Q : Option Value → xM → Prop), xW xSC 76 16 [.ref a0, .int a1] (.int y0 :: .int y1 :: .int y2 :: []) M Q = xW xSC 132 0 [.int y2, .int y1, .int y0] [] M (fun v M' => xW xSC 76 19 [.ref a0, .int a1] (xpush v []) M' Q)) ∧
  (∀ (a0 : Nat) (a1 : Int32) (y0 : Int32) (st : List Value) (M : xM) (Q : Option Value → xM → Prop), xW xSC 76 19 [.ref a0, .int a1] (.int y0 :: st) M Q = if y0 = nI 0 then xW xSC 76 22 [.ref a0, .int a1] (st) M Q else xW xSC 76 24 [.ref a0, .int a1] (st) M Q) ∧
  (∀ (a0 : Nat) (a1 : Int32) (st : List Value) (M : xM) (Q : Option Value → xM → Prop), xW xSC 76 22 [.ref a0, .int a1] (st) M Q = xW xSC 76 23 [.ref a0, .int a1] (.int (nI 0) :: st) M Q) ∧
  (∀ (a0 : Nat) (a1 : Int32) (y0 : Int32) (M : xM) (Q : Option Value → xM → Prop), y0 = 0 ∨ y0 = 1 → xW xSC 76 23 [.ref a0, .int a1] ([.int y0]) M Q = Q (some (.int y0)) M) ∧
  (∀ (a0 : Nat) (a1 : Int32) (st : List Value) (M : xM) (Q : Option Value → xM → Prop), xW xSC 76 24 [.ref a0, .int a1] (st) M Q = xW xSC 76 27 [.ref a0, .int (a1 + nI 1)] (st) M Q) ∧
  (∀ (a0 : Nat) (a1 : Int32) (st : List Value) (M : xM) (Q : Option Value → xM → Prop), xW xSC 76 27 [.ref a0, .int a1] (st) M Q = xW xSC 76 2 [.ref a0, .int a1] (st) M Q) ∧
  (∀ (a0 : Nat) (a1 : Int32) (st : List Value) (M : xM) (Q : Option Value → xM → Prop), xW xSC 76 30 [.ref a0, .int a1] (st) M Q = xW xSC 76 31 [.ref a0, .int a1] (.int (nI 0) :: st) M Q) ∧
  (∀ (a0 : Nat) (a1 : Int32) (y0 : Int32) (st : List Value) (M : xM) (Q : Option Value → xM → Prop), xW xSC 76 31 [.ref a0, .int a1] (.int y0 :: st) M Q = xW xSC 76 32 [.ref a0, .int y0] (st) M Q) ∧
  (∀ (a0 : Nat) (a1 : Int32) (st : List Value) (M : xM) (Q : Option Value → xM → Prop), xW xSC 76 33 [.ref a0, .int a1] (st) M Q = xW xSC 76 35 [.ref a0, .int a1] (.int (nI 6) :: st) M Q) ∧
  (∀ (a0 : Nat) (a1 : Int32) (y0 : Int32) (y1 : Int32) (st : List Value) (M : xM) (Q : Option Value → xM → Prop), xW xSC 76 35 [.ref a0, .int a1] (.int y0 :: .int y1 :: st) M Q = if y1 < y0 then xW xSC 76 38 [.ref a0, .int a1] (st) M Q else xW xSC 76 57 [.ref a0, .int a1] (st) M Q) ∧
  (∀ (a0 : Nat) (a1 : Int32) (st : List Value) (M : xM) (Q : Option Value → xM → Prop), xW xSC 76 38 [.ref a0, .int a1] (st) M Q = xW xSC 76 39 [.ref a0, .int a1] (.ref a0 :: st) M Q) ∧
  (∀ (a0 : Nat) (a1 : Int32) (st : List Value) (M : xM) (Q : Option Value → xM → Prop), xW xSC 76 39 [.ref a0, .int a1] (.ref 1 :: st) M Q = xW xSC 76 42 [.ref a0, .int a1] (.ref 4 :: st) M Q) ∧
  (∀ (a0 : Nat) (a1 : Int32) (st : List Value) (M : xM) (Q : Option Value → xM → Prop), xW xSC 76 42 [.ref a0, .int a1] (st) M Q = xW xSC 76 43 [.ref a0, .int a1] (.int a1 :: st) M Q) ∧
  (∀ (a0 : Nat) (a1 : Int32) (st : List Value) (M : xM) (Q : Option Value → xM → Prop), xW xSC 76 43 [.ref a0, .int a1] (st) M Q = xW xSC 76 44 [.ref a0, .int a1] (.ref a0 :: st) M Q) ∧
  (∀ (a0 : Nat) (a1 : Int32) (st : List Value) (M : xM) (Q : Option Value → xM → Prop), xW xSC 76 44 [.ref a0, .int a1] (st) M Q = xW xSC 76 45 [.ref a0, .int a1] (.int a1 :: st) M Q) ∧
  (∀ (a0 : Nat) (a1 : Int32) (y0 : Int32) (y2 : Int32) (y3 : Nat) (M : xM) (Q : Option Value → xM → Prop), xW xSC 76 45 [.ref a0, .int a1] (.int y0 :: .ref 1 :: .int y2 :: .ref y3 :: []) M Q = xW xSC 79 0 [.ref 1, .int y0] [] M (fun v M' => xW xSC 76 48 [.ref a0, .int a1] (xpush v [.int y2, .ref y3]) M' Q)) ∧
  (∀ (a0 : Nat) (a1 : Int32) (y0 : Int32) (y1 : Int32) (M : xM) (Q : Option Value → xM → Prop), xW xSC 76 48 [.ref a0, .int a1] (.int y0 :: .int y1 :: .ref 4 :: []) M Q = xW xSC 35 0 [.ref 4, .int y1, .int y0] [] M (fun v M' => xW xSC 76 51 [.ref a0, .int a1] (xpush v []) M' Q)) ∧
  (∀ (a0 : Nat) (a1 : Int32) (st : List Value) (M : xM) (Q : Option Value → xM → Prop), xW xSC 76 51 [.ref a0, .int a1] (st) M Q = xW xSC 76 54 [.ref a0, .int (a1 + nI 1)] (st) M Q) ∧
  (∀ (a0 : Nat) (a1 : Int32) (st : List Value) (M : xM) (Q : Option Value → xM → Prop), xW xSC 76 54 [.ref a0, .int a1] (st) M Q = xW xSC 76 32 [.ref a0, .int a1] (st) M Q) ∧
  (∀ (a0 : Nat) (a1 : Int32) (st : List Value) (M : xM) (Q : Option Value → xM → Prop), xW xSC 76 57 [.ref a0, .int a1] (st) M Q = xW xSC 76 58 [.ref a0, .int a1] (.int (nI 1) :: st) M Q) ∧
  (∀ (a0 : Nat) (a1 : Int32) (y0 : Int32) (M : xM) (Q : Option Value → xM → Prop), y0 = 0 ∨ y0 = 1 → xW xSC 76 58 [.ref a0, .int a1] ([.int y0]) M Q = Q (some (.int y0)) M) :=
  ⟨fun a0 a1 st M Q => xw_s rfl rfl,
  fun a0 a1 y0 st M Q => xw_s rfl rfl,
  fun a0 a1 st M Q => xw_s rfl rfl,
  fun a0 a1 y0 y1 st M Q => xw_brn (c0 := y0 ≤ y1) (c1 := y1 < y0) rfl rfl (xge _ _),
  fun a0 a1 st M Q => xw_s rfl rfl,
  fun a0 a1 st M Q => xw_s rfl rfl,
  fun a0 a1 y0 M Q => xw_call rfl rfl rfl,
  fun a0 a1 st M Q => xw_s rfl rfl,
  fun a0 a1 st M Q => xw_s rfl rfl,
  fun a0 a1 y0 y1 y2 M Q => xw_call rfl rfl rfl,
  fun a0 a1 y0 st M Q => xw_brn (c0 := y0 ≠ nI 0) (c1 := y0 = nI 0) rfl rfl (Iff.rfl),
  fun a0 a1 st M Q => xw_s rfl rfl,
  fun a0 a1 y0 M Q h0 => xw_retz rfl rfl h0,
  fun a0 a1 st M Q => xw_s rfl rfl,
  fun a0 a1 st M Q => xw_s rfl rfl,
  fun a0 a1 st M Q => xw_s rfl rfl,
  fun a0 a1 y0 st M Q => xw_s rfl rfl,
  fun a0 a1 st M Q => xw_s rfl rfl,
  fun a0 a1 y0 y1 st M Q => xw_brn (c0 := y0 ≤ y1) (c1 := y1 < y0) rfl rfl (xge _ _),
  fun a0 a1 st M Q => xw_s rfl rfl,
  fun a0 a1 st M Q => xw_s rfl rfl,
  fun a0 a1 st M Q => xw_s rfl rfl,
  fun a0 a1 st M Q => xw_s rfl rfl,
  fun a0 a1 st M Q => xw_s rfl rfl,
  fun a0 a1 y0 y2 y3 M Q => xw_call rfl rfl rfl,
  fun a0 a1 y0 y1 M Q => xw_call rfl rfl rfl,
  fun a0 a1 st M Q => xw_s rfl rfl,
  fun a0 a1 st M Q => xw_s rfl rfl,
  fun a0 a1 st M Q => xw_s rfl rfl,
  fun a0 a1 y0 M Q h0 => xw_retz rfl rfl h0⟩
set_option maxRecDepth 20000 in
theorem h76_2 :
  (∀ (a0 : Nat) (a1 : Int32) (st : List Value) (M : xM) (Q : Option Value → xM → Prop), xW xSC 76 2 [.ref a0, .int a1] (st) M Q = xW xSC 76 3 [.ref a0, .int a1] (.int a1 :: st) M Q) :=
  fun a0 a1 st M Q => xw_s rfl rfl
set_option maxRecDepth 20000 in
theorem h76_32 :
  (∀ (a0 : Nat) (a1 : Int32) (st : List Value) (M : xM) (Q : Option Value → xM → Prop), xW xSC 76 32 [.ref a0, .int a1] (st) M Q = xW xSC 76 33 [.ref a0, .int a1] (.int a1 :: st) M Q) :=
  fun a0 a1 st M Q => xw_s rfl rfl
theorem j76 : True := trivial

set_option maxRecDepth 20000 in
theorem s77 :
  (∀ (a0 : Nat) (st : List Value) (M : xM) (Q : Option Value → xM → Prop), xW xSC 77 0 [.ref a0] (st) M Q = xW xSC 77 1 [.ref a0] (.ref a0 :: st) M Q) ∧
  (∀ (a0 : Nat) (st : List Value) (M : xM) (Q : Option Value → xM → Prop), xW xSC 77 1 [.ref a0] (st) M Q = xW xSC 77 2 [.ref a0] (.int (nI 0) :: st) M Q) ∧
  (∀ (a0 : Nat) (y0 : Int32) (M : xM) (Q : Option Value → xM → Prop), xW xSC 77 2 [.ref a0] (.int y0 :: .ref 1 :: []) M Q = xW xSC 79 0 [.ref 1, .int y0] [] M (fun v M' => xW xSC 77 5 [.ref a0] (xpush v []) M' Q)) ∧
  (∀ (a0 : Nat) (st : List Value) (M : xM) (Q : Option Value → xM → Prop), xW xSC 77 5 [.ref a0] (st) M Q = xW xSC 77 6 [.ref a0] (.int (nI 0) :: st) M Q) ∧
  (∀ (a0 : Nat) (st : List Value) (M : xM) (Q : Option Value → xM → Prop), xW xSC 77 6 [.ref a0] (st) M Q = xW xSC 77 7 [.ref a0] (.int (nI 3) :: st) M Q) ∧
  (∀ (a0 : Nat) (y0 : Int32) (y1 : Int32) (y2 : Int32) (M : xM) (Q : Option Value → xM → Prop), xW xSC 77 7 [.ref a0] (.int y0 :: .int y1 :: .int y2 :: []) M Q = xW xSC 132 0 [.int y2, .int y1, .int y0] [] M (fun v M' => xW xSC 77 10 [.ref a0] (xpush v []) M' Q)) ∧
  (∀ (a0 : Nat) (y0 : Int32) (st : List Value) (M : xM) (Q : Option Value → xM → Prop), xW xSC 77 10 [.ref a0] (.int y0 :: st) M Q = if y0 = nI 0 then xW xSC 77 27 [.ref a0] (st) M Q else xW xSC 77 13 [.ref a0] (st) M Q) ∧
  (∀ (a0 : Nat) (st : List Value) (M : xM) (Q : Option Value → xM → Prop), xW xSC 77 13 [.ref a0] (st) M Q = xW xSC 77 14 [.ref a0] (.ref a0 :: st) M Q) ∧
  (∀ (a0 : Nat) (st : List Value) (M : xM) (Q : Option Value → xM → Prop), xW xSC 77 14 [.ref a0] (st) M Q = xW xSC 77 15 [.ref a0] (.int (nI 1) :: st) M Q) ∧
  (∀ (a0 : Nat) (y0 : Int32) (M : xM) (Q : Option Value → xM → Prop), xW xSC 77 15 [.ref a0] (.int y0 :: .ref 1 :: []) M Q = xW xSC 79 0 [.ref 1, .int y0] [] M (fun v M' => xW xSC 77 18 [.ref a0] (xpush v []) M' Q)) ∧
  (∀ (a0 : Nat) (st : List Value) (M : xM) (Q : Option Value → xM → Prop), xW xSC 77 18 [.ref a0] (st) M Q = xW xSC 77 19 [.ref a0] (.int (nI 0) :: st) M Q) ∧
  (∀ (a0 : Nat) (st : List Value) (M : xM) (Q : Option Value → xM → Prop), xW xSC 77 19 [.ref a0] (st) M Q = xW xSC 77 21 [.ref a0] (.int (nI 20) :: st) M Q) ∧
  (∀ (a0 : Nat) (y0 : Int32) (y1 : Int32) (y2 : Int32) (M : xM) (Q : Option Value → xM → Prop), xW xSC 77 21 [.ref a0] (.int y0 :: .int y1 :: .int y2 :: []) M Q = xW xSC 132 0 [.int y2, .int y1, .int y0] [] M (fun v M' => xW xSC 77 24 [.ref a0] (xpush v []) M' Q)) ∧
  (∀ (a0 : Nat) (y0 : Int32) (st : List Value) (M : xM) (Q : Option Value → xM → Prop), xW xSC 77 24 [.ref a0] (.int y0 :: st) M Q = if y0 = nI 0 then xW xSC 77 27 [.ref a0] (st) M Q else xW xSC 77 29 [.ref a0] (st) M Q) ∧
  (∀ (a0 : Nat) (y0 : Int32) (M : xM) (Q : Option Value → xM → Prop), y0 = 0 ∨ y0 = 1 → xW xSC 77 28 [.ref a0] ([.int y0]) M Q = Q (some (.int y0)) M) ∧
  (∀ (a0 : Nat) (st : List Value) (M : xM) (Q : Option Value → xM → Prop), xW xSC 77 29 [.ref a0] (st) M Q = xW xSC 77 30 [.ref a0] (.ref a0 :: st) M Q) ∧
  (∀ (a0 : Nat) (st : List Value) (M : xM) (Q : Option Value → xM → Prop), xW xSC 77 30 [.ref a0] (.ref 1 :: st) M Q = xW xSC 77 33 [.ref a0] (.ref 4 :: st) M Q) ∧
  (∀ (a0 : Nat) (st : List Value) (M : xM) (Q : Option Value → xM → Prop), xW xSC 77 33 [.ref a0] (st) M Q = xW xSC 77 35 [.ref a0] (.int (nI 6) :: st) M Q) ∧
  (∀ (a0 : Nat) (st : List Value) (M : xM) (Q : Option Value → xM → Prop), xW xSC 77 35 [.ref a0] (st) M Q = xW xSC 77 36 [.ref a0] (.ref a0 :: st) M Q) ∧
  (∀ (a0 : Nat) (st : List Value) (M : xM) (Q : Option Value → xM → Prop), xW xSC 77 36 [.ref a0] (st) M Q = xW xSC 77 37 [.ref a0] (.int (nI 0) :: st) M Q) ∧
  (∀ (a0 : Nat) (y0 : Int32) (y2 : Int32) (y3 : Nat) (M : xM) (Q : Option Value → xM → Prop), xW xSC 77 37 [.ref a0] (.int y0 :: .ref 1 :: .int y2 :: .ref y3 :: []) M Q = xW xSC 79 0 [.ref 1, .int y0] [] M (fun v M' => xW xSC 77 40 [.ref a0] (xpush v [.int y2, .ref y3]) M' Q)) ∧
  (∀ (a0 : Nat) (y0 : Int32) (y1 : Int32) (st : List Value) (M : xM) (Q : Option Value → xM → Prop), xW xSC 77 40 [.ref a0] (.int y0 :: .int y1 :: st) M Q = xW xSC 77 41 [.ref a0] (.int (y1 + y0) :: st) M Q) ∧
  (∀ (a0 : Nat) (st : List Value) (M : xM) (Q : Option Value → xM → Prop), xW xSC 77 41 [.ref a0] (st) M Q = xW xSC 77 42 [.ref a0] (.ref a0 :: st) M Q) ∧
  (∀ (a0 : Nat) (st : List Value) (M : xM) (Q : Option Value → xM → Prop), xW xSC 77 42 [.ref a0] (st) M Q = xW xSC 77 43 [.ref a0] (.int (nI 1) :: st) M Q) ∧
  (∀ (a0 : Nat) (y0 : Int32) (y2 : Int32) (y3 : Nat) (M : xM) (Q : Option Value → xM → Prop), xW xSC 77 43 [.ref a0] (.int y0 :: .ref 1 :: .int y2 :: .ref y3 :: []) M Q = xW xSC 79 0 [.ref 1, .int y0] [] M (fun v M' => xW xSC 77 46 [.ref a0] (xpush v [.int y2, .ref y3]) M' Q)) ∧
  (∀ (a0 : Nat) (y0 : Int32) (y1 : Int32) (M : xM) (Q : Option Value → xM → Prop), xW xSC 77 46 [.ref a0] (.int y0 :: .int y1 :: .ref 4 :: []) M Q = xW xSC 35 0 [.ref 4, .int y1, .int y0] [] M (fun v M' => xW xSC 77 49 [.ref a0] (xpush v []) M' Q)) ∧
  (∀ (a0 : Nat) (st : List Value) (M : xM) (Q : Option Value → xM → Prop), xW xSC 77 49 [.ref a0] (st) M Q = xW xSC 77 50 [.ref a0] (.int (nI 1) :: st) M Q) ∧
  (∀ (a0 : Nat) (y0 : Int32) (M : xM) (Q : Option Value → xM → Prop), y0 = 0 ∨ y0 = 1 → xW xSC 77 50 [.ref a0] ([.int y0]) M Q = Q (some (.int y0)) M) :=
  ⟨fun a0 st M Q => xw_s rfl rfl,
  fun a0 st M Q => xw_s rfl rfl,
  fun a0 y0 M Q => xw_call rfl rfl rfl,
  fun a0 st M Q => xw_s rfl rfl,
  fun a0 st M Q => xw_s rfl rfl,
  fun a0 y0 y1 y2 M Q => xw_call rfl rfl rfl,
  fun a0 y0 st M Q => xw_br (c0 := y0 = nI 0) rfl rfl,
  fun a0 st M Q => xw_s rfl rfl,
  fun a0 st M Q => xw_s rfl rfl,
  fun a0 y0 M Q => xw_call rfl rfl rfl,
  fun a0 st M Q => xw_s rfl rfl,
  fun a0 st M Q => xw_s rfl rfl,
  fun a0 y0 y1 y2 M Q => xw_call rfl rfl rfl,
  fun a0 y0 st M Q => xw_brn (c0 := y0 ≠ nI 0) (c1 := y0 = nI 0) rfl rfl (Iff.rfl),
  fun a0 y0 M Q h0 => xw_retz rfl rfl h0,
  fun a0 st M Q => xw_s rfl rfl,
  fun a0 st M Q => xw_s rfl rfl,
  fun a0 st M Q => xw_s rfl rfl,
  fun a0 st M Q => xw_s rfl rfl,
  fun a0 st M Q => xw_s rfl rfl,
  fun a0 y0 y2 y3 M Q => xw_call rfl rfl rfl,
  fun a0 y0 y1 st M Q => xw_s rfl rfl,
  fun a0 st M Q => xw_s rfl rfl,
  fun a0 st M Q => xw_s rfl rfl,
  fun a0 y0 y2 y3 M Q => xw_call rfl rfl rfl,
  fun a0 y0 y1 M Q => xw_call rfl rfl rfl,
  fun a0 st M Q => xw_s rfl rfl,
  fun a0 y0 M Q h0 => xw_retz rfl rfl h0⟩
set_option maxRecDepth 20000 in
theorem h77_27 :
  (∀ (a0 : Nat) (st : List Value) (M : xM) (Q : Option Value → xM → Prop), xW xSC 77 27 [.ref a0] (st) M Q = xW xSC 77 28 [.ref a0] (.int (nI 0) :: st) M Q) :=
  fun a0 st M Q => xw_s rfl rfl
set_option maxRecDepth 20000 in
theorem j77 :
  (∀ (a0 : Nat) (st : List Value) (M : xM) (Q : Option Value → xM → Prop), xW xSC 77 27 [.ref a0] (st) M Q = xW xSC 77 28 [.ref a0] (.int (nI 0) :: st) M Q) :=
  fun a0 st M Q => xw_s rfl rfl

set_option maxRecDepth 20000 in
theorem s78 :
  (∀ (a0 : Nat) (st : List Value) (M : xM) (Q : Option Value → xM → Prop), xW xSC 78 0 [.ref a0] (st) M Q = xW xSC 78 1 [.ref a0] (.ref a0 :: st) M Q) ∧
  (∀ (a0 : Nat) (st : List Value) (M : xM) (Q : Option Value → xM → Prop), xW xSC 78 1 [.ref a0] (.ref 1 :: st) M Q = xW xSC 78 4 [.ref a0] (.ref 4 :: st) M Q) ∧
  (∀ (a0 : Nat) (st : List Value) (M : xM) (Q : Option Value → xM → Prop), xW xSC 78 4 [.ref a0] (.ref 4 :: st) M Q = xW xSC 78 7 [.ref a0] (.int (M 4 2) :: st) M Q) ∧
  (∀ (a0 : Nat) (st : List Value) (M : xM) (Q : Option Value → xM → Prop), xW xSC 78 7 [.ref a0] (st) M Q = xW xSC 78 8 [.ref a0] (.int (nI 5) :: st) M Q) ∧
  (∀ (a0 : Nat) (y0 : Int32) (y1 : Int32) (st : List Value) (M : xM) (Q : Option Value → xM → Prop), xW xSC 78 8 [.ref a0] (.int y0 :: .int y1 :: st) M Q = if y1 < y0 then xW xSC 78 11 [.ref a0] (st) M Q else xW xSC 78 39 [.ref a0] (st) M Q) ∧
  (∀ (a0 : Nat) (st : List Value) (M : xM) (Q : Option Value → xM → Prop), xW xSC 78 11 [.ref a0] (st) M Q = xW xSC 78 12 [.ref a0] (.ref a0 :: st) M Q) ∧
  (∀ (a0 : Nat) (st : List Value) (M : xM) (Q : Option Value → xM → Prop), xW xSC 78 12 [.ref a0] (.ref 1 :: st) M Q = xW xSC 78 15 [.ref a0] (.ref 4 :: st) M Q) ∧
  (∀ (a0 : Nat) (st : List Value) (M : xM) (Q : Option Value → xM → Prop), xW xSC 78 15 [.ref a0] (st) M Q = xW xSC 78 16 [.ref a0] (.ref a0 :: st) M Q) ∧
  (∀ (a0 : Nat) (st : List Value) (M : xM) (Q : Option Value → xM → Prop), xW xSC 78 16 [.ref a0] (st) M Q = xW xSC 78 17 [.ref a0] (.int (nI 0) :: st) M Q) ∧
  (∀ (a0 : Nat) (y0 : Int32) (y2 : Nat) (M : xM) (Q : Option Value → xM → Prop), xW xSC 78 17 [.ref a0] (.int y0 :: .ref 1 :: .ref y2 :: []) M Q = xW xSC 79 0 [.ref 1, .int y0] [] M (fun v M' => xW xSC 78 20 [.ref a0] (xpush v [.ref y2]) M' Q)) ∧
  (∀ (a0 : Nat) (y0 : Int32) (M : xM) (Q : Option Value → xM → Prop), xW xSC 78 20 [.ref a0] (.int y0 :: .ref 4 :: []) M Q = xW xSC 23 0 [.ref 4, .int y0] [] M (fun v M' => xW xSC 78 23 [.ref a0] (xpush v []) M' Q)) ∧
  (∀ (a0 : Nat) (y0 : Int32) (st : List Value) (M : xM) (Q : Option Value → xM → Prop), xW xSC 78 23 [.ref a0] (.int y0 :: st) M Q = if y0 = nI 0 then xW xSC 78 39 [.ref a0] (st) M Q else xW xSC 78 26 [.ref a0] (st) M Q) ∧
  (∀ (a0 : Nat) (st : List Value) (M : xM) (Q : Option Value → xM → Prop), xW xSC 78 26 [.ref a0] (st) M Q = xW xSC 78 27 [.ref a0] (.ref a0 :: st) M Q) ∧
  (∀ (a0 : Nat) (st : List Value) (M : xM) (Q : Option Value → xM → Prop), xW xSC 78 27 [.ref a0] (st) M Q = xW xSC 78 28 [.ref a0] (.int (nI 1) :: st) M Q) ∧
  (∀ (a0 : Nat) (y0 : Int32) (M : xM) (Q : Option Value → xM → Prop), xW xSC 78 28 [.ref a0] (.int y0 :: .ref 1 :: []) M Q = xW xSC 79 0 [.ref 1, .int y0] [] M (fun v M' => xW xSC 78 31 [.ref a0] (xpush v []) M' Q)) ∧
  (∀ (a0 : Nat) (st : List Value) (M : xM) (Q : Option Value → xM → Prop), xW xSC 78 31 [.ref a0] (st) M Q = xW xSC 78 32 [.ref a0] (.int (nI 0) :: st) M Q) ∧
  (∀ (a0 : Nat) (st : List Value) (M : xM) (Q : Option Value → xM → Prop), xW xSC 78 32 [.ref a0] (st) M Q = xW xSC 78 33 [.ref a0] (.int (nI 1) :: st) M Q) ∧
  (∀ (a0 : Nat) (y0 : Int32) (y1 : Int32) (y2 : Int32) (M : xM) (Q : Option Value → xM → Prop), xW xSC 78 33 [.ref a0] (.int y0 :: .int y1 :: .int y2 :: []) M Q = xW xSC 132 0 [.int y2, .int y1, .int y0] [] M (fun v M' => xW xSC 78 36 [.ref a0] (xpush v []) M' Q)) ∧
  (∀ (a0 : Nat) (y0 : Int32) (st : List Value) (M : xM) (Q : Option Value → xM → Prop), xW xSC 78 36 [.ref a0] (.int y0 :: st) M Q = if y0 = nI 0 then xW xSC 78 39 [.ref a0] (st) M Q else xW xSC 78 41 [.ref a0] (st) M Q) ∧
  (∀ (a0 : Nat) (y0 : Int32) (M : xM) (Q : Option Value → xM → Prop), y0 = 0 ∨ y0 = 1 → xW xSC 78 40 [.ref a0] ([.int y0]) M Q = Q (some (.int y0)) M) ∧
  (∀ (a0 : Nat) (st : List Value) (M : xM) (Q : Option Value → xM → Prop), xW xSC 78 41 [.ref a0] (st) M Q = xW xSC 78 42 [.ref a0] (.ref a0 :: st) M Q) ∧
  (∀ (a0 : Nat) (st : List Value) (M : xM) (Q : Option Value → xM → Prop), xW xSC 78 42 [.ref a0] (.ref 1 :: st) M Q = xW xSC 78 45 [.ref a0] (.ref 4 :: st) M Q) ∧
  (∀ (a0 : Nat) (st : List Value) (M : xM) (Q : Option Value → xM → Prop), xW xSC 78 45 [.ref a0] (st) M Q = xW xSC 78 46 [.ref a0] (.ref a0 :: st) M Q) ∧
  (∀ (a0 : Nat) (st : List Value) (M : xM) (Q : Option Value → xM → Prop), xW xSC 78 46 [.ref a0] (st) M Q = xW xSC 78 47 [.ref a0] (.int (nI 0) :: st) M Q) ∧
  (∀ (a0 : Nat) (y0 : Int32) (y2 : Nat) (M : xM) (Q : Option Value → xM → Prop), xW xSC 78 47 [.ref a0] (.int y0 :: .ref 1 :: .ref y2 :: []) M Q = xW xSC 79 0 [.ref 1, .int y0] [] M (fun v M' => xW xSC 78 50 [.ref a0] (xpush v [.ref y2]) M' Q)) ∧
  (∀ (a0 : Nat) (st : List Value) (M : xM) (Q : Option Value → xM → Prop), xW xSC 78 50 [.ref a0] (st) M Q = xW xSC 78 51 [.ref a0] (.ref a0 :: st) M Q) ∧
  (∀ (a0 : Nat) (st : List Value) (M : xM) (Q : Option Value → xM → Prop), xW xSC 78 51 [.ref a0] (st) M Q = xW xSC 78 52 [.ref a0] (.int (nI 1) :: st) M Q) ∧
  (∀ (a0 : Nat) (y0 : Int32) (y2 : Int32) (y3 : Nat) (M : xM) (Q : Option Value → xM → Prop), xW xSC 78 52 [.ref a0] (.int y0 :: .ref 1 :: .int y2 :: .ref y3 :: []) M Q = xW xSC 79 0 [.ref 1, .int y0] [] M (fun v M' => xW xSC 78 55 [.ref a0] (xpush v [.int y2, .ref y3]) M' Q)) ∧
  (∀ (a0 : Nat) (y0 : Int32) (y1 : Int32) (M : xM) (Q : Option Value → xM → Prop), xW xSC 78 55 [.ref a0] (.int y0 :: .int y1 :: .ref 4 :: []) M Q = xW xSC 27 0 [.ref 4, .int y1, .int y0] [] M (fun v M' => xW xSC 78 58 [.ref a0] (xpush v []) M' Q)) ∧
  (∀ (a0 : Nat) (st : List Value) (M : xM) (Q : Option Value → xM → Prop), xW xSC 78 58 [.ref a0] (st) M Q = xW xSC 78 59 [.ref a0] (.int (nI 1) :: st) M Q) ∧
  (∀ (a0 : Nat) (y0 : Int32) (M : xM) (Q : Option Value → xM → Prop), y0 = 0 ∨ y0 = 1 → xW xSC 78 59 [.ref a0] ([.int y0]) M Q = Q (some (.int y0)) M) :=
  ⟨fun a0 st M Q => xw_s rfl rfl,
  fun a0 st M Q => xw_s rfl rfl,
  fun a0 st M Q => xw_s rfl rfl,
  fun a0 st M Q => xw_s rfl rfl,
  fun a0 y0 y1 st M Q => xw_brn (c0 := y0 ≤ y1) (c1 := y1 < y0) rfl rfl (xge _ _),
  fun a0 st M Q => xw_s rfl rfl,
  fun a0 st M Q => xw_s rfl rfl,
  fun a0 st M Q => xw_s rfl rfl,
  fun a0 st M Q => xw_s rfl rfl,
  fun a0 y0 y2 M Q => xw_call rfl rfl rfl,
  fun a0 y0 M Q => xw_call rfl rfl rfl,
  fun a0 y0 st M Q => xw_br (c0 := y0 = nI 0) rfl rfl,
  fun a0 st M Q => xw_s rfl rfl,
  fun a0 st M Q => xw_s rfl rfl,
  fun a0 y0 M Q => xw_call rfl rfl rfl,
  fun a0 st M Q => xw_s rfl rfl,
  fun a0 st M Q => xw_s rfl rfl,
  fun a0 y0 y1 y2 M Q => xw_call rfl rfl rfl,
  fun a0 y0 st M Q => xw_brn (c0 := y0 ≠ nI 0) (c1 := y0 = nI 0) rfl rfl (Iff.rfl),
  fun a0 y0 M Q h0 => xw_retz rfl rfl h0,
  fun a0 st M Q => xw_s rfl rfl,
  fun a0 st M Q => xw_s rfl rfl,
  fun a0 st M Q => xw_s rfl rfl,
  fun a0 st M Q => xw_s rfl rfl,
  fun a0 y0 y2 M Q => xw_call rfl rfl rfl,
  fun a0 st M Q => xw_s rfl rfl,
  fun a0 st M Q => xw_s rfl rfl,
  fun a0 y0 y2 y3 M Q => xw_call rfl rfl rfl,
  fun a0 y0 y1 M Q => xw_call rfl rfl rfl,
  fun a0 st M Q => xw_s rfl rfl,
  fun a0 y0 M Q h0 => xw_retz rfl rfl h0⟩
set_option maxRecDepth 20000 in
theorem h78_39 :
  (∀ (a0 : Nat) (st : List Value) (M : xM) (Q : Option Value → xM → Prop), xW xSC 78 39 [.ref a0] (st) M Q = xW xSC 78 40 [.ref a0] (.int (nI 0) :: st) M Q) :=
  fun a0 st M Q => xw_s rfl rfl
set_option maxRecDepth 20000 in
theorem j78 :
  (∀ (a0 : Nat) (st : List Value) (M : xM) (Q : Option Value → xM → Prop), xW xSC 78 39 [.ref a0] (st) M Q = xW xSC 78 40 [.ref a0] (.int (nI 0) :: st) M Q) :=
  fun a0 st M Q => xw_s rfl rfl

set_option maxRecDepth 20000 in
theorem s79 :
  (∀ (a0 : Nat) (a1 : Int32) (st : List Value) (M : xM) (Q : Option Value → xM → Prop), xW xSC 79 0 [.ref a0, .int a1] (st) M Q = xW xSC 79 1 [.ref a0, .int a1] (.ref a0 :: st) M Q) ∧
  (∀ (a0 : Nat) (a1 : Int32) (st : List Value) (M : xM) (Q : Option Value → xM → Prop), xW xSC 79 1 [.ref a0, .int a1] (.ref 1 :: st) M Q = xW xSC 79 4 [.ref a0, .int a1] (.ref 3 :: st) M Q) ∧
  (∀ (a0 : Nat) (a1 : Int32) (st : List Value) (M : xM) (Q : Option Value → xM → Prop), xW xSC 79 4 [.ref a0, .int a1] (st) M Q = xW xSC 79 5 [.ref a0, .int a1] (.int a1 :: st) M Q) ∧
  (∀ (a0 : Nat) (a1 : Int32) (y0 : Int32) (y1 : Nat) (M : xM) (Q : Option Value → xM → Prop), xW xSC 79 5 [.ref a0, .int a1] (.int y0 :: .ref y1 :: []) M Q = xW xSC 0 0 [.ref y1, .int y0] [] M (fun v M' => xW xSC 79 8 [.ref a0, .int a1] (xpush v []) M' Q)) ∧
  (∀ (a0 : Nat) (a1 : Int32) (y0 : Int32) (M : xM) (Q : Option Value → xM → Prop), xW xSC 79 8 [.ref a0, .int a1] ([.int y0]) M Q = Q (some (.int y0)) M) :=
  ⟨fun a0 a1 st M Q => xw_s rfl rfl,
  fun a0 a1 st M Q => xw_s rfl rfl,
  fun a0 a1 st M Q => xw_s rfl rfl,
  fun a0 a1 y0 y1 M Q => xw_call rfl rfl rfl,
  fun a0 a1 y0 M Q => xw_ret rfl rfl⟩
theorem j79 : True := trivial

set_option maxRecDepth 20000 in
theorem s80 :
  (∀ (a0 : Nat) (a1 : Int32) (a2 : Value) (a3 : Value) (a4 : Value) (st : List Value) (M : xM) (Q : Option Value → xM → Prop), xW xSC 80 0 [.ref a0, .int a1, a2, a3, a4] (st) M Q = xW xSC 80 1 [.ref a0, .int a1, a2, a3, a4] (.ref a0 :: st) M Q) ∧
  (∀ (a0 : Nat) (a1 : Int32) (a2 : Value) (a3 : Value) (a4 : Value) (y0 : Nat) (st : List Value) (M : xM) (Q : Option Value → xM → Prop), xW xSC 80 1 [.ref a0, .int a1, a2, a3, a4] (.ref y0 :: st) M Q = xW xSC 80 2 [.ref a0, .int a1, a2, a3, a4] (.ref y0 :: .ref y0 :: st) M Q) ∧
  (∀ (a0 : Nat) (a1 : Int32) (a2 : Value) (a3 : Value) (a4 : Value) (st : List Value) (M : xM) (Q : Option Value → xM → Prop), xW xSC 80 2 [.ref a0, .int a1, a2, a3, a4] (.ref 1 :: st) M Q = xW xSC 80 5 [.ref a0, .int a1, a2, a3, a4] (.int (M 1 2) :: st) M Q) ∧
  (∀ (a0 : Nat) (a1 : Int32) (a2 : Value) (a3 : Value) (a4 : Value) (st : List Value) (M : xM) (Q : Option Value → xM → Prop), xW xSC 80 5 [.ref a0, .int a1, a2, a3, a4] (st) M Q = xW xSC 80 6 [.ref a0, .int a1, a2, a3, a4] (.int (nI 1) :: st) M Q) ∧
  (∀ (a0 : Nat) (a1 : Int32) (a2 : Value) (a3 : Value) (a4 : Value) (y0 : Int32) (y1 : Int32) (st : List Value) (M : xM) (Q : Option Value → xM → Prop), xW xSC 80 6 [.ref a0, .int a1, a2, a3, a4] (.int y0 :: .int y1 :: st) M Q = xW xSC 80 7 [.ref a0, .int a1, a2, a3, a4] (.int (y1 + y0) :: st) M Q) ∧
  (∀ (a0 : Nat) (a1 : Int32) (a2 : Value) (a3 : Value) (a4 : Value) (y0 : Int32) (st : List Value) (M : xM) (Q : Option Value → xM → Prop), xW xSC 80 7 [.ref a0, .int a1, a2, a3, a4] (.int y0 :: .ref 1 :: st) M Q = xW xSC 80 10 [.ref a0, .int a1, a2, a3, a4] (st) (xup M 1 2 y0) Q) ∧
  (∀ (a0 : Nat) (a1 : Int32) (a2 : Value) (a3 : Value) (a4 : Value) (st : List Value) (M : xM) (Q : Option Value → xM → Prop), xW xSC 80 10 [.ref a0, .int a1, a2, a3, a4] (st) M Q = xW xSC 80 11 [.ref a0, .int a1, a2, a3, a4] (.int (nI 0) :: st) M Q) ∧
  (∀ (a0 : Nat) (a1 : Int32) (a2 : Value) (a3 : Value) (a4 : Value) (y0 : Int32) (st : List Value) (M : xM) (Q : Option Value → xM → Prop), xW xSC 80 11 [.ref a0, .int a1, a2, a3, a4] (.int y0 :: st) M Q = xW xSC 80 12 [.ref a0, .int a1, .int y0, a3, a4] (st) M Q) ∧
  (∀ (a0 : Nat) (a1 : Int32) (a2 : Int32) (a3 : Value) (a4 : Value) (st : List Value) (M : xM) (Q : Option Value → xM → Prop), xW xSC 80 13 [.ref a0, .int a1, .int a2, a3, a4] (st) M Q = xW xSC 80 14 [.ref a0, .int a1, .int a2, a3, a4] (.int a1 :: st) M Q) ∧
  (∀ (a0 : Nat) (a1 : Int32) (a2 : Int32) (a3 : Value) (a4 : Value) (y0 : Int32) (y1 : Int32) (st : List Value) (M : xM) (Q : Option Value → xM → Prop), xW xSC 80 14 [.ref a0, .int a1, .int a2, a3, a4] (.int y0 :: .int y1 :: st) M Q = if y1 < y0 then xW xSC 80 17 [.ref a0, .int a1, .int a2, a3, a4] (st) M Q else xW xSC 80 82 [.ref a0, .int a1, .int a2, a3, a4] (st) M Q) ∧
  (∀ (a0 : Nat) (a1 : Int32) (a2 : Int32) (a3 : Value) (a4 : Value) (st : List Value) (M : xM) (Q : Option Value → xM → Prop), xW xSC 80 17 [.ref a0, .int a1, .int a2, a3, a4] (st) M Q = xW xSC 80 18 [.ref a0, .int a1, .int a2, a3, a4] (.ref a0 :: st) M Q) ∧
  (∀ (a0 : Nat) (a1 : Int32) (a2 : Int32) (a3 : Value) (a4 : Value) (M : xM) (Q : Option Value → xM → Prop), xW xSC 80 18 [.ref a0, .int a1, .int a2, a3, a4] (.ref 1 :: []) M Q = xW xSC 81 0 [.ref 1, .null, .null] [] M (fun v M' => xW xSC 80 21 [.ref a0, .int a1, .int a2, a3, a4] (xpush v []) M' Q)) ∧
  (∀ (a0 : Nat) (a1 : Int32) (a2 : Int32) (a3 : Value) (a4 : Value) (y0 : Int32) (st : List Value) (M : xM) (Q : Option Value → xM → Prop), xW xSC 80 21 [.ref a0, .int a1, .int a2, a3, a4] (.int y0 :: st) M Q = xW xSC 80 22 [.ref a0, .int a1, .int a2, .int y0, a4] (st) M Q) ∧
  (∀ (a0 : Nat) (a1 : Int32) (a2 : Int32) (a3 : Int32) (a4 : Value) (st : List Value) (M : xM) (Q : Option Value → xM → Prop), xW xSC 80 22 [.ref a0, .int a1, .int a2, .int a3, a4] (st) M Q = xW xSC 80 23 [.ref a0, .int a1, .int a2, .int a3, a4] (.int a2 :: st) M Q) ∧
  (∀ (a0 : Nat) (a1 : Int32) (a2 : Int32) (a3 : Int32) (a4 : Value) (st : List Value) (M : xM) (Q : Option Value → xM → Prop), xW xSC 80 23 [.ref a0, .int a1, .int a2, .int a3, a4] (st) M Q = xW xSC 80 24 [.ref a0, .int a1, .int a2, .int a3, a4] (.int (nI 1) :: st) M Q) ∧
  (∀ (a0 : Nat) (a1 : Int32) (a2 : Int32) (a3 : Int32) (a4 : Value) (y0 : Int32) (y1 : Int32) (st : List Value) (M : xM) (Q : Option Value → xM → Prop), xW xSC 80 24 [.ref a0, .int a1, .int a2, .int a3, a4] (.int y0 :: .int y1 :: st) M Q = xW xSC 80 25 [.ref a0, .int a1, .int a2, .int a3, a4] (.int (y1 + y0) :: st) M Q) ∧
  (∀ (a0 : Nat) (a1 : Int32) (a2 : Int32) (a3 : Int32) (a4 : Value) (st : List Value) (M : xM) (Q : Option Value → xM → Prop), xW xSC 80 25 [.ref a0, .int a1, .int a2, .int a3, a4] (st) M Q = xW xSC 80 26 [.ref a0, .int a1, .int a2, .int a3, a4] (.int a1 :: st) M Q) ∧
  (∀ (a0 : Nat) (a1 : Int32) (a2 : Int32) (a3 : Int32) (a4 : Value) (y0 : Int32) (y1 : Int32) (st : List Value) (M : xM) (Q : Option Value → xM → Prop), xW xSC 80 26 [.ref a0, .int a1, .int a2, .int a3, a4] (.int y0 :: .int y1 :: st) M Q = if y1 < y0 then xW xSC 80 29 [.ref a0, .int a1, .int a2, .int a3, a4] (st) M Q else xW xSC 80 34 [.ref a0, .int a1, .int a2, .int a3, a4] (st) M Q) ∧
  (∀ (a0 : Nat) (a1 : Int32) (a2 : Int32) (a3 : Int32) (a4 : Value) (st : List Value) (M : xM) (Q : Option Value → xM → Prop), xW xSC 80 29 [.ref a0, .int a1, .int a2, .int a3, a4] (st) M Q = xW xSC 80 31 [.ref a0, .int a1, .int a2, .int a3, a4] (.int (nI 44) :: st) M Q) ∧
  (∀ (a0 : Nat) (a1 : Int32) (a2 : Int32) (a3 : Int32) (a4 : Value) (st : List Value) (M : xM) (Q : Option Value → xM → Prop), xW xSC 80 31 [.ref a0, .int a1, .int a2, .int a3, a4] (st) M Q = xW xSC 80 36 [.ref a0, .int a1, .int a2, .int a3, a4] (st) M Q) ∧
  (∀ (a0 : Nat) (a1 : Int32) (a2 : Int32) (a3 : Int32) (a4 : Value) (st : List Value) (M : xM) (Q : Option Value → xM → Prop), xW xSC 80 34 [.ref a0, .int a1, .int a2, .int a3, a4] (st) M Q = xW xSC 80 36 [.ref a0, .int a1, .int a2, .int a3, a4] (.int (nI 59) :: st) M Q) ∧
  (∀ (a0 : Nat) (a1 : Int32) (a2 : Int32) (a3 : Int32) (a4 : Int32) (st : List Value) (M : xM) (Q : Option Value → xM → Prop), xW xSC 80 38 [.ref a0, .int a1, .int a2, .int a3, .int a4] (st) M Q = xW xSC 80 39 [.ref a0, .int a1, .int a2, .int a3, .int a4] (.int a3 :: st) M Q) ∧
  (∀ (a0 : Nat) (a1 : Int32) (a2 : Int32) (a3 : Int32) (a4 : Int32) (y0 : Int32) (st : List Value) (M : xM) (Q : Option Value → xM → Prop), xW xSC 80 39 [.ref a0, .int a1, .int a2, .int a3, .int a4] (.int y0 :: st) M Q = if y0 < nI 0 then xW xSC 80 55 [.ref a0, .int a1, .int a2, .int a3, .int a4] (st) M Q else xW xSC 80 42 [.ref a0, .int a1, .int a2, .int a3, .int a4] (st) M Q) ∧
  (∀ (a0 : Nat) (a1 : Int32) (a2 : Int32) (a3 : Int32) (a4 : Int32) (st : List Value) (M : xM) (Q : Option Value → xM → Prop), xW xSC 80 42 [.ref a0, .int a1, .int a2, .int a3, .int a4] (st) M Q = xW xSC 80 43 [.ref a0, .int a1, .int a2, .int a3, .int a4] (.ref a0 :: st) M Q) ∧
  (∀ (a0 : Nat) (a1 : Int32) (a2 : Int32) (a3 : Int32) (a4 : Int32) (st : List Value) (M : xM) (Q : Option Value → xM → Prop), xW xSC 80 43 [.ref a0, .int a1, .int a2, .int a3, .int a4] (st) M Q = xW xSC 80 44 [.ref a0, .int a1, .int a2, .int a3, .int a4] (.ref a0 :: st) M Q) ∧
  (∀ (a0 : Nat) (a1 : Int32) (a2 : Int32) (a3 : Int32) (a4 : Int32) (st : List Value) (M : xM) (Q : Option Value → xM → Prop), xW xSC 80 44 [.ref a0, .int a1, .int a2, .int a3, .int a4] (.ref 1 :: st) M Q = xW xSC 80 47 [.ref a0, .int a1, .int a2, .int a3, .int a4] (.int (M 1 2) :: st) M Q) ∧
  (∀ (a0 : Nat) (a1 : Int32) (a2 : Int32) (a3 : Int32) (a4 : Int32) (y0 : Int32) (M : xM) (Q : Option Value → xM → Prop), xW xSC 80 47 [.ref a0, .int a1, .int a2, .int a3, .int a4] (.int y0 :: .ref 1 :: []) M Q = xW xSC 83 0 [.ref 1, .int y0, .null] [] M (fun v M' => xW xSC 80 50 [.ref a0, .int a1, .int a2, .int a3, .int a4] (xpush v []) M' Q)) ∧
  (∀ (a0 : Nat) (a1 : Int32) (a2 : Int32) (a3 : Int32) (a4 : Int32) (st : List Value) (M : xM) (Q : Option Value → xM → Prop), xW xSC 80 50 [.ref a0, .int a1, .int a2, .int a3, .int a4] (st) M Q = xW xSC 80 52 [.ref a0, .int a1, .int a2, .int a3, .int a4] (.int a4 :: st) M Q) ∧
  (∀ (a0 : Nat) (a1 : Int32) (a2 : Int32) (a3 : Int32) (a4 : Int32) (y0 : Int32) (y1 : Int32) (st : List Value) (M : xM) (Q : Option Value → xM → Prop), xW xSC 80 52 [.ref a0, .int a1, .int a2, .int a3, .int a4] (.int y0 :: .int y1 :: st) M Q = if y1 = y0 then xW xSC 80 57 [.ref a0, .int a1, .int a2, .int a3, .int a4] (st) M Q else xW xSC 80 55 [.ref a0, .int a1, .int a2, .int a3, .int a4] (st) M Q) ∧
  (∀ (a0 : Nat) (a1 : Int32) (a2 : Int32) (a3 : Int32) (a4 : Int32) (y0 : Int32) (M : xM) (Q : Option Value → xM → Prop), y0 = 0 ∨ y0 = 1 → xW xSC 80 56 [.ref a0, .int a1, .int a2, .int a3, .int a4] ([.int y0]) M Q = Q (some (.int y0)) M) ∧
  (∀ (a0 : Nat) (a1 : Int32) (a2 : Int32) (a3 : Int32) (a4 : Int32) (st : List Value) (M : xM) (Q : Option Value → xM → Prop), xW xSC 80 57 [.ref a0, .int a1, .int a2, .int a3, .int a4] (st) M Q = xW xSC 80 58 [.ref a0, .int a1, .int a2, .int a3, .int a4] (.ref a0 :: st) M Q) ∧
  (∀ (a0 : Nat) (a1 : Int32) (a2 : Int32) (a3 : Int32) (a4 : Int32) (y0 : Nat) (st : List Value) (M : xM) (Q : Option Value → xM → Prop), xW xSC 80 58 [.ref a0, .int a1, .int a2, .int a3, .int a4] (.ref y0 :: st) M Q = xW xSC 80 59 [.ref a0, .int a1, .int a2, .int a3, .int a4] (.ref y0 :: .ref y0 :: st) M Q) ∧
  (∀ (a0 : Nat) (a1 : Int32) (a2 : Int32) (a3 : Int32) (a4 : Int32) (st : List Value) (M : xM) (Q : Option Value → xM → Prop), xW xSC 80 59 [.ref a0, .int a1, .int a2, .int a3, .int a4] (.ref 1 :: st) M Q = xW xSC 80 62 [.ref a0, .int a1, .int a2, .int a3, .int a4] (.int (M 1 2) :: st) M Q) ∧
  (∀ (a0 : Nat) (a1 : Int32) (a2 : Int32) (a3 : Int32) (a4 : Int32) (st : List Value) (M : xM) (Q : Option Value → xM → Prop), xW xSC 80 62 [.ref a0, .int a1, .int a2, .int a3, .int a4] (st) M Q = xW xSC 80 63 [.ref a0, .int a1, .int a2, .int a3, .int a4] (.int (nI 1) :: st) M Q) ∧
  (∀ (a0 : Nat) (a1 : Int32) (a2 : Int32) (a3 : Int32) (a4 : Int32) (y0 : Int32) (y1 : Int32) (st : List Value) (M : xM) (Q : Option Value → xM → Prop), xW xSC 80 63 [.ref a0, .int a1, .int a2, .int a3, .int a4] (.int y0 :: .int y1 :: st) M Q = xW xSC 80 64 [.ref a0, .int a1, .int a2, .int a3, .int a4] (.int (y1 + y0) :: st) M Q) ∧
  (∀ (a0 : Nat) (a1 : Int32) (a2 : Int32) (a3 : Int32) (a4 : Int32) (y0 : Int32) (st : List Value) (M : xM) (Q : Option Value → xM → Prop), xW xSC 80 64 [.ref a0, .int a1, .int a2, .int a3, .int a4] (.int y0 :: .ref 1 :: st) M Q = xW xSC 80 67 [.ref a0, .int a1, .int a2, .int a3, .int a4] (st) (xup M 1 2 y0) Q) ∧
  (∀ (a0 : Nat) (a1 : Int32) (a2 : Int32) (a3 : Int32) (a4 : Int32) (st : List Value) (M : xM) (Q : Option Value → xM → Prop), xW xSC 80 67 [.ref a0, .int a1, .int a2, .int a3, .int a4] (st) M Q = xW xSC 80 68 [.ref a0, .int a1, .int a2, .int a3, .int a4] (.ref a0 :: st) M Q) ∧
  (∀ (a0 : Nat) (a1 : Int32) (a2 : Int32) (a3 : Int32) (a4 : Int32) (st : List Value) (M : xM) (Q : Option Value → xM → Prop), xW xSC 80 68 [.ref a0, .int a1, .int a2, .int a3, .int a4] (.ref 1 :: st) M Q = xW xSC 80 71 [.ref a0, .int a1, .int a2, .int a3, .int a4] (.ref 3 :: st) M Q) ∧
  (∀ (a0 : Nat) (a1 : Int32) (a2 : Int32) (a3 : Int32) (a4 : Int32) (st : List Value) (M : xM) (Q : Option Value → xM → Prop), xW xSC 80 71 [.ref a0, .int a1, .int a2, .int a3, .int a4] (st) M Q = xW xSC 80 72 [.ref a0, .int a1, .int a2, .int a3, .int a4] (.int a2 :: st) M Q) ∧
  (∀ (a0 : Nat) (a1 : Int32) (a2 : Int32) (a3 : Int32) (a4 : Int32) (st : List Value) (M : xM) (Q : Option Value → xM → Prop), xW xSC 80 72 [.ref a0, .int a1, .int a2, .int a3, .int a4] (st) M Q = xW xSC 80 73 [.ref a0, .int a1, .int a2, .int a3, .int a4] (.int a3 :: st) M Q) ∧
  (∀ (a0 : Nat) (a1 : Int32) (a2 : Int32) (a3 : Int32) (a4 : Int32) (y0 : Int32) (y1 : Int32) (y2 : Nat) (M : xM) (Q : Option Value → xM → Prop), xW xSC 80 73 [.ref a0, .int a1, .int a2, .int a3, .int a4] (.int y0 :: .int y1 :: .ref y2 :: []) M Q = xW xSC 1 0 [.ref y2, .int y1, .int y0] [] M (fun v M' => xW xSC 80 76 [.ref a0, .int a1, .int a2, .int a3, .int a4] (xpush v []) M' Q)) ∧
  (∀ (a0 : Nat) (a1 : Int32) (a2 : Int32) (a3 : Int32) (a4 : Int32) (st : List Value) (M : xM) (Q : Option Value → xM → Prop), xW xSC 80 76 [.ref a0, .int a1, .int a2, .int a3, .int a4] (st) M Q = xW xSC 80 79 [.ref a0, .int a1, .int (a2 + nI 1), .int a3, .int a4] (st) M Q) ∧
  (∀ (a0 : Nat) (a1 : Int32) (a2 : Int32) (a3 : Int32) (a4 : Int32) (st : List Value) (M : xM) (Q : Option Value → xM → Prop), xW xSC 80 79 [.ref a0, .int a1, .int a2, .int a3, .int a4] (st) M Q = xW xSC 80 12 [.ref a0, .int a1, .int a2, .int a3, .int a4] (st) M Q) ∧
  (∀ (a0 : Nat) (a1 : Int32) (a2 : Int32) (a3 : Value) (a4 : Value) (st : List Value) (M : xM) (Q : Option Value → xM → Prop), xW xSC 80 82 [.ref a0, .int a1, .int a2, a3, a4] (st) M Q = xW xSC 80 83 [.ref a0, .int a1, .int a2, a3, a4] (.int (nI 1) :: st) M Q) ∧
  (∀ (a0 : Nat) (a1 : Int32) (a2 : Int32) (a3 : Value) (a4 : Value) (y0 : Int32) (M : xM) (Q : Option Value → xM → Prop), y0 = 0 ∨ y0 = 1 → xW xSC 80 83 [.ref a0, .int a1, .int a2, a3, a4] ([.int y0]) M Q = Q (some (.int y0)) M) :=
  ⟨fun a0 a1 a2 a3 a4 st M Q => xw_s rfl rfl,
  fun a0 a1 a2 a3 a4 y0 st M Q => xw_s rfl rfl,
  fun a0 a1 a2 a3 a4 st M Q => xw_s rfl rfl,
  fun a0 a1 a2 a3 a4 st M Q => xw_s rfl rfl,
  fun a0 a1 a2 a3 a4 y0 y1 st M Q => xw_s rfl rfl,
  fun a0 a1 a2 a3 a4 y0 st M Q => xw_s rfl rfl,
  fun a0 a1 a2 a3 a4 st M Q => xw_s rfl rfl,
  fun a0 a1 a2 a3 a4 y0 st M Q => xw_s rfl rfl,
  fun a0 a1 a2 a3 a4 st M Q => xw_s rfl rfl,
  fun a0 a1 a2 a3 a4 y0 y1 st M Q => xw_brn (c0 := y0 ≤ y1) (c1 := y1 < y0) rfl rfl (xge _ _),
  fun a0 a1 a2 a3 a4 st M Q => xw_s rfl rfl,
  fun a0 a1 a2 a3 a4 M Q => xw_call rfl rfl rfl,
  fun a0 a1 a2 a3 a4 y0 st M Q => xw_s rfl rfl,
  fun a0 a1 a2 a3 a4 st M Q => xw_s rfl rfl,
  fun a0 a1 a2 a3 a4 st M Q => xw_s rfl rfl,
  fun a0 a1 a2 a3 a4 y0 y1 st M Q => xw_s rfl rfl,
  fun a0 a1 a2 a3 a4 st M Q => xw_s rfl rfl,
  fun a0 a1 a2 a3 a4 y0 y1 st M Q => xw_brn (c0 := y0 ≤ y1) (c1 := y1 < y0) rfl rfl (xge _ _),
  fun a0 a1 a2 a3 a4 st M Q => xw_s rfl rfl,
  fun a0 a1 a2 a3 a4 st M Q => xw_s rfl rfl,
  fun a0 a1 a2 a3 a4 st M Q => xw_s rfl rfl,
  fun a0 a1 a2 a3 a4 st M Q => xw_s rfl rfl,
  fun a0 a1 a2 a3 a4 y0 st M Q => xw_br (c0 := y0 < nI 0) rfl rfl,
  fun a0 a1 a2 a3 a4 st M Q => xw_s rfl rfl,
  fun a0 a1 a2 a3 a4 st M Q => xw_s rfl rfl,
  fun a0 a1 a2 a3 a4 st M Q => xw_s rfl rfl,
  fun a0 a1 a2 a3 a4 y0 M Q => xw_call rfl rfl rfl,
  fun a0 a1 a2 a3 a4 st M Q => xw_s rfl rfl,
  fun a0 a1 a2 a3 a4 y0 y1 st M Q => xw_br (c0 := y1 = y0) rfl rfl,
  fun a0 a1 a2 a3 a4 y0 M Q h0 => xw_retz rfl rfl h0,
  fun a0 a1 a2 a3 a4 st M Q => xw_s rfl rfl,
  fun a0 a1 a2 a3 a4 y0 st M Q => xw_s rfl rfl,
  fun a0 a1 a2 a3 a4 st M Q => xw_s rfl rfl,
  fun a0 a1 a2 a3 a4 st M Q => xw_s rfl rfl,
  fun a0 a1 a2 a3 a4 y0 y1 st M Q => xw_s rfl rfl,
  fun a0 a1 a2 a3 a4 y0 st M Q => xw_s rfl rfl,
  fun a0 a1 a2 a3 a4 st M Q => xw_s rfl rfl,
  fun a0 a1 a2 a3 a4 st M Q => xw_s rfl rfl,
  fun a0 a1 a2 a3 a4 st M Q => xw_s rfl rfl,
  fun a0 a1 a2 a3 a4 st M Q => xw_s rfl rfl,
  fun a0 a1 a2 a3 a4 y0 y1 y2 M Q => xw_call rfl rfl rfl,
  fun a0 a1 a2 a3 a4 st M Q => xw_s rfl rfl,
  fun a0 a1 a2 a3 a4 st M Q => xw_s rfl rfl,
  fun a0 a1 a2 a3 a4 st M Q => xw_s rfl rfl,
  fun a0 a1 a2 a3 a4 y0 M Q h0 => xw_retz rfl rfl h0⟩
set_option maxRecDepth 20000 in
theorem h80_12 :
  (∀ (a0 : Nat) (a1 : Int32) (a2 : Int32) (a3 : Value) (a4 : Value) (st : List Value) (M : xM) (Q : Option Value → xM → Prop), xW xSC 80 12 [.ref a0, .int a1, .int a2, a3, a4] (st) M Q = xW xSC 80 13 [.ref a0, .int a1, .int a2, a3, a4] (.int a2 :: st) M Q) :=
  fun a0 a1 a2 a3 a4 st M Q => xw_s rfl rfl
set_option maxRecDepth 20000 in
theorem h80_36 :
  (∀ (a0 : Nat) (a1 : Int32) (a2 : Int32) (a3 : Int32) (a4 : Value) (y0 : Int32) (st : List Value) (M : xM) (Q : Option Value → xM → Prop), xW xSC 80 36 [.ref a0, .int a1, .int a2, .int a3, a4] (.int y0 :: st) M Q = xW xSC 80 38 [.ref a0, .int a1, .int a2, .int a3, .int y0] (st) M Q) :=
  fun a0 a1 a2 a3 a4 y0 st M Q => xw_s rfl rfl
set_option maxRecDepth 20000 in
theorem h80_55 :
  (∀ (a0 : Nat) (a1 : Int32) (a2 : Int32) (a3 : Int32) (a4 : Int32) (st : List Value) (M : xM) (Q : Option Value → xM → Prop), xW xSC 80 55 [.ref a0, .int a1, .int a2, .int a3, .int a4] (st) M Q = xW xSC 80 56 [.ref a0, .int a1, .int a2, .int a3, .int a4] (.int (nI 0) :: st) M Q) :=
  fun a0 a1 a2 a3 a4 st M Q => xw_s rfl rfl
set_option maxRecDepth 20000 in
theorem j80 :
  (∀ (a0 : Nat) (a1 : Int32) (a2 : Int32) (a3 : Int32) (a4 : Value) (y0 : Int32) (st : List Value) (M : xM) (Q : Option Value → xM → Prop), xW xSC 80 36 [.ref a0, .int a1, .int a2, .int a3, a4] (.int y0 :: st) M Q = xW xSC 80 38 [.ref a0, .int a1, .int a2, .int a3, .int y0] (st) M Q) ∧
  (∀ (a0 : Nat) (a1 : Int32) (a2 : Int32) (a3 : Int32) (a4 : Int32) (st : List Value) (M : xM) (Q : Option Value → xM → Prop), xW xSC 80 55 [.ref a0, .int a1, .int a2, .int a3, .int a4] (st) M Q = xW xSC 80 56 [.ref a0, .int a1, .int a2, .int a3, .int a4] (.int (nI 0) :: st) M Q) :=
  ⟨fun a0 a1 a2 a3 a4 y0 st M Q => xw_s rfl rfl,
  fun a0 a1 a2 a3 a4 st M Q => xw_s rfl rfl⟩

set_option maxRecDepth 20000 in
theorem s81 :
  (∀ (a0 : Nat) (a1 : Value) (a2 : Value) (st : List Value) (M : xM) (Q : Option Value → xM → Prop), xW xSC 81 0 [.ref a0, a1, a2] (st) M Q = xW xSC 81 1 [.ref a0, a1, a2] (.ref a0 :: st) M Q) ∧
  (∀ (a0 : Nat) (a1 : Value) (a2 : Value) (st : List Value) (M : xM) (Q : Option Value → xM → Prop), xW xSC 81 1 [.ref a0, a1, a2] (st) M Q = xW xSC 81 2 [.ref a0, a1, a2] (.ref a0 :: st) M Q) ∧
  (∀ (a0 : Nat) (a1 : Value) (a2 : Value) (st : List Value) (M : xM) (Q : Option Value → xM → Prop), xW xSC 81 2 [.ref a0, a1, a2] (.ref 1 :: st) M Q = xW xSC 81 5 [.ref a0, a1, a2] (.int (M 1 2) :: st) M Q) ∧
  (∀ (a0 : Nat) (a1 : Value) (a2 : Value) (y0 : Int32) (M : xM) (Q : Option Value → xM → Prop), xW xSC 81 5 [.ref a0, a1, a2] (.int y0 :: .ref 1 :: []) M Q = xW xSC 82 0 [.ref 1, .int y0, .null] [] M (fun v M' => xW xSC 81 8 [.ref a0, a1, a2] (xpush v []) M' Q)) ∧
  (∀ (a0 : Nat) (a1 : Value) (a2 : Value) (y0 : Int32) (st : List Value) (M : xM) (Q : Option Value → xM → Prop), xW xSC 81 8 [.ref a0, a1, a2] (.int y0 :: st) M Q = xW xSC 81 9 [.ref a0, .int y0, a2] (st) M Q) ∧
  (∀ (a0 : Nat) (a1 : Int32) (a2 : Value) (st : List Value) (M : xM) (Q : Option Value → xM → Prop), xW xSC 81 9 [.ref a0, .int a1, a2] (st) M Q = xW xSC 81 10 [.ref a0, .int a1, a2] (.int a1 :: st) M Q) ∧
  (∀ (a0 : Nat) (a1 : Int32) (a2 : Value) (y0 : Int32) (st : List Value) (M : xM) (Q : Option Value → xM → Prop), xW xSC 81 10 [.ref a0, .int a1, a2] (.int y0 :: st) M Q = if y0 < nI 0 then xW xSC 81 13 [.ref a0, .int a1, a2] (st) M Q else xW xSC 81 15 [.ref a0, .int a1, a2] (st) M Q) ∧
  (∀ (a0 : Nat) (a1 : Int32) (a2 : Value) (st : List Value) (M : xM) (Q : Option Value → xM → Prop), xW xSC 81 13 [.ref a0, .int a1, a2] (st) M Q = xW xSC 81 14 [.ref a0, .int a1, a2] (.int (-1) :: st) M Q) ∧
  (∀ (a0 : Nat) (a1 : Int32) (a2 : Value) (y0 : Int32) (M : xM) (Q : Option Value → xM → Prop), xW xSC 81 14 [.ref a0, .int a1, a2] ([.int y0]) M Q = Q (some (.int y0)) M) ∧
  (∀ (a0 : Nat) (a1 : Int32) (a2 : Value) (st : List Value) (M : xM) (Q : Option Value → xM → Prop), xW xSC 81 15 [.ref a0, .int a1, a2] (st) M Q = xW xSC 81 16 [.ref a0, .int a1, a2] (.ref a0 :: st) M Q) ∧
  (∀ (a0 : Nat) (a1 : Int32) (a2 : Value) (y0 : Nat) (st : List Value) (M : xM) (Q : Option Value → xM → Prop), xW xSC 81 16 [.ref a0, .int a1, a2] (.ref y0 :: st) M Q = xW xSC 81 17 [.ref a0, .int a1, a2] (.ref y0 :: .ref y0 :: st) M Q) ∧
  (∀ (a0 : Nat) (a1 : Int32) (a2 : Value) (st : List Value) (M : xM) (Q : Option Value → xM → Prop), xW xSC 81 17 [.ref a0, .int a1, a2] (.ref 1 :: st) M Q = xW xSC 81 20 [.ref a0, .int a1, a2] (.int (M 1 2) :: st) M Q) ∧
  (∀ (a0 : Nat) (a1 : Int32) (a2 : Value) (st : List Value) (M : xM) (Q : Option Value → xM → Prop), xW xSC 81 20 [.ref a0, .int a1, a2] (st) M Q = xW xSC 81 21 [.ref a0, .int a1, a2] (.int (nI 1) :: st) M Q) ∧
  (∀ (a0 : Nat) (a1 : Int32) (a2 : Value) (y0 : Int32) (y1 : Int32) (st : List Value) (M : xM) (Q : Option Value → xM → Prop), xW xSC 81 21 [.ref a0, .int a1, a2] (.int y0 :: .int y1 :: st) M Q = xW xSC 81 22 [.ref a0, .int a1, a2] (.int (y1 + y0) :: st) M Q) ∧
  (∀ (a0 : Nat) (a1 : Int32) (a2 : Value) (y0 : Int32) (st : List Value) (M : xM) (Q : Option Value → xM → Prop), xW xSC 81 22 [.ref a0, .int a1, a2] (.int y0 :: .ref 1 :: st) M Q = xW xSC 81 25 [.ref a0, .int a1, a2] (st) (xup M 1 2 y0) Q) ∧
  (∀ (a0 : Nat) (a1 : Int32) (a2 : Value) (st : List Value) (M : xM) (Q : Option Value → xM → Prop), xW xSC 81 25 [.ref a0, .int a1, a2] (st) M Q = xW xSC 81 26 [.ref a0, .int a1, a2] (.ref a0 :: st) M Q) ∧
  (∀ (a0 : Nat) (a1 : Int32) (a2 : Value) (st : List Value) (M : xM) (Q : Option Value → xM → Prop), xW xSC 81 26 [.ref a0, .int a1, a2] (st) M Q = xW xSC 81 27 [.ref a0, .int a1, a2] (.ref a0 :: st) M Q) ∧
  (∀ (a0 : Nat) (a1 : Int32) (a2 : Value) (st : List Value) (M : xM) (Q : Option Value → xM → Prop), xW xSC 81 27 [.ref a0, .int a1, a2] (.ref 1 :: st) M Q = xW xSC 81 30 [.ref a0, .int a1, a2] (.int (M 1 2) :: st) M Q) ∧
  (∀ (a0 : Nat) (a1 : Int32) (a2 : Value) (y0 : Int32) (M : xM) (Q : Option Value → xM → Prop), xW xSC 81 30 [.ref a0, .int a1, a2] (.int y0 :: .ref 1 :: []) M Q = xW xSC 82 0 [.ref 1, .int y0, .null] [] M (fun v M' => xW xSC 81 33 [.ref a0, .int a1, a2] (xpush v []) M' Q)) ∧
  (∀ (a0 : Nat) (a1 : Int32) (a2 : Value) (y0 : Int32) (st : List Value) (M : xM) (Q : Option Value → xM → Prop), xW xSC 81 33 [.ref a0, .int a1, a2] (.int y0 :: st) M Q = xW xSC 81 34 [.ref a0, .int a1, .int y0] (st) M Q) ∧
  (∀ (a0 : Nat) (a1 : Int32) (a2 : Int32) (st : List Value) (M : xM) (Q : Option Value → xM → Prop), xW xSC 81 34 [.ref a0, .int a1, .int a2] (st) M Q = xW xSC 81 35 [.ref a0, .int a1, .int a2] (.int a2 :: st) M Q) ∧
  (∀ (a0 : Nat) (a1 : Int32) (a2 : Int32) (y0 : Int32) (st : List Value) (M : xM) (Q : Option Value → xM → Prop), xW xSC 81 35 [.ref a0, .int a1, .int a2] (.int y0 :: st) M Q = if y0 < nI 0 then xW xSC 81 38 [.ref a0, .int a1, .int a2] (st) M Q else xW xSC 81 40 [.ref a0, .int a1, .int a2] (st) M Q) ∧
  (∀ (a0 : Nat) (a1 : Int32) (a2 : Int32) (st : List Value) (M : xM) (Q : Option Value → xM → Prop), xW xSC 81 38 [.ref a0, .int a1, .int a2] (st) M Q = xW xSC 81 39 [.ref a0, .int a1, .int a2] (.int a1 :: st) M Q) ∧
  (∀ (a0 : Nat) (a1 : Int32) (a2 : Int32) (y0 : Int32) (M : xM) (Q : Option Value → xM → Prop), xW xSC 81 39 [.ref a0, .int a1, .int a2] ([.int y0]) M Q = Q (some (.int y0)) M) ∧
  (∀ (a0 : Nat) (a1 : Int32) (a2 : Int32) (st : List Value) (M : xM) (Q : Option Value → xM → Prop), xW xSC 81 40 [.ref a0, .int a1, .int a2] (st) M Q = xW xSC 81 41 [.ref a0, .int a1, .int a2] (.ref a0 :: st) M Q) ∧
  (∀ (a0 : Nat) (a1 : Int32) (a2 : Int32) (y0 : Nat) (st : List Value) (M : xM) (Q : Option Value → xM → Prop), xW xSC 81 41 [.ref a0, .int a1, .int a2] (.ref y0 :: st) M Q = xW xSC 81 42 [.ref a0, .int a1, .int a2] (.ref y0 :: .ref y0 :: st) M Q) ∧
  (∀ (a0 : Nat) (a1 : Int32) (a2 : Int32) (st : List Value) (M : xM) (Q : Option Value → xM → Prop), xW xSC 81 42 [.ref a0, .int a1, .int a2] (.ref 1 :: st) M Q = xW xSC 81 45 [.ref a0, .int a1, .int a2] (.int (M 1 2) :: st) M Q) ∧
  (∀ (a0 : Nat) (a1 : Int32) (a2 : Int32) (st : List Value) (M : xM) (Q : Option Value → xM → Prop), xW xSC 81 45 [.ref a0, .int a1, .int a2] (st) M Q = xW xSC 81 46 [.ref a0, .int a1, .int a2] (.int (nI 1) :: st) M Q) ∧
  (∀ (a0 : Nat) (a1 : Int32) (a2 : Int32) (y0 : Int32) (y1 : Int32) (st : List Value) (M : xM) (Q : Option Value → xM → Prop), xW xSC 81 46 [.ref a0, .int a1, .int a2] (.int y0 :: .int y1 :: st) M Q = xW xSC 81 47 [.ref a0, .int a1, .int a2] (.int (y1 + y0) :: st) M Q) ∧
  (∀ (a0 : Nat) (a1 : Int32) (a2 : Int32) (y0 : Int32) (st : List Value) (M : xM) (Q : Option Value → xM → Prop), xW xSC 81 47 [.ref a0, .int a1, .int a2] (.int y0 :: .ref 1 :: st) M Q = xW xSC 81 50 [.ref a0, .int a1, .int a2] (st) (xup M 1 2 y0) Q) ∧
  (∀ (a0 : Nat) (a1 : Int32) (a2 : Int32) (st : List Value) (M : xM) (Q : Option Value → xM → Prop), xW xSC 81 50 [.ref a0, .int a1, .int a2] (st) M Q = xW xSC 81 52 [.ref a0, .int a1, .int a2] (.int (nI 10) :: st) M Q) ∧
  (∀ (a0 : Nat) (a1 : Int32) (a2 : Int32) (st : List Value) (M : xM) (Q : Option Value → xM → Prop), xW xSC 81 52 [.ref a0, .int a1, .int a2] (st) M Q = xW xSC 81 53 [.ref a0, .int a1, .int a2] (.int a1 :: st) M Q) ∧
  (∀ (a0 : Nat) (a1 : Int32) (a2 : Int32) (y0 : Int32) (y1 : Int32) (st : List Value) (M : xM) (Q : Option Value → xM → Prop), xW xSC 81 53 [.ref a0, .int a1, .int a2] (.int y0 :: .int y1 :: st) M Q = xW xSC 81 54 [.ref a0, .int a1, .int a2] (.int (y1 * y0) :: st) M Q) ∧
  (∀ (a0 : Nat) (a1 : Int32) (a2 : Int32) (st : List Value) (M : xM) (Q : Option Value → xM → Prop), xW xSC 81 54 [.ref a0, .int a1, .int a2] (st) M Q = xW xSC 81 55 [.ref a0, .int a1, .int a2] (.int a2 :: st) M Q) ∧
  (∀ (a0 : Nat) (a1 : Int32) (a2 : Int32) (y0 : Int32) (y1 : Int32) (st : List Value) (M : xM) (Q : Option Value → xM → Prop), xW xSC 81 55 [.ref a0, .int a1, .int a2] (.int y0 :: .int y1 :: st) M Q = xW xSC 81 56 [.ref a0, .int a1, .int a2] (.int (y1 + y0) :: st) M Q) ∧
  (∀ (a0 : Nat) (a1 : Int32) (a2 : Int32) (y0 : Int32) (M : xM) (Q : Option Value → xM → Prop), xW xSC 81 56 [.ref a0, .int a1, .int a2] ([.int y0]) M Q = Q (some (.int y0)) M) :=
  ⟨fun a0 a1 a2 st M Q => xw_s rfl rfl,
  fun a0 a1 a2 st M Q => xw_s rfl rfl,
  fun a0 a1 a2 st M Q => xw_s rfl rfl,
  fun a0 a1 a2 y0 M Q => xw_call rfl rfl rfl,
  fun a0 a1 a2 y0 st M Q => xw_s rfl rfl,
  fun a0 a1 a2 st M Q => xw_s rfl rfl,
  fun a0 a1 a2 y0 st M Q => xw_brn (c0 := nI 0 ≤ y0) (c1 := y0 < nI 0) rfl rfl (xge _ _),
  fun a0 a1 a2 st M Q => xw_s rfl rfl,
  fun a0 a1 a2 y0 M Q => xw_ret rfl rfl,
  fun a0 a1 a2 st M Q => xw_s rfl rfl,
  fun a0 a1 a2 y0 st M Q => xw_s rfl rfl,
  fun a0 a1 a2 st M Q => xw_s rfl rfl,
  fun a0 a1 a2 st M Q => xw_s rfl rfl,
  fun a0 a1 a2 y0 y1 st M Q => xw_s rfl rfl,
  fun a0 a1 a2 y0 st M Q => xw_s rfl rfl,
  fun a0 a1 a2 st M Q => xw_s rfl rfl,
  fun a0 a1 a2 st M Q => xw_s rfl rfl,
  fun a0 a1 a2 st M Q => xw_s rfl rfl,
  fun a0 a1 a2 y0 M Q => xw_call rfl rfl rfl,
  fun a0 a1 a2 y0 st M Q => xw_s rfl rfl,
  fun a0 a1 a2 st M Q => xw_s rfl rfl,
  fun a0 a1 a2 y0 st M Q => xw_brn (c0 := nI 0 ≤ y0) (c1 := y0 < nI 0) rfl rfl (xge _ _),
  fun a0 a1 a2 st M Q => xw_s rfl rfl,
  fun a0 a1 a2 y0 M Q => xw_ret rfl rfl,
  fun a0 a1 a2 st M Q => xw_s rfl rfl,
  fun a0 a1 a2 y0 st M Q => xw_s rfl rfl,
  fun a0 a1 a2 st M Q => xw_s rfl rfl,
  fun a0 a1 a2 st M Q => xw_s rfl rfl,
  fun a0 a1 a2 y0 y1 st M Q => xw_s rfl rfl,
  fun a0 a1 a2 y0 st M Q => xw_s rfl rfl,
  fun a0 a1 a2 st M Q => xw_s rfl rfl,
  fun a0 a1 a2 st M Q => xw_s rfl rfl,
  fun a0 a1 a2 y0 y1 st M Q => xw_s rfl rfl,
  fun a0 a1 a2 st M Q => xw_s rfl rfl,
  fun a0 a1 a2 y0 y1 st M Q => xw_s rfl rfl,
  fun a0 a1 a2 y0 M Q => xw_ret rfl rfl⟩
theorem j81 : True := trivial

set_option maxRecDepth 20000 in
theorem s82 :
  (∀ (a0 : Nat) (a1 : Int32) (a2 : Value) (st : List Value) (M : xM) (Q : Option Value → xM → Prop), xW xSC 82 0 [.ref a0, .int a1, a2] (st) M Q = xW xSC 82 1 [.ref a0, .int a1, a2] (.ref a0 :: st) M Q) ∧
  (∀ (a0 : Nat) (a1 : Int32) (a2 : Value) (st : List Value) (M : xM) (Q : Option Value → xM → Prop), xW xSC 82 1 [.ref a0, .int a1, a2] (st) M Q = xW xSC 82 2 [.ref a0, .int a1, a2] (.int a1 :: st) M Q) ∧
  (∀ (a0 : Nat) (a1 : Int32) (a2 : Value) (y0 : Int32) (M : xM) (Q : Option Value → xM → Prop), xW xSC 82 2 [.ref a0, .int a1, a2] (.int y0 :: .ref 1 :: []) M Q = xW xSC 83 0 [.ref 1, .int y0, .null] [] M (fun v M' => xW xSC 82 5 [.ref a0, .int a1, a2] (xpush v []) M' Q)) ∧
  (∀ (a0 : Nat) (a1 : Int32) (a2 : Value) (y0 : Int32) (st : List Value) (M : xM) (Q : Option Value → xM → Prop), xW xSC 82 5 [.ref a0, .int a1, a2] (.int y0 :: st) M Q = xW xSC 82 6 [.ref a0, .int a1, .int y0] (st) M Q) ∧
  (∀ (a0 : Nat) (a1 : Int32) (a2 : Int32) (st : List Value) (M : xM) (Q : Option Value → xM → Prop), xW xSC 82 6 [.ref a0, .int a1, .int a2] (st) M Q = xW xSC 82 7 [.ref a0, .int a1, .int a2] (.int a2 :: st) M Q) ∧
  (∀ (a0 : Nat) (a1 : Int32) (a2 : Int32) (st : List Value) (M : xM) (Q : Option Value → xM → Prop), xW xSC 82 7 [.ref a0, .int a1, .int a2] (st) M Q = xW xSC 82 9 [.ref a0, .int a1, .int a2] (.int (nI 48) :: st) M Q) ∧
  (∀ (a0 : Nat) (a1 : Int32) (a2 : Int32) (y0 : Int32) (y1 : Int32) (st : List Value) (M : xM) (Q : Option Value → xM → Prop), xW xSC 82 9 [.ref a0, .int a1, .int a2] (.int y0 :: .int y1 :: st) M Q = if y1 < y0 then xW xSC 82 25 [.ref a0, .int a1, .int a2] (st) M Q else xW xSC 82 12 [.ref a0, .int a1, .int a2] (st) M Q) ∧
  (∀ (a0 : Nat) (a1 : Int32) (a2 : Int32) (st : List Value) (M : xM) (Q : Option Value → xM → Prop), xW xSC 82 12 [.ref a0, .int a1, .int a2] (st) M Q = xW xSC 82 13 [.ref a0, .int a1, .int a2] (.int a2 :: st) M Q) ∧
  (∀ (a0 : Nat) (a1 : Int32) (a2 : Int32) (st : List Value) (M : xM) (Q : Option Value → xM → Prop), xW xSC 82 13 [.ref a0, .int a1, .int a2] (st) M Q = xW xSC 82 15 [.ref a0, .int a1, .int a2] (.int (nI 57) :: st) M Q) ∧
  (∀ (a0 : Nat) (a1 : Int32) (a2 : Int32) (y0 : Int32) (y1 : Int32) (st : List Value) (M : xM) (Q : Option Value → xM → Prop), xW xSC 82 15 [.ref a0, .int a1, .int a2] (.int y0 :: .int y1 :: st) M Q = if y0 < y1 then xW xSC 82 25 [.ref a0, .int a1, .int a2] (st) M Q else xW xSC 82 18 [.ref a0, .int a1, .int a2] (st) M Q) ∧
  (∀ (a0 : Nat) (a1 : Int32) (a2 : Int32) (st : List Value) (M : xM) (Q : Option Value → xM → Prop), xW xSC 82 18 [.ref a0, .int a1, .int a2] (st) M Q = xW xSC 82 19 [.ref a0, .int a1, .int a2] (.int a2 :: st) M Q) ∧
  (∀ (a0 : Nat) (a1 : Int32) (a2 : Int32) (st : List Value) (M : xM) (Q : Option Value → xM → Prop), xW xSC 82 19 [.ref a0, .int a1, .int a2] (st) M Q = xW xSC 82 21 [.ref a0, .int a1, .int a2] (.int (nI 48) :: st) M Q) ∧
  (∀ (a0 : Nat) (a1 : Int32) (a2 : Int32) (y0 : Int32) (y1 : Int32) (st : List Value) (M : xM) (Q : Option Value → xM → Prop), xW xSC 82 21 [.ref a0, .int a1, .int a2] (.int y0 :: .int y1 :: st) M Q = xW xSC 82 22 [.ref a0, .int a1, .int a2] (.int (y1 - y0) :: st) M Q) ∧
  (∀ (a0 : Nat) (a1 : Int32) (a2 : Int32) (st : List Value) (M : xM) (Q : Option Value → xM → Prop), xW xSC 82 22 [.ref a0, .int a1, .int a2] (st) M Q = xW xSC 82 26 [.ref a0, .int a1, .int a2] (st) M Q) :=
  ⟨fun a0 a1 a2 st M Q => xw_s rfl rfl,
  fun a0 a1 a2 st M Q => xw_s rfl rfl,
  fun a0 a1 a2 y0 M Q => xw_call rfl rfl rfl,
  fun a0 a1 a2 y0 st M Q => xw_s rfl rfl,
  fun a0 a1 a2 st M Q => xw_s rfl rfl,
  fun a0 a1 a2 st M Q => xw_s rfl rfl,
  fun a0 a1 a2 y0 y1 st M Q => xw_br (c0 := y1 < y0) rfl rfl,
  fun a0 a1 a2 st M Q => xw_s rfl rfl,
  fun a0 a1 a2 st M Q => xw_s rfl rfl,
  fun a0 a1 a2 y0 y1 st M Q => xw_br (c0 := y0 < y1) rfl rfl,
  fun a0 a1 a2 st M Q => xw_s rfl rfl,
  fun a0 a1 a2 st M Q => xw_s rfl rfl,
  fun a0 a1 a2 y0 y1 st M Q => xw_s rfl rfl,
  fun a0 a1 a2 st M Q => xw_s rfl rfl⟩
set_option maxRecDepth 20000 in
theorem h82_25 :
  (∀ (a0 : Nat) (a1 : Int32) (a2 : Int32) (st : List Value) (M : xM) (Q : Option Value → xM → Prop), xW xSC 82 25 [.ref a0, .int a1, .int a2] (st) M Q = xW xSC 82 26 [.ref a0, .int a1, .int a2] (.int (-1) :: st) M Q) :=
  fun a0 a1 a2 st M Q => xw_s rfl rfl
set_option maxRecDepth 20000 in
theorem h82_26 :
  (∀ (a0 : Nat) (a1 : Int32) (a2 : Int32) (y0 : Int32) (M : xM) (Q : Option Value → xM → Prop), xW xSC 82 26 [.ref a0, .int a1, .int a2] ([.int y0]) M Q = Q (some (.int y0)) M) :=
  fun a0 a1 a2 y0 M Q => xw_ret rfl rfl
set_option maxRecDepth 20000 in
theorem j82 :
  (∀ (a0 : Nat) (a1 : Int32) (a2 : Int32) (st : List Value) (M : xM) (Q : Option Value → xM → Prop), xW xSC 82 25 [.ref a0, .int a1, .int a2] (st) M Q = xW xSC 82 26 [.ref a0, .int a1, .int a2] (.int (-1) :: st) M Q) ∧
  (∀ (a0 : Nat) (a1 : Int32) (a2 : Int32) (y0 : Int32) (M : xM) (Q : Option Value → xM → Prop), xW xSC 82 26 [.ref a0, .int a1, .int a2] ([.int y0]) M Q = Q (some (.int y0)) M) :=
  ⟨fun a0 a1 a2 st M Q => xw_s rfl rfl,
  fun a0 a1 a2 y0 M Q => xw_ret rfl rfl⟩

set_option maxRecDepth 20000 in
theorem s83 :
  (∀ (a0 : Nat) (a1 : Int32) (a2 : Value) (st : List Value) (M : xM) (Q : Option Value → xM → Prop), xW xSC 83 0 [.ref a0, .int a1, a2] (st) M Q = xW xSC 83 1 [.ref a0, .int a1, a2] (.int a1 :: st) M Q) ∧
  (∀ (a0 : Nat) (a1 : Int32) (a2 : Value) (y0 : Int32) (st : List Value) (M : xM) (Q : Option Value → xM → Prop), xW xSC 83 1 [.ref a0, .int a1, a2] (.int y0 :: st) M Q = if y0 < nI 0 then xW xSC 83 25 [.ref a0, .int a1, a2] (st) M Q else xW xSC 83 4 [.ref a0, .int a1, a2] (st) M Q) ∧
  (∀ (a0 : Nat) (a1 : Int32) (a2 : Value) (st : List Value) (M : xM) (Q : Option Value → xM → Prop), xW xSC 83 4 [.ref a0, .int a1, a2] (st) M Q = xW xSC 83 5 [.ref a0, .int a1, a2] (.int a1 :: st) M Q) ∧
  (∀ (a0 : Nat) (a1 : Int32) (a2 : Value) (st : List Value) (M : xM) (Q : Option Value → xM → Prop), xW xSC 83 5 [.ref a0, .int a1, a2] (st) M Q = xW xSC 83 6 [.ref a0, .int a1, a2] (.ref a0 :: st) M Q) ∧
  (∀ (a0 : Nat) (a1 : Int32) (a2 : Value) (st : List Value) (M : xM) (Q : Option Value → xM → Prop), xW xSC 83 6 [.ref a0, .int a1, a2] (.ref 1 :: st) M Q = xW xSC 83 9 [.ref a0, .int a1, a2] (.int (M 1 4) :: st) M Q) ∧
  (∀ (a0 : Nat) (a1 : Int32) (a2 : Value) (y0 : Int32) (y1 : Int32) (st : List Value) (M : xM) (Q : Option Value → xM → Prop), xW xSC 83 9 [.ref a0, .int a1, a2] (.int y0 :: .int y1 :: st) M Q = if y1 < y0 then xW xSC 83 12 [.ref a0, .int a1, a2] (st) M Q else xW xSC 83 25 [.ref a0, .int a1, a2] (st) M Q) ∧
  (∀ (a0 : Nat) (a1 : Int32) (a2 : Value) (st : List Value) (M : xM) (Q : Option Value → xM → Prop), xW xSC 83 12 [.ref a0, .int a1, a2] (st) M Q = xW xSC 83 13 [.ref a0, .int a1, a2] (.int a1 :: st) M Q) ∧
  (∀ (a0 : Nat) (a1 : Int32) (a2 : Value) (st : List Value) (M : xM) (Q : Option Value → xM → Prop), xW xSC 83 13 [.ref a0, .int a1, a2] (st) M Q = xW xSC 83 14 [.ref a0, .int a1, a2] (.ref a0 :: st) M Q) ∧
  (∀ (a0 : Nat) (a1 : Int32) (a2 : Value) (st : List Value) (M : xM) (Q : Option Value → xM → Prop), xW xSC 83 14 [.ref a0, .int a1, a2] (.ref 1 :: st) M Q = xW xSC 83 17 [.ref a0, .int a1, a2] (.ref 2 :: st) M Q) ∧
  (∀ (a0 : Nat) (a1 : Int32) (a2 : Value) (st : List Value) (M : xM) (Q : Option Value → xM → Prop), xW xSC 83 17 [.ref a0, .int a1, a2] (.ref 2 :: st) M Q = xW xSC 83 18 [.ref a0, .int a1, a2] (.int (nI 200) :: st) M Q) ∧
  (∀ (a0 : Nat) (a1 : Int32) (a2 : Value) (y0 : Int32) (y1 : Int32) (st : List Value) (M : xM) (Q : Option Value → xM → Prop), xW xSC 83 18 [.ref a0, .int a1, a2] (.int y0 :: .int y1 :: st) M Q = if y1 < y0 then xW xSC 83 21 [.ref a0, .int a1, a2] (st) M Q else xW xSC 83 25 [.ref a0, .int a1, a2] (st) M Q) ∧
  (∀ (a0 : Nat) (a1 : Int32) (a2 : Value) (st : List Value) (M : xM) (Q : Option Value → xM → Prop), xW xSC 83 21 [.ref a0, .int a1, a2] (st) M Q = xW xSC 83 22 [.ref a0, .int a1, a2] (.int (nI 1) :: st) M Q) ∧
  (∀ (a0 : Nat) (a1 : Int32) (a2 : Value) (st : List Value) (M : xM) (Q : Option Value → xM → Prop), xW xSC 83 22 [.ref a0, .int a1, a2] (st) M Q = xW xSC 83 26 [.ref a0, .int a1, a2] (st) M Q) ∧
  (∀ (a0 : Nat) (a1 : Int32) (a2 : Int32) (st : List Value) (M : xM) (Q : Option Value → xM → Prop), xW xSC 83 27 [.ref a0, .int a1, .int a2] (st) M Q = xW xSC 83 28 [.ref a0, .int a1, .int a2] (.int a2 :: st) M Q) ∧
  (∀ (a0 : Nat) (a1 : Int32) (a2 : Int32) (y0 : Int32) (st : List Value) (M : xM) (Q : Option Value → xM → Prop), xW xSC 83 28 [.ref a0, .int a1, .int a2] (.int y0 :: st) M Q = if y0 = nI 0 then xW xSC 83 40 [.ref a0, .int a1, .int a2] (st) M Q else xW xSC 83 31 [.ref a0, .int a1, .int a2] (st) M Q) ∧
  (∀ (a0 : Nat) (a1 : Int32) (a2 : Int32) (st : List Value) (M : xM) (Q : Option Value → xM → Prop), xW xSC 83 31 [.ref a0, .int a1, .int a2] (st) M Q = xW xSC 83 32 [.ref a0, .int a1, .int a2] (.ref a0 :: st) M Q) ∧
  (∀ (a0 : Nat) (a1 : Int32) (a2 : Int32) (st : List Value) (M : xM) (Q : Option Value → xM → Prop), xW xSC 83 32 [.ref a0, .int a1, .int a2] (.ref 1 :: st) M Q = xW xSC 83 35 [.ref a0, .int a1, .int a2] (.ref 2 :: st) M Q) ∧
  (∀ (a0 : Nat) (a1 : Int32) (a2 : Int32) (st : List Value) (M : xM) (Q : Option Value → xM → Prop), xW xSC 83 35 [.ref a0, .int a1, .int a2] (st) M Q = xW xSC 83 36 [.ref a0, .int a1, .int a2] (.int a1 :: st) M Q) ∧
  (∀ (a0 : Nat) (a1 : Int32) (a2 : Int32) (y0 : Nat) (st : List Value) (M : xM) (Q : Option Value → xM → Prop), y0 < 200 → xW xSC 83 36 [.ref a0, .int a1, .int a2] (.int (nI y0) :: .ref 2 :: st) M Q = xW xSC 83 37 [.ref a0, .int a1, .int a2] (.int (M 2 y0) :: st) M Q) ∧
  (∀ (a0 : Nat) (a1 : Int32) (a2 : Int32) (st : List Value) (M : xM) (Q : Option Value → xM → Prop), xW xSC 83 37 [.ref a0, .int a1, .int a2] (st) M Q = xW xSC 83 41 [.ref a0, .int a1, .int a2] (st) M Q) ∧
  (∀ (a0 : Nat) (a1 : Int32) (a2 : Int32) (st : List Value) (M : xM) (Q : Option Value → xM → Prop), xW xSC 83 40 [.ref a0, .int a1, .int a2] (st) M Q = xW xSC 83 41 [.ref a0, .int a1, .int a2] (.int (nI 0) :: st) M Q) :=
  ⟨fun a0 a1 a2 st M Q => xw_s rfl rfl,
  fun a0 a1 a2 y0 st M Q => xw_br (c0 := y0 < nI 0) rfl rfl,
  fun a0 a1 a2 st M Q => xw_s rfl rfl,
  fun a0 a1 a2 st M Q => xw_s rfl rfl,
  fun a0 a1 a2 st M Q => xw_s rfl rfl,
  fun a0 a1 a2 y0 y1 st M Q => xw_brn (c0 := y0 ≤ y1) (c1 := y1 < y0) rfl rfl (xge _ _),
  fun a0 a1 a2 st M Q => xw_s rfl rfl,
  fun a0 a1 a2 st M Q => xw_s rfl rfl,
  fun a0 a1 a2 st M Q => xw_s rfl rfl,
  fun a0 a1 a2 st M Q => xw_s rfl rfl,
  fun a0 a1 a2 y0 y1 st M Q => xw_brn (c0 := y0 ≤ y1) (c1 := y1 < y0) rfl rfl (xge _ _),
  fun a0 a1 a2 st M Q => xw_s rfl rfl,
  fun a0 a1 a2 st M Q => xw_s rfl rfl,
  fun a0 a1 a2 st M Q => xw_s rfl rfl,
  fun a0 a1 a2 y0 st M Q => xw_br (c0 := y0 = nI 0) rfl rfl,
  fun a0 a1 a2 st M Q => xw_s rfl rfl,
  fun a0 a1 a2 st M Q => xw_s rfl rfl,
  fun a0 a1 a2 st M Q => xw_s rfl rfl,
  fun a0 a1 a2 y0 st M Q h0 => xw_ald rfl rfl rfl (by decide) h0,
  fun a0 a1 a2 st M Q => xw_s rfl rfl,
  fun a0 a1 a2 st M Q => xw_s rfl rfl⟩
set_option maxRecDepth 20000 in
theorem h83_25 :
  (∀ (a0 : Nat) (a1 : Int32) (a2 : Value) (st : List Value) (M : xM) (Q : Option Value → xM → Prop), xW xSC 83 25 [.ref a0, .int a1, a2] (st) M Q = xW xSC 83 26 [.ref a0, .int a1, a2] (.int (nI 0) :: st) M Q) :=
  fun a0 a1 a2 st M Q => xw_s rfl rfl
set_option maxRecDepth 20000 in
theorem h83_26 :
  (∀ (a0 : Nat) (a1 : Int32) (a2 : Value) (y0 : Int32) (st : List Value) (M : xM) (Q : Option Value → xM → Prop), xW xSC 83 26 [.ref a0, .int a1, a2] (.int y0 :: st) M Q = xW xSC 83 27 [.ref a0, .int a1, .int y0] (st) M Q) :=
  fun a0 a1 a2 y0 st M Q => xw_s rfl rfl
set_option maxRecDepth 20000 in
theorem h83_41 :
  (∀ (a0 : Nat) (a1 : Int32) (a2 : Int32) (y0 : Nat) (M : xM) (Q : Option Value → xM → Prop), y0 < 65536 → xW xSC 83 41 [.ref a0, .int a1, .int a2] ([.int (nI y0)]) M Q = Q (some (.int (nI y0))) M) :=
  fun a0 a1 a2 y0 M Q h0 => xw_retc rfl rfl h0
set_option maxRecDepth 20000 in
theorem j83 :
  (∀ (a0 : Nat) (a1 : Int32) (a2 : Value) (st : List Value) (M : xM) (Q : Option Value → xM → Prop), xW xSC 83 25 [.ref a0, .int a1, a2] (st) M Q = xW xSC 83 26 [.ref a0, .int a1, a2] (.int (nI 0) :: st) M Q) ∧
  (∀ (a0 : Nat) (a1 : Int32) (a2 : Value) (y0 : Int32) (st : List Value) (M : xM) (Q : Option Value → xM → Prop), xW xSC 83 26 [.ref a0, .int a1, a2] (.int y0 :: st) M Q = xW xSC 83 27 [.ref a0, .int a1, .int y0] (st) M Q) ∧
  (∀ (a0 : Nat) (a1 : Int32) (a2 : Int32) (y0 : Nat) (M : xM) (Q : Option Value → xM → Prop), y0 < 65536 → xW xSC 83 41 [.ref a0, .int a1, .int a2] ([.int (nI y0)]) M Q = Q (some (.int (nI y0))) M) :=
  ⟨fun a0 a1 a2 st M Q => xw_s rfl rfl,
  fun a0 a1 a2 y0 st M Q => xw_s rfl rfl,
  fun a0 a1 a2 y0 M Q h0 => xw_retc rfl rfl h0⟩

set_option maxRecDepth 20000 in
theorem s85 :
  (∀ (a0 : Nat) (a1 : Nat) (a2 : Int32) (a3 : Value) (st : List Value) (M : xM) (Q : Option Value → xM → Prop), xW xSC 85 0 [.ref a0, .ref a1, .int a2, a3] (st) M Q = xW xSC 85 1 [.ref a0, .ref a1, .int a2, a3] (.ref a0 :: st) M Q) ∧
  (∀ (a0 : Nat) (a1 : Nat) (a2 : Int32) (a3 : Value) (st : List Value) (M : xM) (Q : Option Value → xM → Prop), xW xSC 85 1 [.ref a0, .ref a1, .int a2, a3] (st) M Q = xW xSC 85 2 [.ref a0, .ref a1, .int a2, a3] (.ref a1 :: st) M Q) ∧
  (∀ (a0 : Nat) (a1 : Nat) (a2 : Int32) (a3 : Value) (st : List Value) (M : xM) (Q : Option Value → xM → Prop), xW xSC 85 2 [.ref a0, .ref a1, .int a2, a3] (st) M Q = xW xSC 85 3 [.ref a0, .ref a1, .int a2, a3] (.int a2 :: st) M Q) ∧
  (∀ (a0 : Nat) (a1 : Nat) (a2 : Int32) (a3 : Value) (st : List Value) (M : xM) (Q : Option Value → xM → Prop), xW xSC 85 3 [.ref a0, .ref a1, .int a2, a3] (st) M Q = xW xSC 85 4 [.ref a0, .ref a1, .int a2, a3] (.int (nI 0) :: st) M Q) ∧
  (∀ (a0 : Nat) (a1 : Nat) (a2 : Int32) (a3 : Value) (y0 : Int32) (y1 : Int32) (y3 : Nat) (M : xM) (Q : Option Value → xM → Prop), xW xSC 85 4 [.ref a0, .ref a1, .int a2, a3] (.int y0 :: .int y1 :: .ref 9 :: .ref y3 :: []) M Q = xW xSC 30 0 [.ref 9, .int y1, .int y0] [] M (fun v M' => xW xSC 85 7 [.ref a0, .ref a1, .int a2, a3] (xpush v [.ref y3]) M' Q)) ∧
  (∀ (a0 : Nat) (a1 : Nat) (a2 : Int32) (a3 : Value) (y0 : Int32) (st : List Value) (M : xM) (Q : Option Value → xM → Prop), xW xSC 85 7 [.ref a0, .ref a1, .int a2, a3] (.int y0 :: .ref 31 :: st) M Q = xW xSC 85 10 [.ref a0, .ref a1, .int a2, a3] (st) (xup M 31 0 y0) Q) ∧
  (∀ (a0 : Nat) (a1 : Nat) (a2 : Int32) (a3 : Value) (st : List Value) (M : xM) (Q : Option Value → xM → Prop), xW xSC 85 10 [.ref a0, .ref a1, .int a2, a3] (st) M Q = xW xSC 85 11 [.ref a0, .ref a1, .int a2, a3] (.ref a0 :: st) M Q) ∧
  (∀ (a0 : Nat) (a1 : Nat) (a2 : Int32) (a3 : Value) (st : List Value) (M : xM) (Q : Option Value → xM → Prop), xW xSC 85 11 [.ref a0, .ref a1, .int a2, a3] (st) M Q = xW xSC 85 12 [.ref a0, .ref a1, .int a2, a3] (.ref a1 :: st) M Q) ∧
  (∀ (a0 : Nat) (a1 : Nat) (a2 : Int32) (a3 : Value) (st : List Value) (M : xM) (Q : Option Value → xM → Prop), xW xSC 85 12 [.ref a0, .ref a1, .int a2, a3] (st) M Q = xW xSC 85 13 [.ref a0, .ref a1, .int a2, a3] (.int a2 :: st) M Q) ∧
  (∀ (a0 : Nat) (a1 : Nat) (a2 : Int32) (a3 : Value) (st : List Value) (M : xM) (Q : Option Value → xM → Prop), xW xSC 85 13 [.ref a0, .ref a1, .int a2, a3] (st) M Q = xW xSC 85 14 [.ref a0, .ref a1, .int a2, a3] (.int (nI 1) :: st) M Q) ∧
  (∀ (a0 : Nat) (a1 : Nat) (a2 : Int32) (a3 : Value) (y0 : Int32) (y1 : Int32) (y3 : Nat) (M : xM) (Q : Option Value → xM → Prop), xW xSC 85 14 [.ref a0, .ref a1, .int a2, a3] (.int y0 :: .int y1 :: .ref 9 :: .ref y3 :: []) M Q = xW xSC 30 0 [.ref 9, .int y1, .int y0] [] M (fun v M' => xW xSC 85 17 [.ref a0, .ref a1, .int a2, a3] (xpush v [.ref y3]) M' Q)) ∧
  (∀ (a0 : Nat) (a1 : Nat) (a2 : Int32) (a3 : Value) (st : List Value) (M : xM) (Q : Option Value → xM → Prop), xW xSC 85 17 [.ref a0, .ref a1, .int a2, a3] (st) M Q = xW xSC 85 18 [.ref a0, .ref a1, .int a2, a3] (.int (nI 1) :: st) M Q) ∧
  (∀ (a0 : Nat) (a1 : Nat) (a2 : Int32) (a3 : Value) (y0 : Int32) (y1 : Int32) (st : List Value) (M : xM) (Q : Option Value → xM → Prop), xW xSC 85 18 [.ref a0, .ref a1, .int a2, a3] (.int y0 :: .int y1 :: st) M Q = if y1 = y0 then xW xSC 85 21 [.ref a0, .ref a1, .int a2, a3] (st) M Q else xW xSC 85 25 [.ref a0, .ref a1, .int a2, a3] (st) M Q) ∧
  (∀ (a0 : Nat) (a1 : Nat) (a2 : Int32) (a3 : Value) (st : List Value) (M : xM) (Q : Option Value → xM → Prop), xW xSC 85 21 [.ref a0, .ref a1, .int a2, a3] (st) M Q = xW xSC 85 22 [.ref a0, .ref a1, .int a2, a3] (.int (nI 1) :: st) M Q) ∧
  (∀ (a0 : Nat) (a1 : Nat) (a2 : Int32) (a3 : Value) (st : List Value) (M : xM) (Q : Option Value → xM → Prop), xW xSC 85 22 [.ref a0, .ref a1, .int a2, a3] (st) M Q = xW xSC 85 26 [.ref a0, .ref a1, .int a2, a3] (st) M Q) ∧
  (∀ (a0 : Nat) (a1 : Nat) (a2 : Int32) (a3 : Value) (st : List Value) (M : xM) (Q : Option Value → xM → Prop), xW xSC 85 25 [.ref a0, .ref a1, .int a2, a3] (st) M Q = xW xSC 85 26 [.ref a0, .ref a1, .int a2, a3] (.int (nI 0) :: st) M Q) ∧
  (∀ (a0 : Nat) (a1 : Nat) (a2 : Int32) (a3 : Value) (st : List Value) (M : xM) (Q : Option Value → xM → Prop), xW xSC 85 29 [.ref a0, .ref a1, .int a2, a3] (st) M Q = xW xSC 85 30 [.ref a0, .ref a1, .int a2, a3] (.ref a0 :: st) M Q) ∧
  (∀ (a0 : Nat) (a1 : Nat) (a2 : Int32) (a3 : Value) (st : List Value) (M : xM) (Q : Option Value → xM → Prop), xW xSC 85 30 [.ref a0, .ref a1, .int a2, a3] (st) M Q = xW xSC 85 31 [.ref a0, .ref a1, .int a2, a3] (.ref a1 :: st) M Q) ∧
  (∀ (a0 : Nat) (a1 : Nat) (a2 : Int32) (a3 : Value) (st : List Value) (M : xM) (Q : Option Value → xM → Prop), xW xSC 85 31 [.ref a0, .ref a1, .int a2, a3] (st) M Q = xW xSC 85 32 [.ref a0, .ref a1, .int a2, a3] (.int a2 :: st) M Q) ∧
  (∀ (a0 : Nat) (a1 : Nat) (a2 : Int32) (a3 : Value) (st : List Value) (M : xM) (Q : Option Value → xM → Prop), xW xSC 85 32 [.ref a0, .ref a1, .int a2, a3] (st) M Q = xW xSC 85 33 [.ref a0, .ref a1, .int a2, a3] (.int (nI 2) :: st) M Q) ∧
  (∀ (a0 : Nat) (a1 : Nat) (a2 : Int32) (a3 : Value) (y0 : Int32) (y1 : Int32) (y3 : Nat) (M : xM) (Q : Option Value → xM → Prop), xW xSC 85 33 [.ref a0, .ref a1, .int a2, a3] (.int y0 :: .int y1 :: .ref 9 :: .ref y3 :: []) M Q = xW xSC 30 0 [.ref 9, .int y1, .int y0] [] M (fun v M' => xW xSC 85 36 [.ref a0, .ref a1, .int a2, a3] (xpush v [.ref y3]) M' Q)) ∧
  (∀ (a0 : Nat) (a1 : Nat) (a2 : Int32) (a3 : Value) (y0 : Int32) (st : List Value) (M : xM) (Q : Option Value → xM → Prop), xW xSC 85 36 [.ref a0, .ref a1, .int a2, a3] (.int y0 :: .ref 31 :: st) M Q = xW xSC 85 39 [.ref a0, .ref a1, .int a2, a3] (st) (xup M 31 2 y0) Q) ∧
  (∀ (a0 : Nat) (a1 : Nat) (a2 : Int32) (a3 : Value) (st : List Value) (M : xM) (Q : Option Value → xM → Prop), xW xSC 85 39 [.ref a0, .ref a1, .int a2, a3] (st) M Q = xW xSC 85 40 [.ref a0, .ref a1, .int a2, a3] (.int (nI 0) :: st) M Q) ∧
  (∀ (a0 : Nat) (a1 : Nat) (a2 : Int32) (a3 : Value) (y0 : Int32) (st : List Value) (M : xM) (Q : Option Value → xM → Prop), xW xSC 85 40 [.ref a0, .ref a1, .int a2, a3] (.int y0 :: st) M Q = xW xSC 85 41 [.ref a0, .ref a1, .int a2, .int y0] (st) M Q) ∧
  (∀ (a0 : Nat) (a1 : Nat) (a2 : Int32) (a3 : Int32) (st : List Value) (M : xM) (Q : Option Value → xM → Prop), xW xSC 85 42 [.ref a0, .ref a1, .int a2, .int a3] (st) M Q = xW xSC 85 44 [.ref a0, .ref a1, .int a2, .int a3] (.int (nI 16) :: st) M Q) ∧
  (∀ (a0 : Nat) (a1 : Nat) (a2 : Int32) (a3 : Int32) (y0 : Int32) (y1 : Int32) (st : List Value) (M : xM) (Q : Option Value → xM → Prop), xW xSC 85 44 [.ref a0, .ref a1, .int a2, .int a3] (.int y0 :: .int y1 :: st) M Q = if y1 < y0 then xW xSC 85 47 [.ref a0, .ref a1, .int a2, .int a3] (st) M Q else xW xSC 85 67 [.ref a0, .ref a1, .int a2, .int a3] (st) M Q) ∧
  (∀ (a0 : Nat) (a1 : Nat) (a2 : Int32) (a3 : Int32) (st : List Value) (M : xM) (Q : Option Value → xM → Prop), xW xSC 85 47 [.ref a0, .ref a1, .int a2, .int a3] (st) M Q = xW xSC 85 48 [.ref a0, .ref a1, .int a2, .int a3] (.ref a0 :: st) M Q) ∧
  (∀ (a0 : Nat) (a1 : Nat) (a2 : Int32) (a3 : Int32) (st : List Value) (M : xM) (Q : Option Value → xM → Prop), xW xSC 85 48 [.ref a0, .ref a1, .int a2, .int a3] (.ref 31 :: st) M Q = xW xSC 85 51 [.ref a0, .ref a1, .int a2, .int a3] (.ref 32 :: st) M Q) ∧
  (∀ (a0 : Nat) (a1 : Nat) (a2 : Int32) (a3 : Int32) (st : List Value) (M : xM) (Q : Option Value → xM → Prop), xW xSC 85 51 [.ref a0, .ref a1, .int a2, .int a3] (st) M Q = xW xSC 85 52 [.ref a0, .ref a1, .int a2, .int a3] (.int a3 :: st) M Q) ∧
  (∀ (a0 : Nat) (a1 : Nat) (a2 : Int32) (a3 : Int32) (st : List Value) (M : xM) (Q : Option Value → xM → Prop), xW xSC 85 52 [.ref a0, .ref a1, .int a2, .int a3] (st) M Q = xW xSC 85 53 [.ref a0, .ref a1, .int a2, .int a3] (.ref a1 :: st) M Q) ∧
  (∀ (a0 : Nat) (a1 : Nat) (a2 : Int32) (a3 : Int32) (st : List Value) (M : xM) (Q : Option Value → xM → Prop), xW xSC 85 53 [.ref a0, .ref a1, .int a2, .int a3] (st) M Q = xW xSC 85 54 [.ref a0, .ref a1, .int a2, .int a3] (.int a2 :: st) M Q) ∧
  (∀ (a0 : Nat) (a1 : Nat) (a2 : Int32) (a3 : Int32) (st : List Value) (M : xM) (Q : Option Value → xM → Prop), xW xSC 85 54 [.ref a0, .ref a1, .int a2, .int a3] (st) M Q = xW xSC 85 55 [.ref a0, .ref a1, .int a2, .int a3] (.int a3 :: st) M Q) ∧
  (∀ (a0 : Nat) (a1 : Nat) (a2 : Int32) (a3 : Int32) (y0 : Int32) (y1 : Int32) (y3 : Int32) (y4 : Nat) (M : xM) (Q : Option Value → xM → Prop), xW xSC 85 55 [.ref a0, .ref a1, .int a2, .int a3] (.int y0 :: .int y1 :: .ref 9 :: .int y3 :: .ref y4 :: []) M Q = xW xSC 32 0 [.ref 9, .int y1, .int y0] [] M (fun v M' => xW xSC 85 58 [.ref a0, .ref a1, .int a2, .int a3] (xpush v [.int y3, .ref y4]) M' Q)) ∧
  (∀ (a0 : Nat) (a1 : Nat) (a2 : Int32) (a3 : Int32) (y0 : Int32) (y1 : Int32) (y2 : Nat) (M : xM) (Q : Option Value → xM → Prop), xW xSC 85 58 [.ref a0, .ref a1, .int a2, .int a3] (.int y0 :: .int y1 :: .ref y2 :: []) M Q = xW xSC 1 0 [.ref y2, .int y1, .int y0] [] M (fun v M' => xW xSC 85 61 [.ref a0, .ref a1, .int a2, .int a3] (xpush v []) M' Q)) ∧
  (∀ (a0 : Nat) (a1 : Nat) (a2 : Int32) (a3 : Int32) (st : List Value) (M : xM) (Q : Option Value → xM → Prop), xW xSC 85 61 [.ref a0, .ref a1, .int a2, .int a3] (st) M Q = xW xSC 85 64 [.ref a0, .ref a1, .int a2, .int (a3 + nI 1)] (st) M Q) ∧
  (∀ (a0 : Nat) (a1 : Nat) (a2 : Int32) (a3 : Int32) (st : List Value) (M : xM) (Q : Option Value → xM → Prop), xW xSC 85 64 [.ref a0, .ref a1, .int a2, .int a3] (st) M Q = xW xSC 85 41 [.ref a0, .ref a1, .int a2, .int a3] (st) M Q) ∧
  (∀ (a0 : Nat) (a1 : Nat) (a2 : Int32) (a3 : Int32) (M : xM) (Q : Option Value → xM → Prop), xW xSC 85 67 [.ref a0, .ref a1, .int a2, .int a3] ([]) M Q = Q none M) :=
  ⟨fun a0 a1 a2 a3 st M Q => xw_s rfl rfl,
  fun a0 a1 a2 a3 st M Q => xw_s rfl rfl,
  fun a0 a1 a2 a3 st M Q => xw_s rfl rfl,
  fun a0 a1 a2 a3 st M Q => xw_s rfl rfl,
  fun a0 a1 a2 a3 y0 y1 y3 M Q => xw_call rfl rfl rfl,
  fun a0 a1 a2 a3 y0 st M Q => xw_s rfl rfl,
  fun a0 a1 a2 a3 st M Q => xw_s rfl rfl,
  fun a0 a1 a2 a3 st M Q => xw_s rfl rfl,
  fun a0 a1 a2 a3 st M Q => xw_s rfl rfl,
  fun a0 a1 a2 a3 st M Q => xw_s rfl rfl,
  fun a0 a1 a2 a3 y0 y1 y3 M Q => xw_call rfl rfl rfl,
  fun a0 a1 a2 a3 st M Q => xw_s rfl rfl,
  fun a0 a1 a2 a3 y0 y1 st M Q => xw_brn (c0 := y1 ≠ y0) (c1 := y1 = y0) rfl rfl (Iff.rfl),
  fun a0 a1 a2 a3 st M Q => xw_s rfl rfl,
  fun a0 a1 a2 a3 st M Q => xw_s rfl rfl,
  fun a0 a1 a2 a3 st M Q => xw_s rfl rfl,
  fun a0 a1 a2 a3 st M Q => xw_s rfl rfl,
  fun a0 a1 a2 a3 st M Q => xw_s rfl rfl,
  fun a0 a1 a2 a3 st M Q => xw_s rfl rfl,
  fun a0 a1 a2 a3 st M Q => xw_s rfl rfl,
  fun a0 a1 a2 a3 y0 y1 y3 M Q => xw_call rfl rfl rfl,
  fun a0 a1 a2 a3 y0 st M Q => xw_s rfl rfl,
  fun a0 a1 a2 a3 st M Q => xw_s rfl rfl,
  fun a0 a1 a2 a3 y0 st M Q => xw_s rfl rfl,
  fun a0 a1 a2 a3 st M Q => xw_s rfl rfl,
  fun a0 a1 a2 a3 y0 y1 st M Q => xw_brn (c0 := y0 ≤ y1) (c1 := y1 < y0) rfl rfl (xge _ _),
  fun a0 a1 a2 a3 st M Q => xw_s rfl rfl,
  fun a0 a1 a2 a3 st M Q => xw_s rfl rfl,
  fun a0 a1 a2 a3 st M Q => xw_s rfl rfl,
  fun a0 a1 a2 a3 st M Q => xw_s rfl rfl,
  fun a0 a1 a2 a3 st M Q => xw_s rfl rfl,
  fun a0 a1 a2 a3 st M Q => xw_s rfl rfl,
  fun a0 a1 a2 a3 y0 y1 y3 y4 M Q => xw_call rfl rfl rfl,
  fun a0 a1 a2 a3 y0 y1 y2 M Q => xw_call rfl rfl rfl,
  fun a0 a1 a2 a3 st M Q => xw_s rfl rfl,
  fun a0 a1 a2 a3 st M Q => xw_s rfl rfl,
  fun a0 a1 a2 a3 M Q => xw_retv rfl rfl⟩
set_option maxRecDepth 20000 in
theorem h85_26 :
  (∀ (a0 : Nat) (a1 : Nat) (a2 : Int32) (a3 : Value) (y0 : Int32) (st : List Value) (M : xM) (Q : Option Value → xM → Prop), y0 = 0 ∨ y0 = 1 → xW xSC 85 26 [.ref a0, .ref a1, .int a2, a3] (.int y0 :: .ref 31 :: st) M Q = xW xSC 85 29 [.ref a0, .ref a1, .int a2, a3] (st) (xup M 31 1 y0) Q) :=
  fun a0 a1 a2 a3 y0 st M Q h0 => xw_putz rfl rfl rfl rfl rfl h0
set_option maxRecDepth 20000 in
theorem h85_41 :
  (∀ (a0 : Nat) (a1 : Nat) (a2 : Int32) (a3 : Int32) (st : List Value) (M : xM) (Q : Option Value → xM → Prop), xW xSC 85 41 [.ref a0, .ref a1, .int a2, .int a3] (st) M Q = xW xSC 85 42 [.ref a0, .ref a1, .int a2, .int a3] (.int a3 :: st) M Q) :=
  fun a0 a1 a2 a3 st M Q => xw_s rfl rfl
set_option maxRecDepth 20000 in
theorem j85 :
  (∀ (a0 : Nat) (a1 : Nat) (a2 : Int32) (a3 : Value) (y0 : Int32) (st : List Value) (M : xM) (Q : Option Value → xM → Prop), y0 = 0 ∨ y0 = 1 → xW xSC 85 26 [.ref a0, .ref a1, .int a2, a3] (.int y0 :: .ref 31 :: st) M Q = xW xSC 85 29 [.ref a0, .ref a1, .int a2, a3] (st) (xup M 31 1 y0) Q) :=
  fun a0 a1 a2 a3 y0 st M Q h0 => xw_putz rfl rfl rfl rfl rfl h0

set_option maxRecDepth 20000 in
theorem s86 :
  (∀ (a0 : Nat) (a1 : Nat) (a2 : Int32) (a3 : Value) (st : List Value) (M : xM) (Q : Option Value → xM → Prop), xW xSC 86 0 [.ref a0, .ref a1, .int a2, a3] (st) M Q = xW xSC 86 1 [.ref a0, .ref a1, .int a2, a3] (.ref a1 :: st) M Q) ∧
  (∀ (a0 : Nat) (a1 : Nat) (a2 : Int32) (a3 : Value) (st : List Value) (M : xM) (Q : Option Value → xM → Prop), xW xSC 86 1 [.ref a0, .ref a1, .int a2, a3] (st) M Q = xW xSC 86 2 [.ref a0, .ref a1, .int a2, a3] (.int a2 :: st) M Q) ∧
  (∀ (a0 : Nat) (a1 : Nat) (a2 : Int32) (a3 : Value) (st : List Value) (M : xM) (Q : Option Value → xM → Prop), xW xSC 86 2 [.ref a0, .ref a1, .int a2, a3] (st) M Q = xW xSC 86 3 [.ref a0, .ref a1, .int a2, a3] (.int (nI 0) :: st) M Q) ∧
  (∀ (a0 : Nat) (a1 : Nat) (a2 : Int32) (a3 : Value) (st : List Value) (M : xM) (Q : Option Value → xM → Prop), xW xSC 86 3 [.ref a0, .ref a1, .int a2, a3] (st) M Q = xW xSC 86 4 [.ref a0, .ref a1, .int a2, a3] (.ref a0 :: st) M Q) ∧
  (∀ (a0 : Nat) (a1 : Nat) (a2 : Int32) (a3 : Value) (st : List Value) (M : xM) (Q : Option Value → xM → Prop), xW xSC 86 4 [.ref a0, .ref a1, .int a2, a3] (.ref 31 :: st) M Q = xW xSC 86 7 [.ref a0, .ref a1, .int a2, a3] (.int (M 31 0) :: st) M Q) ∧
  (∀ (a0 : Nat) (a1 : Nat) (a2 : Int32) (a3 : Value) (y0 : Int32) (y1 : Int32) (y2 : Int32) (M : xM) (Q : Option Value → xM → Prop), xW xSC 86 7 [.ref a0, .ref a1, .int a2, a3] (.int y0 :: .int y1 :: .int y2 :: .ref 9 :: []) M Q = xW xSC 31 0 [.ref 9, .int y2, .int y1, .int y0] [] M (fun v M' => xW xSC 86 10 [.ref a0, .ref a1, .int a2, a3] (xpush v []) M' Q)) ∧
  (∀ (a0 : Nat) (a1 : Nat) (a2 : Int32) (a3 : Value) (st : List Value) (M : xM) (Q : Option Value → xM → Prop), xW xSC 86 10 [.ref a0, .ref a1, .int a2, a3] (st) M Q = xW xSC 86 11 [.ref a0, .ref a1, .int a2, a3] (.ref a1 :: st) M Q) ∧
  (∀ (a0 : Nat) (a1 : Nat) (a2 : Int32) (a3 : Value) (st : List Value) (M : xM) (Q : Option Value → xM → Prop), xW xSC 86 11 [.ref a0, .ref a1, .int a2, a3] (st) M Q = xW xSC 86 12 [.ref a0, .ref a1, .int a2, a3] (.int a2 :: st) M Q) ∧
  (∀ (a0 : Nat) (a1 : Nat) (a2 : Int32) (a3 : Value) (st : List Value) (M : xM) (Q : Option Value → xM → Prop), xW xSC 86 12 [.ref a0, .ref a1, .int a2, a3] (st) M Q = xW xSC 86 13 [.ref a0, .ref a1, .int a2, a3] (.int (nI 2) :: st) M Q) ∧
  (∀ (a0 : Nat) (a1 : Nat) (a2 : Int32) (a3 : Value) (st : List Value) (M : xM) (Q : Option Value → xM → Prop), xW xSC 86 13 [.ref a0, .ref a1, .int a2, a3] (st) M Q = xW xSC 86 14 [.ref a0, .ref a1, .int a2, a3] (.ref a0 :: st) M Q) ∧
  (∀ (a0 : Nat) (a1 : Nat) (a2 : Int32) (a3 : Value) (st : List Value) (M : xM) (Q : Option Value → xM → Prop), xW xSC 86 14 [.ref a0, .ref a1, .int a2, a3] (.ref 31 :: st) M Q = xW xSC 86 17 [.ref a0, .ref a1, .int a2, a3] (.int (M 31 2) :: st) M Q) ∧
  (∀ (a0 : Nat) (a1 : Nat) (a2 : Int32) (a3 : Value) (y0 : Int32) (y1 : Int32) (y2 : Int32) (M : xM) (Q : Option Value → xM → Prop), xW xSC 86 17 [.ref a0, .ref a1, .int a2, a3] (.int y0 :: .int y1 :: .int y2 :: .ref 9 :: []) M Q = xW xSC 31 0 [.ref 9, .int y2, .int y1, .int y0] [] M (fun v M' => xW xSC 86 20 [.ref a0, .ref a1, .int a2, a3] (xpush v []) M' Q)) ∧
  (∀ (a0 : Nat) (a1 : Nat) (a2 : Int32) (a3 : Value) (st : List Value) (M : xM) (Q : Option Value → xM → Prop), xW xSC 86 20 [.ref a0, .ref a1, .int a2, a3] (st) M Q = xW xSC 86 21 [.ref a0, .ref a1, .int a2, a3] (.int (nI 0) :: st) M Q) ∧
  (∀ (a0 : Nat) (a1 : Nat) (a2 : Int32) (a3 : Value) (y0 : Int32) (st : List Value) (M : xM) (Q : Option Value → xM → Prop), xW xSC 86 21 [.ref a0, .ref a1, .int a2, a3] (.int y0 :: st) M Q = xW xSC 86 22 [.ref a0, .ref a1, .int a2, .int y0] (st) M Q) ∧
  (∀ (a0 : Nat) (a1 : Nat) (a2 : Int32) (a3 : Int32) (st : List Value) (M : xM) (Q : Option Value → xM → Prop), xW xSC 86 23 [.ref a0, .ref a1, .int a2, .int a3] (st) M Q = xW xSC 86 25 [.ref a0, .ref a1, .int a2, .int a3] (.int (nI 16) :: st) M Q) ∧
  (∀ (a0 : Nat) (a1 : Nat) (a2 : Int32) (a3 : Int32) (y0 : Int32) (y1 : Int32) (st : List Value) (M : xM) (Q : Option Value → xM → Prop), xW xSC 86 25 [.ref a0, .ref a1, .int a2, .int a3] (.int y0 :: .int y1 :: st) M Q = if y1 < y0 then xW xSC 86 28 [.ref a0, .ref a1, .int a2, .int a3] (st) M Q else xW xSC 86 48 [.ref a0, .ref a1, .int a2, .int a3] (st) M Q) ∧
  (∀ (a0 : Nat) (a1 : Nat) (a2 : Int32) (a3 : Int32) (st : List Value) (M : xM) (Q : Option Value → xM → Prop), xW xSC 86 28 [.ref a0, .ref a1, .int a2, .int a3] (st) M Q = xW xSC 86 29 [.ref a0, .ref a1, .int a2, .int a3] (.ref a1 :: st) M Q) ∧
  (∀ (a0 : Nat) (a1 : Nat) (a2 : Int32) (a3 : Int32) (st : List Value) (M : xM) (Q : Option Value → xM → Prop), xW xSC 86 29 [.ref a0, .ref a1, .int a2, .int a3] (st) M Q = xW xSC 86 30 [.ref a0, .ref a1, .int a2, .int a3] (.int a2 :: st) M Q) ∧
  (∀ (a0 : Nat) (a1 : Nat) (a2 : Int32) (a3 : Int32) (st : List Value) (M : xM) (Q : Option Value → xM → Prop), xW xSC 86 30 [.ref a0, .ref a1, .int a2, .int a3] (st) M Q = xW xSC 86 31 [.ref a0, .ref a1, .int a2, .int a3] (.int a3 :: st) M Q) ∧
  (∀ (a0 : Nat) (a1 : Nat) (a2 : Int32) (a3 : Int32) (st : List Value) (M : xM) (Q : Option Value → xM → Prop), xW xSC 86 31 [.ref a0, .ref a1, .int a2, .int a3] (st) M Q = xW xSC 86 32 [.ref a0, .ref a1, .int a2, .int a3] (.ref a0 :: st) M Q) ∧
  (∀ (a0 : Nat) (a1 : Nat) (a2 : Int32) (a3 : Int32) (st : List Value) (M : xM) (Q : Option Value → xM → Prop), xW xSC 86 32 [.ref a0, .ref a1, .int a2, .int a3] (.ref 31 :: st) M Q = xW xSC 86 35 [.ref a0, .ref a1, .int a2, .int a3] (.ref 32 :: st) M Q) ∧
  (∀ (a0 : Nat) (a1 : Nat) (a2 : Int32) (a3 : Int32) (st : List Value) (M : xM) (Q : Option Value → xM → Prop), xW xSC 86 35 [.ref a0, .ref a1, .int a2, .int a3] (st) M Q = xW xSC 86 36 [.ref a0, .ref a1, .int a2, .int a3] (.int a3 :: st) M Q) ∧
  (∀ (a0 : Nat) (a1 : Nat) (a2 : Int32) (a3 : Int32) (y0 : Int32) (y1 : Nat) (y2 : Int32) (y3 : Int32) (y4 : Nat) (M : xM) (Q : Option Value → xM → Prop), xW xSC 86 36 [.ref a0, .ref a1, .int a2, .int a3] (.int y0 :: .ref y1 :: .int y2 :: .int y3 :: .ref y4 :: []) M Q = xW xSC 0 0 [.ref y1, .int y0] [] M (fun v M' => xW xSC 86 39 [.ref a0, .ref a1, .int a2, .int a3] (xpush v [.int y2, .int y3, .ref y4]) M' Q)) ∧
  (∀ (a0 : Nat) (a1 : Nat) (a2 : Int32) (a3 : Int32) (y0 : Int32) (y1 : Int32) (y2 : Int32) (M : xM) (Q : Option Value → xM → Prop), xW xSC 86 39 [.ref a0, .ref a1, .int a2, .int a3] (.int y0 :: .int y1 :: .int y2 :: .ref 9 :: []) M Q = xW xSC 33 0 [.ref 9, .int y2, .int y1, .int y0] [] M (fun v M' => xW xSC 86 42 [.ref a0, .ref a1, .int a2, .int a3] (xpush v []) M' Q)) ∧
  (∀ (a0 : Nat) (a1 : Nat) (a2 : Int32) (a3 : Int32) (st : List Value) (M : xM) (Q : Option Value → xM → Prop), xW xSC 86 42 [.ref a0, .ref a1, .int a2, .int a3] (st) M Q = xW xSC 86 45 [.ref a0, .ref a1, .int a2, .int (a3 + nI 1)] (st) M Q) ∧
  (∀ (a0 : Nat) (a1 : Nat) (a2 : Int32) (a3 : Int32) (st : List Value) (M : xM) (Q : Option Value → xM → Prop), xW xSC 86 45 [.ref a0, .ref a1, .int a2, .int a3] (st) M Q = xW xSC 86 22 [.ref a0, .ref a1, .int a2, .int a3] (st) M Q) ∧
  (∀ (a0 : Nat) (a1 : Nat) (a2 : Int32) (a3 : Int32) (M : xM) (Q : Option Value → xM → Prop), xW xSC 86 48 [.ref a0, .ref a1, .int a2, .int a3] ([]) M Q = Q none M) :=
  ⟨fun a0 a1 a2 a3 st M Q => xw_s rfl rfl,
  fun a0 a1 a2 a3 st M Q => xw_s rfl rfl,
  fun a0 a1 a2 a3 st M Q => xw_s rfl rfl,
  fun a0 a1 a2 a3 st M Q => xw_s rfl rfl,
  fun a0 a1 a2 a3 st M Q => xw_s rfl rfl,
  fun a0 a1 a2 a3 y0 y1 y2 M Q => xw_call rfl rfl rfl,
  fun a0 a1 a2 a3 st M Q => xw_s rfl rfl,
  fun a0 a1 a2 a3 st M Q => xw_s rfl rfl,
  fun a0 a1 a2 a3 st M Q => xw_s rfl rfl,
  fun a0 a1 a2 a3 st M Q => xw_s rfl rfl,
  fun a0 a1 a2 a3 st M Q => xw_s rfl rfl,
  fun a0 a1 a2 a3 y0 y1 y2 M Q => xw_call rfl rfl rfl,
  fun a0 a1 a2 a3 st M Q => xw_s rfl rfl,
  fun a0 a1 a2 a3 y0 st M Q => xw_s rfl rfl,
  fun a0 a1 a2 a3 st M Q => xw_s rfl rfl,
  fun a0 a1 a2 a3 y0 y1 st M Q => xw_brn (c0 := y0 ≤ y1) (c1 := y1 < y0) rfl rfl (xge _ _),
  fun a0 a1 a2 a3 st M Q => xw_s rfl rfl,
  fun a0 a1 a2 a3 st M Q => xw_s rfl rfl,
  fun a0 a1 a2 a3 st M Q => xw_s rfl rfl,
  fun a0 a1 a2 a3 st M Q => xw_s rfl rfl,
  fun a0 a1 a2 a3 st M Q => xw_s rfl rfl,
  fun a0 a1 a2 a3 st M Q => xw_s rfl rfl,
  fun a0 a1 a2 a3 y0 y1 y2 y3 y4 M Q => xw_call rfl rfl rfl,
  fun a0 a1 a2 a3 y0 y1 y2 M Q => xw_call rfl rfl rfl,
  fun a0 a1 a2 a3 st M Q => xw_s rfl rfl,
  fun a0 a1 a2 a3 st M Q => xw_s rfl rfl,
  fun a0 a1 a2 a3 M Q => xw_retv rfl rfl⟩
set_option maxRecDepth 20000 in
theorem h86_22 :
  (∀ (a0 : Nat) (a1 : Nat) (a2 : Int32) (a3 : Int32) (st : List Value) (M : xM) (Q : Option Value → xM → Prop), xW xSC 86 22 [.ref a0, .ref a1, .int a2, .int a3] (st) M Q = xW xSC 86 23 [.ref a0, .ref a1, .int a2, .int a3] (.int a3 :: st) M Q) :=
  fun a0 a1 a2 a3 st M Q => xw_s rfl rfl
theorem j86 : True := trivial

set_option maxRecDepth 20000 in
theorem s87 :
  (∀ (a0 : Nat) (a1 : Int32) (st : List Value) (M : xM) (Q : Option Value → xM → Prop), xW xSC 87 0 [.ref a0, .int a1] (st) M Q = xW xSC 87 1 [.ref a0, .int a1] (.ref a0 :: st) M Q) ∧
  (∀ (a0 : Nat) (a1 : Int32) (st : List Value) (M : xM) (Q : Option Value → xM → Prop), xW xSC 87 1 [.ref a0, .int a1] (.ref 31 :: st) M Q = xW xSC 87 4 [.ref a0, .int a1] (.int (M 31 1) :: st) M Q) ∧
  (∀ (a0 : Nat) (a1 : Int32) (y0 : Int32) (st : List Value) (M : xM) (Q : Option Value → xM → Prop), xW xSC 87 4 [.ref a0, .int a1] (.int y0 :: st) M Q = if y0 = nI 0 then xW xSC 87 12 [.ref a0, .int a1] (st) M Q else xW xSC 87 7 [.ref a0, .int a1] (st) M Q) ∧
  (∀ (a0 : Nat) (a1 : Int32) (st : List Value) (M : xM) (Q : Option Value → xM → Prop), xW xSC 87 7 [.ref a0, .int a1] (st) M Q = xW xSC 87 8 [.ref a0, .int a1] (.int a1 :: st) M Q) ∧
  (∀ (a0 : Nat) (a1 : Int32) (st : List Value) (M : xM) (Q : Option Value → xM → Prop), xW xSC 87 8 [.ref a0, .int a1] (st) M Q = xW xSC 87 9 [.ref a0, .int a1] (.int (nI 1) :: st) M Q) ∧
  (∀ (a0 : Nat) (a1 : Int32) (y0 : Int32) (y1 : Int32) (st : List Value) (M : xM) (Q : Option Value → xM → Prop), xW xSC 87 9 [.ref a0, .int a1] (.int y0 :: .int y1 :: st) M Q = if y1 = y0 then xW xSC 87 16 [.ref a0, .int a1] (st) M Q else xW xSC 87 12 [.ref a0, .int a1] (st) M Q) ∧
  (∀ (a0 : Nat) (a1 : Int32) (st : List Value) (M : xM) (Q : Option Value → xM → Prop), xW xSC 87 13 [.ref a0, .int a1] (st) M Q = xW xSC 87 17 [.ref a0, .int a1] (st) M Q) ∧
  (∀ (a0 : Nat) (a1 : Int32) (st : List Value) (M : xM) (Q : Option Value → xM → Prop), xW xSC 87 16 [.ref a0, .int a1] (st) M Q = xW xSC 87 17 [.ref a0, .int a1] (.int (nI 0) :: st) M Q) :=
  ⟨fun a0 a1 st M Q => xw_s rfl rfl,
  fun a0 a1 st M Q => xw_s rfl rfl,
  fun a0 a1 y0 st M Q => xw_br (c0 := y0 = nI 0) rfl rfl,
  fun a0 a1 st M Q => xw_s rfl rfl,
  fun a0 a1 st M Q => xw_s rfl rfl,
  fun a0 a1 y0 y1 st M Q => xw_br (c0 := y1 = y0) rfl rfl,
  fun a0 a1 st M Q => xw_s rfl rfl,
  fun a0 a1 st M Q => xw_s rfl rfl⟩
set_option maxRecDepth 20000 in
theorem h87_12 :
  (∀ (a0 : Nat) (a1 : Int32) (st : List Value) (M : xM) (Q : Option Value → xM → Prop), xW xSC 87 12 [.ref a0, .int a1] (st) M Q = xW xSC 87 13 [.ref a0, .int a1] (.int (nI 1) :: st) M Q) :=
  fun a0 a1 st M Q => xw_s rfl rfl
set_option maxRecDepth 20000 in
theorem h87_17 :
  (∀ (a0 : Nat) (a1 : Int32) (y0 : Int32) (M : xM) (Q : Option Value → xM → Prop), y0 = 0 ∨ y0 = 1 → xW xSC 87 17 [.ref a0, .int a1] ([.int y0]) M Q = Q (some (.int y0)) M) :=
  fun a0 a1 y0 M Q h0 => xw_retz rfl rfl h0
set_option maxRecDepth 20000 in
theorem j87 :
  (∀ (a0 : Nat) (a1 : Int32) (st : List Value) (M : xM) (Q : Option Value → xM → Prop), xW xSC 87 12 [.ref a0, .int a1] (st) M Q = xW xSC 87 13 [.ref a0, .int a1] (.int (nI 1) :: st) M Q) ∧
  (∀ (a0 : Nat) (a1 : Int32) (y0 : Int32) (M : xM) (Q : Option Value → xM → Prop), y0 = 0 ∨ y0 = 1 → xW xSC 87 17 [.ref a0, .int a1] ([.int y0]) M Q = Q (some (.int y0)) M) :=
  ⟨fun a0 a1 st M Q => xw_s rfl rfl,
  fun a0 a1 y0 M Q h0 => xw_retz rfl rfl h0⟩

set_option maxRecDepth 20000 in
theorem s88 :
  (∀ (a0 : Nat) (a1 : Nat) (a2 : Int32) (a3 : Int32) (a4 : Value) (st : List Value) (M : xM) (Q : Option Value → xM → Prop), xW xSC 88 0 [.ref a0, .ref a1, .int a2, .int a3, a4] (st) M Q = xW xSC 88 1 [.ref a0, .ref a1, .int a2, .int a3, a4] (.ref a0 :: st) M Q) ∧
  (∀ (a0 : Nat) (a1 : Nat) (a2 : Int32) (a3 : Int32) (a4 : Value) (st : List Value) (M : xM) (Q : Option Value → xM → Prop), xW xSC 88 1 [.ref a0, .ref a1, .int a2, .int a3, a4] (.ref 31 :: st) M Q = xW xSC 88 4 [.ref a0, .ref a1, .int a2, .int a3, a4] (.ref 32 :: st) M Q) ∧
  (∀ (a0 : Nat) (a1 : Nat) (a2 : Int32) (a3 : Int32) (a4 : Value) (st : List Value) (M : xM) (Q : Option Value → xM → Prop), xW xSC 88 4 [.ref a0, .ref a1, .int a2, .int a3, a4] (st) M Q = xW xSC 88 5 [.ref a0, .ref a1, .int a2, .int a3, a4] (.int (nI 2) :: st) M Q) ∧
  (∀ (a0 : Nat) (a1 : Nat) (a2 : Int32) (a3 : Int32) (a4 : Value) (st : List Value) (M : xM) (Q : Option Value → xM → Prop), xW xSC 88 5 [.ref a0, .ref a1, .int a2, .int a3, a4] (st) M Q = xW xSC 88 6 [.ref a0, .ref a1, .int a2, .int a3, a4] (.int a2 :: st) M Q) ∧
  (∀ (a0 : Nat) (a1 : Nat) (a2 : Int32) (a3 : Int32) (a4 : Value) (y0 : Int32) (y1 : Int32) (st : List Value) (M : xM) (Q : Option Value → xM → Prop), xW xSC 88 6 [.ref a0, .ref a1, .int a2, .int a3, a4] (.int y0 :: .int y1 :: st) M Q = xW xSC 88 7 [.ref a0, .ref a1, .int a2, .int a3, a4] (.int (y1 * y0) :: st) M Q) ∧
  (∀ (a0 : Nat) (a1 : Nat) (a2 : Int32) (a3 : Int32) (a4 : Value) (st : List Value) (M : xM) (Q : Option Value → xM → Prop), xW xSC 88 7 [.ref a0, .ref a1, .int a2, .int a3, a4] (st) M Q = xW xSC 88 8 [.ref a0, .ref a1, .int a2, .int a3, a4] (.int a3 :: st) M Q) ∧
  (∀ (a0 : Nat) (a1 : Nat) (a2 : Int32) (a3 : Int32) (a4 : Value) (y0 : Int32) (y1 : Int32) (st : List Value) (M : xM) (Q : Option Value → xM → Prop), xW xSC 88 8 [.ref a0, .ref a1, .int a2, .int a3, a4] (.int y0 :: .int y1 :: st) M Q = xW xSC 88 9 [.ref a0, .ref a1, .int a2, .int a3, a4] (.int (y1 + y0) :: st) M Q) ∧
  (∀ (a0 : Nat) (a1 : Nat) (a2 : Int32) (a3 : Int32) (a4 : Value) (y0 : Int32) (y1 : Nat) (M : xM) (Q : Option Value → xM → Prop), xW xSC 88 9 [.ref a0, .ref a1, .int a2, .int a3, a4] (.int y0 :: .ref y1 :: []) M Q = xW xSC 0 0 [.ref y1, .int y0] [] M (fun v M' => xW xSC 88 12 [.ref a0, .ref a1, .int a2, .int a3, a4] (xpush v []) M' Q)) ∧
  (∀ (a0 : Nat) (a1 : Nat) (a2 : Int32) (a3 : Int32) (a4 : Value) (st : List Value) (M : xM) (Q : Option Value → xM → Prop), xW xSC 88 12 [.ref a0, .ref a1, .int a2, .int a3, a4] (st) M Q = xW xSC 88 13 [.ref a0, .ref a1, .int a2, .int a3, a4] (.int (nI 1) :: st) M Q) ∧
  (∀ (a0 : Nat) (a1 : Nat) (a2 : Int32) (a3 : Int32) (a4 : Value) (y0 : Int32) (y1 : Int32) (st : List Value) (M : xM) (Q : Option Value → xM → Prop), xW xSC 88 13 [.ref a0, .ref a1, .int a2, .int a3, a4] (.int y0 :: .int y1 :: st) M Q = xW xSC 88 14 [.ref a0, .ref a1, .int a2, .int a3, a4] (.int (y1 + y0) :: st) M Q) ∧
  (∀ (a0 : Nat) (a1 : Nat) (a2 : Int32) (a3 : Int32) (a4 : Value) (y0 : Int32) (st : List Value) (M : xM) (Q : Option Value → xM → Prop), xW xSC 88 14 [.ref a0, .ref a1, .int a2, .int a3, a4] (.int y0 :: st) M Q = xW xSC 88 16 [.ref a0, .ref a1, .int a2, .int a3, .int y0] (st) M Q) ∧
  (∀ (a0 : Nat) (a1 : Nat) (a2 : Int32) (a3 : Int32) (a4 : Int32) (st : List Value) (M : xM) (Q : Option Value → xM → Prop), xW xSC 88 16 [.ref a0, .ref a1, .int a2, .int a3, .int a4] (st) M Q = xW xSC 88 17 [.ref a0, .ref a1, .int a2, .int a3, .int a4] (.ref a0 :: st) M Q) ∧
  (∀ (a0 : Nat) (a1 : Nat) (a2 : Int32) (a3 : Int32) (a4 : Int32) (st : List Value) (M : xM) (Q : Option Value → xM → Prop), xW xSC 88 17 [.ref a0, .ref a1, .int a2, .int a3, .int a4] (.ref 31 :: st) M Q = xW xSC 88 20 [.ref a0, .ref a1, .int a2, .int a3, .int a4] (.ref 32 :: st) M Q) ∧
  (∀ (a0 : Nat) (a1 : Nat) (a2 : Int32) (a3 : Int32) (a4 : Int32) (st : List Value) (M : xM) (Q : Option Value → xM → Prop), xW xSC 88 20 [.ref a0, .ref a1, .int a2, .int a3, .int a4] (st) M Q = xW xSC 88 21 [.ref a0, .ref a1, .int a2, .int a3, .int a4] (.int (nI 2) :: st) M Q) ∧
  (∀ (a0 : Nat) (a1 : Nat) (a2 : Int32) (a3 : Int32) (a4 : Int32) (st : List Value) (M : xM) (Q : Option Value → xM → Prop), xW xSC 88 21 [.ref a0, .ref a1, .int a2, .int a3, .int a4] (st) M Q = xW xSC 88 22 [.ref a0, .ref a1, .int a2, .int a3, .int a4] (.int a2 :: st) M Q) ∧
  (∀ (a0 : Nat) (a1 : Nat) (a2 : Int32) (a3 : Int32) (a4 : Int32) (y0 : Int32) (y1 : Int32) (st : List Value) (M : xM) (Q : Option Value → xM → Prop), xW xSC 88 22 [.ref a0, .ref a1, .int a2, .int a3, .int a4] (.int y0 :: .int y1 :: st) M Q = xW xSC 88 23 [.ref a0, .ref a1, .int a2, .int a3, .int a4] (.int (y1 * y0) :: st) M Q) ∧
  (∀ (a0 : Nat) (a1 : Nat) (a2 : Int32) (a3 : Int32) (a4 : Int32) (st : List Value) (M : xM) (Q : Option Value → xM → Prop), xW xSC 88 23 [.ref a0, .ref a1, .int a2, .int a3, .int a4] (st) M Q = xW xSC 88 24 [.ref a0, .ref a1, .int a2, .int a3, .int a4] (.int a3 :: st) M Q) ∧
  (∀ (a0 : Nat) (a1 : Nat) (a2 : Int32) (a3 : Int32) (a4 : Int32) (y0 : Int32) (y1 : Int32) (st : List Value) (M : xM) (Q : Option Value → xM → Prop), xW xSC 88 24 [.ref a0, .ref a1, .int a2, .int a3, .int a4] (.int y0 :: .int y1 :: st) M Q = xW xSC 88 25 [.ref a0, .ref a1, .int a2, .int a3, .int a4] (.int (y1 + y0) :: st) M Q) ∧
  (∀ (a0 : Nat) (a1 : Nat) (a2 : Int32) (a3 : Int32) (a4 : Int32) (st : List Value) (M : xM) (Q : Option Value → xM → Prop), xW xSC 88 25 [.ref a0, .ref a1, .int a2, .int a3, .int a4] (st) M Q = xW xSC 88 27 [.ref a0, .ref a1, .int a2, .int a3, .int a4] (.int a4 :: st) M Q) ∧
  (∀ (a0 : Nat) (a1 : Nat) (a2 : Int32) (a3 : Int32) (a4 : Int32) (st : List Value) (M : xM) (Q : Option Value → xM → Prop), xW xSC 88 27 [.ref a0, .ref a1, .int a2, .int a3, .int a4] (st) M Q = xW xSC 88 29 [.ref a0, .ref a1, .int a2, .int a3, .int a4] (.int (nI 99) :: st) M Q) ∧
  (∀ (a0 : Nat) (a1 : Nat) (a2 : Int32) (a3 : Int32) (a4 : Int32) (y0 : Int32) (y1 : Int32) (y2 : Int32) (y3 : Nat) (M : xM) (Q : Option Value → xM → Prop), xW xSC 88 29 [.ref a0, .ref a1, .int a2, .int a3, .int a4] (.int y0 :: .int y1 :: .int y2 :: .ref y3 :: []) M Q = xW xSC 88 32 [.ref a0, .ref a1, .int a2, .int a3, .int a4] (.int (xmin y1 y0) :: .int y2 :: .ref y3 :: []) M Q) ∧
  (∀ (a0 : Nat) (a1 : Nat) (a2 : Int32) (a3 : Int32) (a4 : Int32) (y0 : Int32) (y1 : Int32) (y2 : Nat) (M : xM) (Q : Option Value → xM → Prop), xW xSC 88 32 [.ref a0, .ref a1, .int a2, .int a3, .int a4] (.int y0 :: .int y1 :: .ref y2 :: []) M Q = xW xSC 1 0 [.ref y2, .int y1, .int y0] [] M (fun v M' => xW xSC 88 35 [.ref a0, .ref a1, .int a2, .int a3, .int a4] (xpush v []) M' Q)) ∧
  (∀ (a0 : Nat) (a1 : Nat) (a2 : Int32) (a3 : Int32) (a4 : Int32) (st : List Value) (M : xM) (Q : Option Value → xM → Prop), xW xSC 88 35 [.ref a0, .ref a1, .int a2, .int a3, .int a4] (st) M Q = xW xSC 88 36 [.ref a0, .ref a1, .int a2, .int a3, .int a4] (.ref a0 :: st) M Q) ∧
  (∀ (a0 : Nat) (a1 : Nat) (a2 : Int32) (a3 : Int32) (a4 : Int32) (st : List Value) (M : xM) (Q : Option Value → xM → Prop), xW xSC 88 36 [.ref a0, .ref a1, .int a2, .int a3, .int a4] (st) M Q = xW xSC 88 37 [.ref a0, .ref a1, .int a2, .int a3, .int a4] (.ref a1 :: st) M Q) ∧
  (∀ (a0 : Nat) (a1 : Nat) (a2 : Int32) (a3 : Int32) (a4 : Int32) (st : List Value) (M : xM) (Q : Option Value → xM → Prop), xW xSC 88 37 [.ref a0, .ref a1, .int a2, .int a3, .int a4] (st) M Q = xW xSC 88 38 [.ref a0, .ref a1, .int a2, .int a3, .int a4] (.int a2 :: st) M Q) ∧
  (∀ (a0 : Nat) (a1 : Nat) (a2 : Int32) (a3 : Int32) (a4 : Int32) (st : List Value) (M : xM) (Q : Option Value → xM → Prop), xW xSC 88 38 [.ref a0, .ref a1, .int a2, .int a3, .int a4] (st) M Q = xW xSC 88 39 [.ref a0, .ref a1, .int a2, .int a3, .int a4] (.int a3 :: st) M Q) ∧
  (∀ (a0 : Nat) (a1 : Nat) (a2 : Int32) (a3 : Int32) (a4 : Int32) (y0 : Int32) (y1 : Int32) (y3 : Nat) (M : xM) (Q : Option Value → xM → Prop), xW xSC 88 39 [.ref a0, .ref a1, .int a2, .int a3, .int a4] (.int y0 :: .int y1 :: .ref 9 :: .ref y3 :: []) M Q = xW xSC 37 0 [.ref 9, .int y1, .int y0] [] M (fun v M' => xW xSC 88 42 [.ref a0, .ref a1, .int a2, .int a3, .int a4] (xpush v [.ref y3]) M' Q)) ∧
  (∀ (a0 : Nat) (a1 : Nat) (a2 : Int32) (a3 : Int32) (a4 : Int32) (y0 : Int32) (st : List Value) (M : xM) (Q : Option Value → xM → Prop), xW xSC 88 42 [.ref a0, .ref a1, .int a2, .int a3, .int a4] (.int y0 :: .ref 31 :: st) M Q = xW xSC 88 45 [.ref a0, .ref a1, .int a2, .int a3, .int a4] (st) (xup M 31 2 y0) Q) ∧
  (∀ (a0 : Nat) (a1 : Nat) (a2 : Int32) (a3 : Int32) (a4 : Int32) (st : List Value) (M : xM) (Q : Option Value → xM → Prop), xW xSC 88 45 [.ref a0, .ref a1, .int a2, .int a3, .int a4] (st) M Q = xW xSC 88 46 [.ref a0, .ref a1, .int a2, .int a3, .int a4] (.ref a0 :: st) M Q) ∧
  (∀ (a0 : Nat) (a1 : Nat) (a2 : Int32) (a3 : Int32) (a4 : Int32) (st : List Value) (M : xM) (Q : Option Value → xM → Prop), xW xSC 88 46 [.ref a0, .ref a1, .int a2, .int a3, .int a4] (st) M Q = xW xSC 88 47 [.ref a0, .ref a1, .int a2, .int a3, .int a4] (.ref a1 :: st) M Q) ∧
  (∀ (a0 : Nat) (a1 : Nat) (a2 : Int32) (a3 : Int32) (a4 : Int32) (st : List Value) (M : xM) (Q : Option Value → xM → Prop), xW xSC 88 47 [.ref a0, .ref a1, .int a2, .int a3, .int a4] (st) M Q = xW xSC 88 48 [.ref a0, .ref a1, .int a2, .int a3, .int a4] (.int a2 :: st) M Q) ∧
  (∀ (a0 : Nat) (a1 : Nat) (a2 : Int32) (a3 : Int32) (a4 : Int32) (st : List Value) (M : xM) (Q : Option Value → xM → Prop), xW xSC 88 48 [.ref a0, .ref a1, .int a2, .int a3, .int a4] (st) M Q = xW xSC 88 49 [.ref a0, .ref a1, .int a2, .int a3, .int a4] (.int (nI 1) :: st) M Q) ∧
  (∀ (a0 : Nat) (a1 : Nat) (a2 : Int32) (a3 : Int32) (a4 : Int32) (st : List Value) (M : xM) (Q : Option Value → xM → Prop), xW xSC 88 49 [.ref a0, .ref a1, .int a2, .int a3, .int a4] (st) M Q = xW xSC 88 50 [.ref a0, .ref a1, .int a2, .int a3, .int a4] (.int a3 :: st) M Q) ∧
  (∀ (a0 : Nat) (a1 : Nat) (a2 : Int32) (a3 : Int32) (a4 : Int32) (y0 : Int32) (y1 : Int32) (st : List Value) (M : xM) (Q : Option Value → xM → Prop), xW xSC 88 50 [.ref a0, .ref a1, .int a2, .int a3, .int a4] (.int y0 :: .int y1 :: st) M Q = xW xSC 88 51 [.ref a0, .ref a1, .int a2, .int a3, .int a4] (.int (y1 - y0) :: st) M Q) ∧
  (∀ (a0 : Nat) (a1 : Nat) (a2 : Int32) (a3 : Int32) (a4 : Int32) (y0 : Int32) (y1 : Int32) (y3 : Nat) (M : xM) (Q : Option Value → xM → Prop), xW xSC 88 51 [.ref a0, .ref a1, .int a2, .int a3, .int a4] (.int y0 :: .int y1 :: .ref 9 :: .ref y3 :: []) M Q = xW xSC 39 0 [.ref 9, .int y1, .int y0] [] M (fun v M' => xW xSC 88 54 [.ref a0, .ref a1, .int a2, .int a3, .int a4] (xpush v [.ref y3]) M' Q)) ∧
  (∀ (a0 : Nat) (a1 : Nat) (a2 : Int32) (a3 : Int32) (a4 : Int32) (y0 : Int32) (st : List Value) (M : xM) (Q : Option Value → xM → Prop), xW xSC 88 54 [.ref a0, .ref a1, .int a2, .int a3, .int a4] (.int y0 :: .ref 31 :: st) M Q = xW xSC 88 57 [.ref a0, .ref a1, .int a2, .int a3, .int a4] (st) (xup M 31 0 y0) Q) ∧
  (∀ (a0 : Nat) (a1 : Nat) (a2 : Int32) (a3 : Int32) (a4 : Int32) (M : xM) (Q : Option Value → xM → Prop), xW xSC 88 57 [.ref a0, .ref a1, .int a2, .int a3, .int a4] ([]) M Q = Q none M) :=
  ⟨fun a0 a1 a2 a3 a4 st M Q => xw_s rfl rfl,
  fun a0 a1 a2 a3 a4 st M Q => xw_s rfl rfl,
  fun a0 a1 a2 a3 a4 st M Q => xw_s rfl rfl,
  fun a0 a1 a2 a3 a4 st M Q => xw_s rfl rfl,
  fun a0 a1 a2 a3 a4 y0 y1 st M Q => xw_s rfl rfl,
  fun a0 a1 a2 a3 a4 st M Q => xw_s rfl rfl,
  fun a0 a1 a2 a3 a4 y0 y1 st M Q => xw_s rfl rfl,
  fun a0 a1 a2 a3 a4 y0 y1 M Q => xw_call rfl rfl rfl,
  fun a0 a1 a2 a3 a4 st M Q => xw_s rfl rfl,
  fun a0 a1 a2 a3 a4 y0 y1 st M Q => xw_s rfl rfl,
  fun a0 a1 a2 a3 a4 y0 st M Q => xw_s rfl rfl,
  fun a0 a1 a2 a3 a4 st M Q => xw_s rfl rfl,
  fun a0 a1 a2 a3 a4 st M Q => xw_s rfl rfl,
  fun a0 a1 a2 a3 a4 st M Q => xw_s rfl rfl,
  fun a0 a1 a2 a3 a4 st M Q => xw_s rfl rfl,
  fun a0 a1 a2 a3 a4 y0 y1 st M Q => xw_s rfl rfl,
  fun a0 a1 a2 a3 a4 st M Q => xw_s rfl rfl,
  fun a0 a1 a2 a3 a4 y0 y1 st M Q => xw_s rfl rfl,
  fun a0 a1 a2 a3 a4 st M Q => xw_s rfl rfl,
  fun a0 a1 a2 a3 a4 st M Q => xw_s rfl rfl,
  fun a0 a1 a2 a3 a4 y0 y1 y2 y3 M Q => xw_s rfl rfl,
  fun a0 a1 a2 a3 a4 y0 y1 y2 M Q => xw_call rfl rfl rfl,
  fun a0 a1 a2 a3 a4 st M Q => xw_s rfl rfl,
  fun a0 a1 a2 a3 a4 st M Q => xw_s rfl rfl,
  fun a0 a1 a2 a3 a4 st M Q => xw_s rfl rfl,
  fun a0 a1 a2 a3 a4 st M Q => xw_s rfl rfl,
  fun a0 a1 a2 a3 a4 y0 y1 y3 M Q => xw_call rfl rfl rfl,
  fun a0 a1 a2 a3 a4 y0 st M Q => xw_s rfl rfl,
  fun a0 a1 a2 a3 a4 st M Q => xw_s rfl rfl,
  fun a0 a1 a2 a3 a4 st M Q => xw_s rfl rfl,
  fun a0 a1 a2 a3 a4 st M Q => xw_s rfl rfl,
  fun a0 a1 a2 a3 a4 st M Q => xw_s rfl rfl,
  fun a0 a1 a2 a3 a4 st M Q => xw_s rfl rfl,
  fun a0 a1 a2 a3 a4 y0 y1 st M Q => xw_s rfl rfl,
  fun a0 a1 a2 a3 a4 y0 y1 y3 M Q => xw_call rfl rfl rfl,
  fun a0 a1 a2 a3 a4 y0 st M Q => xw_s rfl rfl,
  fun a0 a1 a2 a3 a4 M Q => xw_retv rfl rfl⟩
theorem j88 : True := trivial

set_option maxRecDepth 20000 in
theorem s90 :
  (∀ (a0 : Nat) (a1 : Nat) (a2 : Nat) (a3 : Int32) (a4 : Value) (st : List Value) (M : xM) (Q : Option Value → xM → Prop), xW xSC 90 0 [.ref a0, .ref a1, .ref a2, .int a3, a4] (st) M Q = xW xSC 90 1 [.ref a0, .ref a1, .ref a2, .int a3, a4] (.int a3 :: st) M Q) ∧
  (∀ (a0 : Nat) (a1 : Nat) (a2 : Nat) (a3 : Int32) (a4 : Value) (st : List Value) (M : xM) (Q : Option Value → xM → Prop), xW xSC 90 1 [.ref a0, .ref a1, .ref a2, .int a3, a4] (st) M Q = xW xSC 90 2 [.ref a0, .ref a1, .ref a2, .int a3, a4] (.ref a0 :: st) M Q) ∧
  (∀ (a0 : Nat) (a1 : Nat) (a2 : Nat) (a3 : Int32) (a4 : Value) (st : List Value) (M : xM) (Q : Option Value → xM → Prop), xW xSC 90 2 [.ref a0, .ref a1, .ref a2, .int a3, a4] (.ref 34 :: st) M Q = xW xSC 90 5 [.ref a0, .ref a1, .ref a2, .int a3, a4] (.ref 37 :: st) M Q) ∧
  (∀ (a0 : Nat) (a1 : Nat) (a2 : Nat) (a3 : Int32) (a4 : Value) (y0 : Nat) (y1 : Int32) (M : xM) (Q : Option Value → xM → Prop), xW xSC 90 5 [.ref a0, .ref a1, .ref a2, .int a3, a4] (.ref y0 :: .int y1 :: []) M Q = xW xSC 92 0 [.int y1, .ref y0, .null] [] M (fun v M' => xW xSC 90 8 [.ref a0, .ref a1, .ref a2, .int a3, a4] (xpush v []) M' Q)) ∧
  (∀ (a0 : Nat) (a1 : Nat) (a2 : Nat) (a3 : Int32) (a4 : Value) (st : List Value) (M : xM) (Q : Option Value → xM → Prop), xW xSC 90 8 [.ref a0, .ref a1, .ref a2, .int a3, a4] (st) M Q = xW xSC 90 9 [.ref a0, .ref a1, .ref a2, .int a3, a4] (.int (nI 1) :: st) M Q) ∧
  (∀ (a0 : Nat) (a1 : Nat) (a2 : Nat) (a3 : Int32) (a4 : Value) (y0 : Int32) (st : List Value) (M : xM) (Q : Option Value → xM → Prop), xW xSC 90 9 [.ref a0, .ref a1, .ref a2, .int a3, a4] (.int y0 :: st) M Q = xW xSC 90 11 [.ref a0, .ref a1, .ref a2, .int a3, .int y0] (st) M Q) ∧
  (∀ (a0 : Nat) (a1 : Nat) (a2 : Nat) (a3 : Int32) (a4 : Int32) (st : List Value) (M : xM) (Q : Option Value → xM → Prop), xW xSC 90 13 [.ref a0, .ref a1, .ref a2, .int a3, .int a4] (st) M Q = xW xSC 90 15 [.ref a0, .ref a1, .ref a2, .int a3, .int a4] (.int (nI 8) :: st) M Q) ∧
  (∀ (a0 : Nat) (a1 : Nat) (a2 : Nat) (a3 : Int32) (a4 : Int32) (y0 : Int32) (y1 : Int32) (st : List Value) (M : xM) (Q : Option Value → xM → Prop), xW xSC 90 15 [.ref a0, .ref a1, .ref a2, .int a3, .int a4] (.int y0 :: .int y1 :: st) M Q = if y1 < y0 then xW xSC 90 18 [.ref a0, .ref a1, .ref a2, .int a3, .int a4] (st) M Q else xW xSC 90 49 [.ref a0, .ref a1, .ref a2, .int a3, .int a4] (st) M Q) ∧
  (∀ (a0 : Nat) (a1 : Nat) (a2 : Nat) (a3 : Int32) (a4 : Int32) (st : List Value) (M : xM) (Q : Option Value → xM → Prop), xW xSC 90 18 [.ref a0, .ref a1, .ref a2, .int a3, .int a4] (st) M Q = xW xSC 90 19 [.ref a0, .ref a1, .ref a2, .int a3, .int a4] (.int a3 :: st) M Q) ∧
  (∀ (a0 : Nat) (a1 : Nat) (a2 : Nat) (a3 : Int32) (a4 : Int32) (st : List Value) (M : xM) (Q : Option Value → xM → Prop), xW xSC 90 19 [.ref a0, .ref a1, .ref a2, .int a3, .int a4] (st) M Q = xW xSC 90 20 [.ref a0, .ref a1, .ref a2, .int a3, .int a4] (.ref a0 :: st) M Q) ∧
  (∀ (a0 : Nat) (a1 : Nat) (a2 : Nat) (a3 : Int32) (a4 : Int32) (st : List Value) (M : xM) (Q : Option Value → xM → Prop), xW xSC 90 20 [.ref a0, .ref a1, .ref a2, .int a3, .int a4] (.ref 34 :: st) M Q = xW xSC 90 23 [.ref a0, .ref a1, .ref a2, .int a3, .int a4] (.ref 38 :: st) M Q) ∧
  (∀ (a0 : Nat) (a1 : Nat) (a2 : Nat) (a3 : Int32) (a4 : Int32) (y0 : Nat) (y1 : Int32) (M : xM) (Q : Option Value → xM → Prop), xW xSC 90 23 [.ref a0, .ref a1, .ref a2, .int a3, .int a4] (.ref y0 :: .int y1 :: []) M Q = xW xSC 92 0 [.int y1, .ref y0, .null] [] M (fun v M' => xW xSC 90 26 [.ref a0, .ref a1, .ref a2, .int a3, .int a4] (xpush v []) M' Q)) ∧
  (∀ (a0 : Nat) (a1 : Nat) (a2 : Nat) (a3 : Int32) (a4 : Int32) (st : List Value) (M : xM) (Q : Option Value → xM → Prop), xW xSC 90 26 [.ref a0, .ref a1, .ref a2, .int a3, .int a4] (st) M Q = xW xSC 90 27 [.ref a0, .ref a1, .ref a2, .int a3, .int a4] (.ref a0 :: st) M Q) ∧
  (∀ (a0 : Nat) (a1 : Nat) (a2 : Nat) (a3 : Int32) (a4 : Int32) (st : List Value) (M : xM) (Q : Option Value → xM → Prop), xW xSC 90 27 [.ref a0, .ref a1, .ref a2, .int a3, .int a4] (st) M Q = xW xSC 90 28 [.ref a0, .ref a1, .ref a2, .int a3, .int a4] (.ref a1 :: st) M Q) ∧
  (∀ (a0 : Nat) (a1 : Nat) (a2 : Nat) (a3 : Int32) (a4 : Int32) (st : List Value) (M : xM) (Q : Option Value → xM → Prop), xW xSC 90 28 [.ref a0, .ref a1, .ref a2, .int a3, .int a4] (st) M Q = xW xSC 90 29 [.ref a0, .ref a1, .ref a2, .int a3, .int a4] (.ref a2 :: st) M Q) ∧
  (∀ (a0 : Nat) (a1 : Nat) (a2 : Nat) (a3 : Int32) (a4 : Int32) (y0 : Nat) (y1 : Nat) (M : xM) (Q : Option Value → xM → Prop), xW xSC 90 29 [.ref a0, .ref a1, .ref a2, .int a3, .int a4] (.ref y0 :: .ref y1 :: .ref 34 :: []) M Q = xW xSC 93 0 [.ref 34, .ref y1, .ref y0, .null, .null, .null, .null, .null] [] M (fun v M' => xW xSC 90 32 [.ref a0, .ref a1, .ref a2, .int a3, .int a4] (xpush v []) M' Q)) ∧
  (∀ (a0 : Nat) (a1 : Nat) (a2 : Nat) (a3 : Int32) (a4 : Int32) (st : List Value) (M : xM) (Q : Option Value → xM → Prop), xW xSC 90 32 [.ref a0, .ref a1, .ref a2, .int a3, .int a4] (st) M Q = xW xSC 90 33 [.ref a0, .ref a1, .ref a2, .int a3, .int a4] (.ref a0 :: st) M Q) ∧
  (∀ (a0 : Nat) (a1 : Nat) (a2 : Nat) (a3 : Int32) (a4 : Int32) (st : List Value) (M : xM) (Q : Option Value → xM → Prop), xW xSC 90 33 [.ref a0, .ref a1, .ref a2, .int a3, .int a4] (.ref 34 :: st) M Q = xW xSC 90 36 [.ref a0, .ref a1, .ref a2, .int a3, .int a4] (.ref 38 :: st) M Q) ∧
  (∀ (a0 : Nat) (a1 : Nat) (a2 : Nat) (a3 : Int32) (a4 : Int32) (st : List Value) (M : xM) (Q : Option Value → xM → Prop), xW xSC 90 36 [.ref a0, .ref a1, .ref a2, .int a3, .int a4] (st) M Q = xW xSC 90 37 [.ref a0, .ref a1, .ref a2, .int a3, .int a4] (.ref a0 :: st) M Q) ∧
  (∀ (a0 : Nat) (a1 : Nat) (a2 : Nat) (a3 : Int32) (a4 : Int32) (st : List Value) (M : xM) (Q : Option Value → xM → Prop), xW xSC 90 37 [.ref a0, .ref a1, .ref a2, .int a3, .int a4] (.ref 34 :: st) M Q = xW xSC 90 40 [.ref a0, .ref a1, .ref a2, .int a3, .int a4] (.ref 37 :: st) M Q) ∧
  (∀ (a0 : Nat) (a1 : Nat) (a2 : Nat) (a3 : Int32) (a4 : Int32) (y0 : Nat) (y1 : Nat) (M : xM) (Q : Option Value → xM → Prop), xW xSC 90 40 [.ref a0, .ref a1, .ref a2, .int a3, .int a4] (.ref y0 :: .ref y1 :: []) M Q = xW xSC 2 0 [.ref y1, .ref y0] [] M (fun v M' => xW xSC 90 43 [.ref a0, .ref a1, .ref a2, .int a3, .int a4] (xpush v []) M' Q)) ∧
  (∀ (a0 : Nat) (a1 : Nat) (a2 : Nat) (a3 : Int32) (a4 : Int32) (st : List Value) (M : xM) (Q : Option Value → xM → Prop), xW xSC 90 43 [.ref a0, .ref a1, .ref a2, .int a3, .int a4] (st) M Q = xW xSC 90 46 [.ref a0, .ref a1, .ref a2, .int a3, .int (a4 + nI 1)] (st) M Q) ∧
  (∀ (a0 : Nat) (a1 : Nat) (a2 : Nat) (a3 : Int32) (a4 : Int32) (st : List Value) (M : xM) (Q : Option Value → xM → Prop), xW xSC 90 46 [.ref a0, .ref a1, .ref a2, .int a3, .int a4] (st) M Q = xW xSC 90 11 [.ref a0, .ref a1, .ref a2, .int a3, .int a4] (st) M Q) ∧
  (∀ (a0 : Nat) (a1 : Nat) (a2 : Nat) (a3 : Int32) (a4 : Int32) (st : List Value) (M : xM) (Q : Option Value → xM → Prop), xW xSC 90 49 [.ref a0, .ref a1, .ref a2, .int a3, .int a4] (st) M Q = xW xSC 90 50 [.ref a0, .ref a1, .ref a2, .int a3, .int a4] (.ref a0 :: st) M Q) ∧
  (∀ (a0 : Nat) (a1 : Nat) (a2 : Nat) (a3 : Int32) (a4 : Int32) (st : List Value) (M : xM) (Q : Option Value → xM → Prop), xW xSC 90 50 [.ref a0, .ref a1, .ref a2, .int a3, .int a4] (st) M Q = xW xSC 90 51 [.ref a0, .ref a1, .ref a2, .int a3, .int a4] (.ref a1 :: st) M Q) ∧
  (∀ (a0 : Nat) (a1 : Nat) (a2 : Nat) (a3 : Int32) (a4 : Int32) (st : List Value) (M : xM) (Q : Option Value → xM → Prop), xW xSC 90 51 [.ref a0, .ref a1, .ref a2, .int a3, .int a4] (st) M Q = xW xSC 90 52 [.ref a0, .ref a1, .ref a2, .int a3, .int a4] (.ref a2 :: st) M Q) ∧
  (∀ (a0 : Nat) (a1 : Nat) (a2 : Nat) (a3 : Int32) (a4 : Int32) (y0 : Nat) (y1 : Nat) (M : xM) (Q : Option Value → xM → Prop), xW xSC 90 52 [.ref a0, .ref a1, .ref a2, .int a3, .int a4] (.ref y0 :: .ref y1 :: .ref 34 :: []) M Q = xW xSC 95 0 [.ref 34, .ref y1, .ref y0, .null, .null, .null] [] M (fun v M' => xW xSC 90 55 [.ref a0, .ref a1, .ref a2, .int a3, .int a4] (xpush v []) M' Q)) ∧
  (∀ (a0 : Nat) (a1 : Nat) (a2 : Nat) (a3 : Int32) (a4 : Int32) (M : xM) (Q : Option Value → xM → Prop), xW xSC 90 55 [.ref a0, .ref a1, .ref a2, .int a3, .int a4] ([]) M Q = Q none M) :=
  ⟨fun a0 a1 a2 a3 a4 st M Q => xw_s rfl rfl,
  fun a0 a1 a2 a3 a4 st M Q => xw_s rfl rfl,
  fun a0 a1 a2 a3 a4 st M Q => xw_s rfl rfl,
  fun a0 a1 a2 a3 a4 y0 y1 M Q => xw_call rfl rfl rfl,
  fun a0 a1 a2 a3 a4 st M Q => xw_s rfl rfl,
  fun a0 a1 a2 a3 a4 y0 st M Q => xw_s rfl rfl,
  fun a0 a1 a2 a3 a4 st M Q => xw_s rfl rfl,
  fun a0 a1 a2 a3 a4 y0 y1 st M Q => xw_brn (c0 := y0 ≤ y1) (c1 := y1 < y0) rfl rfl (xge _ _),
  fun a0 a1 a2 a3 a4 st M Q => xw_s rfl rfl,
  fun a0 a1 a2 a3 a4 st M Q => xw_s rfl rfl,
  fun a0 a1 a2 a3 a4 st M Q => xw_s rfl rfl,
  fun a0 a1 a2 a3 a4 y0 y1 M Q => xw_call rfl rfl rfl,
  fun a0 a1 a2 a3 a4 st M Q => xw_s rfl rfl,
  fun a0 a1 a2 a3 a4 st M Q => xw_s rfl rfl,
  fun a0 a1 a2 a3 a4 st M Q => xw_s rfl rfl,
  fun a0 a1 a2 a3 a4 y0 y1 M Q => xw_call rfl rfl rfl,
  fun a0 a1 a2 a3 a4 st M Q => xw_s rfl rfl,
  fun a0 a1 a2 a3 a4 st M Q => xw_s rfl rfl,
  fun a0 a1 a2 a3 a4 st M Q => xw_s rfl rfl,
  fun a0 a1 a2 a3 a4 st M Q => xw_s rfl rfl,
  fun a0 a1 a2 a3 a4 y0 y1 M Q => xw_call rfl rfl rfl,
  fun a0 a1 a2 a3 a4 st M Q => xw_s rfl rfl,
  fun a0 a1 a2 a3 a4 st M Q => xw_s rfl rfl,
  fun a0 a1 a2 a3 a4 st M Q => xw_s rfl rfl,
  fun a0 a1 a2 a3 a4 st M Q => xw_s rfl rfl,
  fun a0 a1 a2 a3 a4 st M Q => xw_s rfl rfl,
  fun a0 a1 a2 a3 a4 y0 y1 M Q => xw_call rfl rfl rfl,
  fun a0 a1 a2 a3 a4 M Q => xw_retv rfl rfl⟩
set_option maxRecDepth 20000 in
theorem h90_11 :
  (∀ (a0 : Nat) (a1 : Nat) (a2 : Nat) (a3 : Int32) (a4 : Int32) (st : List Value) (M : xM) (Q : Option Value → xM → Prop), xW xSC 90 11 [.ref a0, .ref a1, .ref a2, .int a3, .int a4] (st) M Q = xW xSC 90 13 [.ref a0, .ref a1, .ref a2, .int a3, .int a4] (.int a4 :: st) M Q) :=
  fun a0 a1 a2 a3 a4 st M Q => xw_s rfl rfl
theorem j90 : True := trivial

set_option maxRecDepth 20000 in
theorem s91 :
  (∀ (a0 : Nat) (a1 : Nat) (a2 : Nat) (a3 : Value) (a4 : Value) (a5 : Value) (st : List Value) (M : xM) (Q : Option Value → xM → Prop), xW xSC 91 0 [.ref a0, .ref a1, .ref a2, a3, a4, a5] (st) M Q = xW xSC 91 1 [.ref a0, .ref a1, .ref a2, a3, a4, a5] (.ref a2 :: st) M Q) ∧
  (∀ (a0 : Nat) (a1 : Nat) (a2 : Nat) (a3 : Value) (a4 : Value) (a5 : Value) (st : List Value) (M : xM) (Q : Option Value → xM → Prop), xW xSC 91 1 [.ref a0, .ref a1, .ref a2, a3, a4, a5] (.ref 31 :: st) M Q = xW xSC 91 4 [.ref a0, .ref a1, .ref a2, a3, a4, a5] (.int (M 31 2) :: st) M Q) ∧
  (∀ (a0 : Nat) (a1 : Nat) (a2 : Nat) (a3 : Value) (a4 : Value) (a5 : Value) (y0 : Int32) (st : List Value) (M : xM) (Q : Option Value → xM → Prop), xW xSC 91 4 [.ref a0, .ref a1, .ref a2, a3, a4, a5] (.int y0 :: st) M Q = xW xSC 91 5 [.ref a0, .ref a1, .ref a2, .int y0, a4, a5] (st) M Q) ∧
  (∀ (a0 : Nat) (a1 : Nat) (a2 : Nat) (a3 : Int32) (a4 : Value) (a5 : Value) (st : List Value) (M : xM) (Q : Option Value → xM → Prop), xW xSC 91 5 [.ref a0, .ref a1, .ref a2, .int a3, a4, a5] (st) M Q = xW xSC 91 6 [.ref a0, .ref a1, .ref a2, .int a3, a4, a5] (.int (nI 0) :: st) M Q) ∧
  (∀ (a0 : Nat) (a1 : Nat) (a2 : Nat) (a3 : Int32) (a4 : Value) (a5 : Value) (y0 : Int32) (st : List Value) (M : xM) (Q : Option Value → xM → Prop), xW xSC 91 6 [.ref a0, .ref a1, .ref a2, .int a3, a4, a5] (.int y0 :: st) M Q = xW xSC 91 8 [.ref a0, .ref a1, .ref a2, .int a3, .int y0, a5] (st) M Q) ∧
  (∀ (a0 : Nat) (a1 : Nat) (a2 : Nat) (a3 : Int32) (a4 : Int32) (a5 : Value) (st : List Value) (M : xM) (Q : Option Value → xM → Prop), xW xSC 91 10 [.ref a0, .ref a1, .ref a2, .int a3, .int a4, a5] (st) M Q = xW xSC 91 11 [.ref a0, .ref a1, .ref a2, .int a3, .int a4, a5] (.int (nI 2) :: st) M Q) ∧
  (∀ (a0 : Nat) (a1 : Nat) (a2 : Nat) (a3 : Int32) (a4 : Int32) (a5 : Value) (st : List Value) (M : xM) (Q : Option Value → xM → Prop), xW xSC 91 11 [.ref a0, .ref a1, .ref a2, .int a3, .int a4, a5] (st) M Q = xW xSC 91 12 [.ref a0, .ref a1, .ref a2, .int a3, .int a4, a5] (.ref a1 :: st) M Q) ∧
  (∀ (a0 : Nat) (a1 : Nat) (a2 : Nat) (a3 : Int32) (a4 : Int32) (a5 : Value) (st : List Value) (M : xM) (Q : Option Value → xM → Prop), xW xSC 91 12 [.ref a0, .ref a1, .ref a2, .int a3, .int a4, a5] (.ref 9 :: st) M Q = xW xSC 91 15 [.ref a0, .ref a1, .ref a2, .int a3, .int a4, a5] (.int (M 9 1) :: st) M Q) ∧
  (∀ (a0 : Nat) (a1 : Nat) (a2 : Nat) (a3 : Int32) (a4 : Int32) (a5 : Value) (y0 : Int32) (y1 : Int32) (st : List Value) (M : xM) (Q : Option Value → xM → Prop), xW xSC 91 15 [.ref a0, .ref a1, .ref a2, .int a3, .int a4, a5] (.int y0 :: .int y1 :: st) M Q = xW xSC 91 16 [.ref a0, .ref a1, .ref a2, .int a3, .int a4, a5] (.int (y1 * y0) :: st) M Q) ∧
  (∀ (a0 : Nat) (a1 : Nat) (a2 : Nat) (a3 : Int32) (a4 : Int32) (a5 : Value) (y0 : Int32) (y1 : Int32) (st : List Value) (M : xM) (Q : Option Value → xM → Prop), xW xSC 91 16 [.ref a0, .ref a1, .ref a2, .int a3, .int a4, a5] (.int y0 :: .int y1 :: st) M Q = if y1 < y0 then xW xSC 91 19 [.ref a0, .ref a1, .ref a2, .int a3, .int a4, a5] (st) M Q else xW xSC 91 87 [.ref a0, .ref a1, .ref a2, .int a3, .int a4, a5] (st) M Q) ∧
  (∀ (a0 : Nat) (a1 : Nat) (a2 : Nat) (a3 : Int32) (a4 : Int32) (a5 : Value) (st : List Value) (M : xM) (Q : Option Value → xM → Prop), xW xSC 91 19 [.ref a0, .ref a1, .ref a2, .int a3, .int a4, a5] (st) M Q = xW xSC 91 20 [.ref a0, .ref a1, .ref a2, .int a3, .int a4, a5] (.int (nI 0) :: st) M Q) ∧
  (∀ (a0 : Nat) (a1 : Nat) (a2 : Nat) (a3 : Int32) (a4 : Int32) (a5 : Value) (y0 : Int32) (st : List Value) (M : xM) (Q : Option Value → xM → Prop), xW xSC 91 20 [.ref a0, .ref a1, .ref a2, .int a3, .int a4, a5] (.int y0 :: st) M Q = xW xSC 91 22 [.ref a0, .ref a1, .ref a2, .int a3, .int a4, .int y0] (st) M Q) ∧
  (∀ (a0 : Nat) (a1 : Nat) (a2 : Nat) (a3 : Int32) (a4 : Int32) (a5 : Int32) (st : List Value) (M : xM) (Q : Option Value → xM → Prop), xW xSC 91 24 [.ref a0, .ref a1, .ref a2, .int a3, .int a4, .int a5] (st) M Q = xW xSC 91 25 [.ref a0, .ref a1, .ref a2, .int a3, .int a4, .int a5] (.int (nI 4) :: st) M Q) ∧
  (∀ (a0 : Nat) (a1 : Nat) (a2 : Nat) (a3 : Int32) (a4 : Int32) (a5 : Int32) (y0 : Int32) (y1 : Int32) (st : List Value) (M : xM) (Q : Option Value → xM → Prop), xW xSC 91 25 [.ref a0, .ref a1, .ref a2, .int a3, .int a4, .int a5] (.int y0 :: .int y1 :: st) M Q = if y1 < y0 then xW xSC 91 28 [.ref a0, .ref a1, .ref a2, .int a3, .int a4, .int a5] (st) M Q else xW xSC 91 81 [.ref a0, .ref a1, .ref a2, .int a3, .int a4, .int a5] (st) M Q) ∧
  (∀ (a0 : Nat) (a1 : Nat) (a2 : Nat) (a3 : Int32) (a4 : Int32) (a5 : Int32) (st : List Value) (M : xM) (Q : Option Value → xM → Prop), xW xSC 91 28 [.ref a0, .ref a1, .ref a2, .int a3, .int a4, .int a5] (st) M Q = xW xSC 91 29 [.ref a0, .ref a1, .ref a2, .int a3, .int a4, .int a5] (.ref a2 :: st) M Q) ∧
  (∀ (a0 : Nat) (a1 : Nat) (a2 : Nat) (a3 : Int32) (a4 : Int32) (a5 : Int32) (st : List Value) (M : xM) (Q : Option Value → xM → Prop), xW xSC 91 29 [.ref a0, .ref a1, .ref a2, .int a3, .int a4, .int a5] (st) M Q = xW xSC 91 31 [.ref a0, .ref a1, .ref a2, .int a3, .int a4, .int a5] (.int a5 :: st) M Q) ∧
  (∀ (a0 : Nat) (a1 : Nat) (a2 : Nat) (a3 : Int32) (a4 : Int32) (a5 : Int32) (y0 : Int32) (st : List Value) (M : xM) (Q : Option Value → xM → Prop), xW xSC 91 31 [.ref a0, .ref a1, .ref a2, .int a3, .int a4, .int a5] (.int y0 :: .ref 31 :: st) M Q = xW xSC 91 34 [.ref a0, .ref a1, .ref a2, .int a3, .int a4, .int a5] (st) (xup M 31 2 y0) Q) ∧
  (∀ (a0 : Nat) (a1 : Nat) (a2 : Nat) (a3 : Int32) (a4 : Int32) (a5 : Int32) (st : List Value) (M : xM) (Q : Option Value → xM → Prop), xW xSC 91 34 [.ref a0, .ref a1, .ref a2, .int a3, .int a4, .int a5] (st) M Q = xW xSC 91 35 [.ref a0, .ref a1, .ref a2, .int a3, .int a4, .int a5] (.ref a0 :: st) M Q) ∧
  (∀ (a0 : Nat) (a1 : Nat) (a2 : Nat) (a3 : Int32) (a4 : Int32) (a5 : Int32) (st : List Value) (M : xM) (Q : Option Value → xM → Prop), xW xSC 91 35 [.ref a0, .ref a1, .ref a2, .int a3, .int a4, .int a5] (.ref 34 :: st) M Q = xW xSC 91 38 [.ref a0, .ref a1, .ref a2, .int a3, .int a4, .int a5] (.ref 35 :: st) M Q) ∧
  (∀ (a0 : Nat) (a1 : Nat) (a2 : Nat) (a3 : Int32) (a4 : Int32) (a5 : Int32) (st : List Value) (M : xM) (Q : Option Value → xM → Prop), xW xSC 91 38 [.ref a0, .ref a1, .ref a2, .int a3, .int a4, .int a5] (st) M Q = xW xSC 91 39 [.ref a0, .ref a1, .ref a2, .int a3, .int a4, .int a5] (.ref a1 :: st) M Q) ∧
  (∀ (a0 : Nat) (a1 : Nat) (a2 : Nat) (a3 : Int32) (a4 : Int32) (a5 : Int32) (st : List Value) (M : xM) (Q : Option Value → xM → Prop), xW xSC 91 39 [.ref a0, .ref a1, .ref a2, .int a3, .int a4, .int a5] (st) M Q = xW xSC 91 40 [.ref a0, .ref a1, .ref a2, .int a3, .int a4, .int a5] (.ref a2 :: st) M Q) ∧
  (∀ (a0 : Nat) (a1 : Nat) (a2 : Nat) (a3 : Int32) (a4 : Int32) (a5 : Int32) (st : List Value) (M : xM) (Q : Option Value → xM → Prop), xW xSC 91 40 [.ref a0, .ref a1, .ref a2, .int a3, .int a4, .int a5] (st) M Q = xW xSC 91 42 [.ref a0, .ref a1, .ref a2, .int a3, .int a4, .int a5] (.int a4 :: st) M Q) ∧
  (∀ (a0 : Nat) (a1 : Nat) (a2 : Nat) (a3 : Int32) (a4 : Int32) (a5 : Int32) (st : List Value) (M : xM) (Q : Option Value → xM → Prop), xW xSC 91 42 [.ref a0, .ref a1, .ref a2, .int a3, .int a4, .int a5] (st) M Q = xW xSC 91 43 [.ref a0, .ref a1, .ref a2, .int a3, .int a4, .int a5] (.int (nI 1) :: st) M Q) ∧
  (∀ (a0 : Nat) (a1 : Nat) (a2 : Nat) (a3 : Int32) (a4 : Int32) (a5 : Int32) (y0 : Int32) (y1 : Int32) (st : List Value) (M : xM) (Q : Option Value → xM → Prop), xW xSC 91 43 [.ref a0, .ref a1, .ref a2, .int a3, .int a4, .int a5] (.int y0 :: .int y1 :: st) M Q = xW xSC 91 44 [.ref a0, .ref a1, .ref a2, .int a3, .int a4, .int a5] (.int (y1 >>> (y0 &&& nI 31)) :: st) M Q) ∧
  (∀ (a0 : Nat) (a1 : Nat) (a2 : Nat) (a3 : Int32) (a4 : Int32) (a5 : Int32) (st : List Value) (M : xM) (Q : Option Value → xM → Prop), xW xSC 91 44 [.ref a0, .ref a1, .ref a2, .int a3, .int a4, .int a5] (st) M Q = xW xSC 91 46 [.ref a0, .ref a1, .ref a2, .int a3, .int a4, .int a5] (.int a4 :: st) M Q) ∧
  (∀ (a0 : Nat) (a1 : Nat) (a2 : Nat) (a3 : Int32) (a4 : Int32) (a5 : Int32) (st : List Value) (M : xM) (Q : Option Value → xM → Prop), xW xSC 91 46 [.ref a0, .ref a1, .ref a2, .int a3, .int a4, .int a5] (st) M Q = xW xSC 91 47 [.ref a0, .ref a1, .ref a2, .int a3, .int a4, .int a5] (.int (nI 1) :: st) M Q) ∧
  (∀ (a0 : Nat) (a1 : Nat) (a2 : Nat) (a3 : Int32) (a4 : Int32) (a5 : Int32) (y0 : Int32) (y1 : Int32) (st : List Value) (M : xM) (Q : Option Value → xM → Prop), xW xSC 91 47 [.ref a0, .ref a1, .ref a2, .int a3, .int a4, .int a5] (.int y0 :: .int y1 :: st) M Q = xW xSC 91 48 [.ref a0, .ref a1, .ref a2, .int a3, .int a4, .int a5] (.int (y1 &&& y0) :: st) M Q) ∧
  (∀ (a0 : Nat) (a1 : Nat) (a2 : Nat) (a3 : Int32) (a4 : Int32) (a5 : Int32) (y0 : Int32) (y1 : Int32) (y2 : Nat) (y3 : Nat) (M : xM) (Q : Option Value → xM → Prop), xW xSC 91 48 [.ref a0, .ref a1, .ref a2, .int a3, .int a4, .int a5] (.int y0 :: .int y1 :: .ref y2 :: .ref y3 :: .ref 35 :: []) M Q = xW xSC 50 0 [.ref 35, .ref y3, .ref y2, .int y1, .int y0, .null, .null] [] M (fun v M' => xW xSC 91 51 [.ref a0, .ref a1, .ref a2, .int a3, .int a4, .int a5] (xpush v []) M' Q)) ∧
  (∀ (a0 : Nat) (a1 : Nat) (a2 : Nat) (a3 : Int32) (a4 : Int32) (a5 : Int32) (st : List Value) (M : xM) (Q : Option Value → xM → Prop), xW xSC 91 51 [.ref a0, .ref a1, .ref a2, .int a3, .int a4, .int a5] (st) M Q = xW xSC 91 52 [.ref a0, .ref a1, .ref a2, .int a3, .int a4, .int a5] (.ref a0 :: st) M Q) ∧
  (∀ (a0 : Nat) (a1 : Nat) (a2 : Nat) (a3 : Int32) (a4 : Int32) (a5 : Int32) (st : List Value) (M : xM) (Q : Option Value → xM → Prop), xW xSC 91 52 [.ref a0, .ref a1, .ref a2, .int a3, .int a4, .int a5] (.ref 34 :: st) M Q = xW xSC 91 55 [.ref a0, .ref a1, .ref a2, .int a3, .int a4, .int a5] (.ref 36 :: st) M Q) ∧
  (∀ (a0 : Nat) (a1 : Nat) (a2 : Nat) (a3 : Int32) (a4 : Int32) (a5 : Int32) (st : List Value) (M : xM) (Q : Option Value → xM → Prop), xW xSC 91 55 [.ref a0, .ref a1, .ref a2, .int a3, .int a4, .int a5] (st) M Q = xW xSC 91 57 [.ref a0, .ref a1, .ref a2, .int a3, .int a4, .int a5] (.int a4 :: st) M Q) ∧
  (∀ (a0 : Nat) (a1 : Nat) (a2 : Nat) (a3 : Int32) (a4 : Int32) (a5 : Int32) (st : List Value) (M : xM) (Q : Option Value → xM → Prop), xW xSC 91 57 [.ref a0, .ref a1, .ref a2, .int a3, .int a4, .int a5] (st) M Q = xW xSC 91 58 [.ref a0, .ref a1, .ref a2, .int a3, .int a4, .int a5] (.int (nI 4) :: st) M Q) ∧
  (∀ (a0 : Nat) (a1 : Nat) (a2 : Nat) (a3 : Int32) (a4 : Int32) (a5 : Int32) (y0 : Int32) (y1 : Int32) (st : List Value) (M : xM) (Q : Option Value → xM → Prop), xW xSC 91 58 [.ref a0, .ref a1, .ref a2, .int a3, .int a4, .int a5] (.int y0 :: .int y1 :: st) M Q = xW xSC 91 59 [.ref a0, .ref a1, .ref a2, .int a3, .int a4, .int a5] (.int (y1 * y0) :: st) M Q) ∧
  (∀ (a0 : Nat) (a1 : Nat) (a2 : Nat) (a3 : Int32) (a4 : Int32) (a5 : Int32) (st : List Value) (M : xM) (Q : Option Value → xM → Prop), xW xSC 91 59 [.ref a0, .ref a1, .ref a2, .int a3, .int a4, .int a5] (st) M Q = xW xSC 91 61 [.ref a0, .ref a1, .ref a2, .int a3, .int a4, .int a5] (.int a5 :: st) M Q) ∧
  (∀ (a0 : Nat) (a1 : Nat) (a2 : Nat) (a3 : Int32) (a4 : Int32) (a5 : Int32) (y0 : Int32) (y1 : Int32) (st : List Value) (M : xM) (Q : Option Value → xM → Prop), xW xSC 91 61 [.ref a0, .ref a1, .ref a2, .int a3, .int a4, .int a5] (.int y0 :: .int y1 :: st) M Q = xW xSC 91 62 [.ref a0, .ref a1, .ref a2, .int a3, .int a4, .int a5] (.int (y1 + y0) :: st) M Q) ∧
  (∀ (a0 : Nat) (a1 : Nat) (a2 : Nat) (a3 : Int32) (a4 : Int32) (a5 : Int32) (st : List Value) (M : xM) (Q : Option Value → xM → Prop), xW xSC 91 62 [.ref a0, .ref a1, .ref a2, .int a3, .int a4, .int a5] (st) M Q = xW xSC 91 63 [.ref a0, .ref a1, .ref a2, .int a3, .int a4, .int a5] (.ref a0 :: st) M Q) ∧
  (∀ (a0 : Nat) (a1 : Nat) (a2 : Nat) (a3 : Int32) (a4 : Int32) (a5 : Int32) (st : List Value) (M : xM) (Q : Option Value → xM → Prop), xW xSC 91 63 [.ref a0, .ref a1, .ref a2, .int a3, .int a4, .int a5] (.ref 34 :: st) M Q = xW xSC 91 66 [.ref a0, .ref a1, .ref a2, .int a3, .int a4, .int a5] (.ref 35 :: st) M Q) ∧
  (∀ (a0 : Nat) (a1 : Nat) (a2 : Nat) (a3 : Int32) (a4 : Int32) (a5 : Int32) (st : List Value) (M : xM) (Q : Option Value → xM → Prop), xW xSC 91 66 [.ref a0, .ref a1, .ref a2, .int a3, .int a4, .int a5] (st) M Q = xW xSC 91 69 [.ref a0, .ref a1, .ref a2, .int a3, .int a4, .int a5] (.int (nI 1000) :: st) M Q) ∧
  (∀ (a0 : Nat) (a1 : Nat) (a2 : Nat) (a3 : Int32) (a4 : Int32) (a5 : Int32) (y0 : Int32) (y2 : Int32) (y3 : Nat) (M : xM) (Q : Option Value → xM → Prop), xW xSC 91 69 [.ref a0, .ref a1, .ref a2, .int a3, .int a4, .int a5] (.int y0 :: .ref 35 :: .int y2 :: .ref y3 :: []) M Q = xW xSC 55 0 [.ref 35, .int y0] [] M (fun v M' => xW xSC 91 72 [.ref a0, .ref a1, .ref a2, .int a3, .int a4, .int a5] (xpush v [.int y2, .ref y3]) M' Q)) ∧
  (∀ (a0 : Nat) (a1 : Nat) (a2 : Nat) (a3 : Int32) (a4 : Int32) (a5 : Int32) (y0 : Int32) (y1 : Int32) (y2 : Nat) (M : xM) (Q : Option Value → xM → Prop), xW xSC 91 72 [.ref a0, .ref a1, .ref a2, .int a3, .int a4, .int a5] (.int y0 :: .int y1 :: .ref y2 :: []) M Q = xW xSC 1 0 [.ref y2, .int y1, .int y0] [] M (fun v M' => xW xSC 91 75 [.ref a0, .ref a1, .ref a2, .int a3, .int a4, .int a5] (xpush v []) M' Q)) ∧
  (∀ (a0 : Nat) (a1 : Nat) (a2 : Nat) (a3 : Int32) (a4 : Int32) (a5 : Int32) (st : List Value) (M : xM) (Q : Option Value → xM → Prop), xW xSC 91 75 [.ref a0, .ref a1, .ref a2, .int a3, .int a4, .int a5] (st) M Q = xW xSC 91 78 [.ref a0, .ref a1, .ref a2, .int a3, .int a4, .int (a5 + nI 1)] (st) M Q) ∧
  (∀ (a0 : Nat) (a1 : Nat) (a2 : Nat) (a3 : Int32) (a4 : Int32) (a5 : Int32) (st : List Value) (M : xM) (Q : Option Value → xM → Prop), xW xSC 91 78 [.ref a0, .ref a1, .ref a2, .int a3, .int a4, .int a5] (st) M Q = xW xSC 91 22 [.ref a0, .ref a1, .ref a2, .int a3, .int a4, .int a5] (st) M Q) ∧
  (∀ (a0 : Nat) (a1 : Nat) (a2 : Nat) (a3 : Int32) (a4 : Int32) (a5 : Int32) (st : List Value) (M : xM) (Q : Option Value → xM → Prop), xW xSC 91 81 [.ref a0, .ref a1, .ref a2, .int a3, .int a4, .int a5] (st) M Q = xW xSC 91 84 [.ref a0, .ref a1, .ref a2, .int a3, .int (a4 + nI 1), .int a5] (st) M Q) ∧
  (∀ (a0 : Nat) (a1 : Nat) (a2 : Nat) (a3 : Int32) (a4 : Int32) (a5 : Int32) (st : List Value) (M : xM) (Q : Option Value → xM → Prop), xW xSC 91 84 [.ref a0, .ref a1, .ref a2, .int a3, .int a4, .int a5] (st) M Q = xW xSC 91 8 [.ref a0, .ref a1, .ref a2, .int a3, .int a4, .int a5] (st) M Q) ∧
  (∀ (a0 : Nat) (a1 : Nat) (a2 : Nat) (a3 : Int32) (a4 : Int32) (a5 : Value) (st : List Value) (M : xM) (Q : Option Value → xM → Prop), xW xSC 91 87 [.ref a0, .ref a1, .ref a2, .int a3, .int a4, a5] (st) M Q = xW xSC 91 88 [.ref a0, .ref a1, .ref a2, .int a3, .int a4, a5] (.ref a2 :: st) M Q) ∧
  (∀ (a0 : Nat) (a1 : Nat) (a2 : Nat) (a3 : Int32) (a4 : Int32) (a5 : Value) (st : List Value) (M : xM) (Q : Option Value → xM → Prop), xW xSC 91 88 [.ref a0, .ref a1, .ref a2, .int a3, .int a4, a5] (st) M Q = xW xSC 91 89 [.ref a0, .ref a1, .ref a2, .int a3, .int a4, a5] (.int a3 :: st) M Q) ∧
  (∀ (a0 : Nat) (a1 : Nat) (a2 : Nat) (a3 : Int32) (a4 : Int32) (a5 : Value) (y0 : Int32) (st : List Value) (M : xM) (Q : Option Value → xM → Prop), xW xSC 91 89 [.ref a0, .ref a1, .ref a2, .int a3, .int a4, a5] (.int y0 :: .ref 31 :: st) M Q = xW xSC 91 92 [.ref a0, .ref a1, .ref a2, .int a3, .int a4, a5] (st) (xup M 31 2 y0) Q) ∧
  (∀ (a0 : Nat) (a1 : Nat) (a2 : Nat) (a3 : Int32) (a4 : Int32) (a5 : Value) (M : xM) (Q : Option Value → xM → Prop), xW xSC 91 92 [.ref a0, .ref a1, .ref a2, .int a3, .int a4, a5] ([]) M Q = Q none M) :=
  ⟨fun a0 a1 a2 a3 a4 a5 st M Q => xw_s rfl rfl,
  fun a0 a1 a2 a3 a4 a5 st M Q => xw_s rfl rfl,
  fun a0 a1 a2 a3 a4 a5 y0 st M Q => xw_s rfl rfl,
  fun a0 a1 a2 a3 a4 a5 st M Q => xw_s rfl rfl,
  fun a0 a1 a2 a3 a4 a5 y0 st M Q => xw_s rfl rfl,
  fun a0 a1 a2 a3 a4 a5 st M Q => xw_s rfl rfl,
  fun a0 a1 a2 a3 a4 a5 st M Q => xw_s rfl rfl,
  fun a0 a1 a2 a3 a4 a5 st M Q => xw_s rfl rfl,
  fun a0 a1 a2 a3 a4 a5 y0 y1 st M Q => xw_s rfl rfl,
  fun a0 a1 a2 a3 a4 a5 y0 y1 st M Q => xw_brn (c0 := y0 ≤ y1) (c1 := y1 < y0) rfl rfl (xge _ _),
  fun a0 a1 a2 a3 a4 a5 st M Q => xw_s rfl rfl,
  fun a0 a1 a2 a3 a4 a5 y0 st M Q => xw_s rfl rfl,
  fun a0 a1 a2 a3 a4 a5 st M Q => xw_s rfl rfl,
  fun a0 a1 a2 a3 a4 a5 y0 y1 st M Q => xw_brn (c0 := y0 ≤ y1) (c1 := y1 < y0) rfl rfl (xge _ _),
  fun a0 a1 a2 a3 a4 a5 st M Q => xw_s rfl rfl,
  fun a0 a1 a2 a3 a4 a5 st M Q => xw_s rfl rfl,
  fun a0 a1 a2 a3 a4 a5 y0 st M Q => xw_s rfl rfl,
  fun a0 a1 a2 a3 a4 a5 st M Q => xw_s rfl rfl,
  fun a0 a1 a2 a3 a4 a5 st M Q => xw_s rfl rfl,
  fun a0 a1 a2 a3 a4 a5 st M Q => xw_s rfl rfl,
  fun a0 a1 a2 a3 a4 a5 st M Q => xw_s rfl rfl,
  fun a0 a1 a2 a3 a4 a5 st M Q => xw_s rfl rfl,
  fun a0 a1 a2 a3 a4 a5 st M Q => xw_s rfl rfl,
  fun a0 a1 a2 a3 a4 a5 y0 y1 st M Q => xw_s rfl rfl,
  fun a0 a1 a2 a3 a4 a5 st M Q => xw_s rfl rfl,
  fun a0 a1 a2 a3 a4 a5 st M Q => xw_s rfl rfl,
  fun a0 a1 a2 a3 a4 a5 y0 y1 st M Q => xw_s rfl rfl,
  fun a0 a1 a2 a3 a4 a5 y0 y1 y2 y3 M Q => xw_call rfl rfl rfl,
  fun a0 a1 a2 a3 a4 a5 st M Q => xw_s rfl rfl,
  fun a0 a1 a2 a3 a4 a5 st M Q => xw_s rfl rfl,
  fun a0 a1 a2 a3 a4 a5 st M Q => xw_s rfl rfl,
  fun a0 a1 a2 a3 a4 a5 st M Q => xw_s rfl rfl,
  fun a0 a1 a2 a3 a4 a5 y0 y1 st M Q => xw_s rfl rfl,
  fun a0 a1 a2 a3 a4 a5 st M Q => xw_s rfl rfl,
  fun a0 a1 a2 a3 a4 a5 y0 y1 st M Q => xw_s rfl rfl,
  fun a0 a1 a2 a3 a4 a5 st M Q => xw_s rfl rfl,
  fun a0 a1 a2 a3 a4 a5 st M Q => xw_s rfl rfl,
  fun a0 a1 a2 a3 a4 a5 st M Q => xw_s rfl rfl,
  fun a0 a1 a2 a3 a4 a5 y0 y2 y3 M Q => xw_call rfl rfl rfl,
  fun a0 a1 a2 a3 a4 a5 y0 y1 y2 M Q => xw_call rfl rfl rfl,
  fun a0 a1 a2 a3 a4 a5 st M Q => xw_s rfl rfl,
  fun a0 a1 a2 a3 a4 a5 st M Q => xw_s rfl rfl,
  fun a0 a1 a2 a3 a4 a5 st M Q => xw_s rfl rfl,
  fun a0 a1 a2 a3 a4 a5 st M Q => xw_s rfl rfl,
  fun a0 a1 a2 a3 a4 a5 st M Q => xw_s rfl rfl,
  fun a0 a1 a2 a3 a4 a5 st M Q => xw_s rfl rfl,
  fun a0 a1 a2 a3 a4 a5 y0 st M Q => xw_s rfl rfl,
  fun a0 a1 a2 a3 a4 a5 M Q => xw_retv rfl rfl⟩
set_option maxRecDepth 20000 in
theorem h91_8 :
  (∀ (a0 : Nat) (a1 : Nat) (a2 : Nat) (a3 : Int32) (a4 : Int32) (a5 : Value) (st : List Value) (M : xM) (Q : Option Value → xM → Prop), xW xSC 91 8 [.ref a0, .ref a1, .ref a2, .int a3, .int a4, a5] (st) M Q = xW xSC 91 10 [.ref a0, .ref a1, .ref a2, .int a3, .int a4, a5] (.int a4 :: st) M Q) :=
  fun a0 a1 a2 a3 a4 a5 st M Q => xw_s rfl rfl
set_option maxRecDepth 20000 in
theorem h91_22 :
  (∀ (a0 : Nat) (a1 : Nat) (a2 : Nat) (a3 : Int32) (a4 : Int32) (a5 : Int32) (st : List Value) (M : xM) (Q : Option Value → xM → Prop), xW xSC 91 22 [.ref a0, .ref a1, .ref a2, .int a3, .int a4, .int a5] (st) M Q = xW xSC 91 24 [.ref a0, .ref a1, .ref a2, .int a3, .int a4, .int a5] (.int a5 :: st) M Q) :=
  fun a0 a1 a2 a3 a4 a5 st M Q => xw_s rfl rfl
theorem j91 : True := trivial

set_option maxRecDepth 20000 in
theorem s92 :
  (∀ (a0 : Int32) (a1 : Nat) (a2 : Value) (st : List Value) (M : xM) (Q : Option Value → xM → Prop), xW xSC 92 0 [.int a0, .ref a1, a2] (st) M Q = xW xSC 92 1 [.int a0, .ref a1, a2] (.ref a1 :: st) M Q) ∧
  (∀ (a0 : Int32) (a1 : Nat) (a2 : Value) (st : List Value) (M : xM) (Q : Option Value → xM → Prop), xW xSC 92 1 [.int a0, .ref a1, a2] (st) M Q = xW xSC 92 3 [.int a0, .ref a1, a2] (.int (nI 1000000) :: st) M Q) ∧
  (∀ (a0 : Int32) (a1 : Nat) (a2 : Value) (y0 : Int32) (y1 : Nat) (M : xM) (Q : Option Value → xM → Prop), xW xSC 92 3 [.int a0, .ref a1, a2] (.int y0 :: .ref y1 :: []) M Q = xW xSC 3 0 [.ref y1, .int y0, .null] [] M (fun v M' => xW xSC 92 6 [.int a0, .ref a1, a2] (xpush v []) M' Q)) ∧
  (∀ (a0 : Int32) (a1 : Nat) (a2 : Value) (st : List Value) (M : xM) (Q : Option Value → xM → Prop), xW xSC 92 6 [.int a0, .ref a1, a2] (st) M Q = xW xSC 92 7 [.int a0, .ref a1, a2] (.int (nI 0) :: st) M Q) ∧
  (∀ (a0 : Int32) (a1 : Nat) (a2 : Value) (y0 : Int32) (st : List Value) (M : xM) (Q : Option Value → xM → Prop), xW xSC 92 7 [.int a0, .ref a1, a2] (.int y0 :: st) M Q = xW xSC 92 8 [.int a0, .ref a1, .int y0] (st) M Q) ∧
  (∀ (a0 : Int32) (a1 : Nat) (a2 : Int32) (st : List Value) (M : xM) (Q : Option Value → xM → Prop), xW xSC 92 9 [.int a0, .ref a1, .int a2] (st) M Q = xW xSC 92 10 [.int a0, .ref a1, .int a2] (.int (nI 4) :: st) M Q) ∧
  (∀ (a0 : Int32) (a1 : Nat) (a2 : Int32) (y0 : Int32) (y1 : Int32) (st : List Value) (M : xM) (Q : Option Value → xM → Prop), xW xSC 92 10 [.int a0, .ref a1, .int a2] (.int y0 :: .int y1 :: st) M Q = if y1 < y0 then xW xSC 92 13 [.int a0, .ref a1, .int a2] (st) M Q else xW xSC 92 29 [.int a0, .ref a1, .int a2] (st) M Q) ∧
  (∀ (a0 : Int32) (a1 : Nat) (a2 : Int32) (st : List Value) (M : xM) (Q : Option Value → xM → Prop), xW xSC 92 13 [.int a0, .ref a1, .int a2] (st) M Q = xW xSC 92 14 [.int a0, .ref a1, .int a2] (.ref a1 :: st) M Q) ∧
  (∀ (a0 : Int32) (a1 : Nat) (a2 : Int32) (st : List Value) (M : xM) (Q : Option Value → xM → Prop), xW xSC 92 14 [.int a0, .ref a1, .int a2] (st) M Q = xW xSC 92 15 [.int a0, .ref a1, .int a2] (.int a0 :: st) M Q) ∧
  (∀ (a0 : Int32) (a1 : Nat) (a2 : Int32) (st : List Value) (M : xM) (Q : Option Value → xM → Prop), xW xSC 92 15 [.int a0, .ref a1, .int a2] (st) M Q = xW xSC 92 16 [.int a0, .ref a1, .int a2] (.int (nI 4) :: st) M Q) ∧
  (∀ (a0 : Int32) (a1 : Nat) (a2 : Int32) (y0 : Int32) (y1 : Int32) (st : List Value) (M : xM) (Q : Option Value → xM → Prop), xW xSC 92 16 [.int a0, .ref a1, .int a2] (.int y0 :: .int y1 :: st) M Q = xW xSC 92 17 [.int a0, .ref a1, .int a2] (.int (y1 * y0) :: st) M Q) ∧
  (∀ (a0 : Int32) (a1 : Nat) (a2 : Int32) (st : List Value) (M : xM) (Q : Option Value → xM → Prop), xW xSC 92 17 [.int a0, .ref a1, .int a2] (st) M Q = xW xSC 92 18 [.int a0, .ref a1, .int a2] (.int a2 :: st) M Q) ∧
  (∀ (a0 : Int32) (a1 : Nat) (a2 : Int32) (y0 : Int32) (y1 : Int32) (st : List Value) (M : xM) (Q : Option Value → xM → Prop), xW xSC 92 18 [.int a0, .ref a1, .int a2] (.int y0 :: .int y1 :: st) M Q = xW xSC 92 19 [.int a0, .ref a1, .int a2] (.int (y1 + y0) :: st) M Q) ∧
  (∀ (a0 : Int32) (a1 : Nat) (a2 : Int32) (st : List Value) (M : xM) (Q : Option Value → xM → Prop), xW xSC 92 19 [.int a0, .ref a1, .int a2] (st) M Q = xW xSC 92 20 [.int a0, .ref a1, .int a2] (.int (nI 0) :: st) M Q) ∧
  (∀ (a0 : Int32) (a1 : Nat) (a2 : Int32) (y0 : Int32) (y1 : Int32) (y2 : Nat) (M : xM) (Q : Option Value → xM → Prop), xW xSC 92 20 [.int a0, .ref a1, .int a2] (.int y0 :: .int y1 :: .ref y2 :: []) M Q = xW xSC 1 0 [.ref y2, .int y1, .int y0] [] M (fun v M' => xW xSC 92 23 [.int a0, .ref a1, .int a2] (xpush v []) M' Q)) ∧
  (∀ (a0 : Int32) (a1 : Nat) (a2 : Int32) (st : List Value) (M : xM) (Q : Option Value → xM → Prop), xW xSC 92 23 [.int a0, .ref a1, .int a2] (st) M Q = xW xSC 92 26 [.int a0, .ref a1, .int (a2 + nI 1)] (st) M Q) ∧
  (∀ (a0 : Int32) (a1 : Nat) (a2 : Int32) (st : List Value) (M : xM) (Q : Option Value → xM → Prop), xW xSC 92 26 [.int a0, .ref a1, .int a2] (st) M Q = xW xSC 92 8 [.int a0, .ref a1, .int a2] (st) M Q) ∧
  (∀ (a0 : Int32) (a1 : Nat) (a2 : Int32) (M : xM) (Q : Option Value → xM → Prop), xW xSC 92 29 [.int a0, .ref a1, .int a2] ([]) M Q = Q none M) :=
  ⟨fun a0 a1 a2 st M Q => xw_s rfl rfl,
  fun a0 a1 a2 st M Q => xw_s rfl rfl,
  fun a0 a1 a2 y0 y1 M Q => xw_call rfl rfl rfl,
  fun a0 a1 a2 st M Q => xw_s rfl rfl,
  fun a0 a1 a2 y0 st M Q => xw_s rfl rfl,
  fun a0 a1 a2 st M Q => xw_s rfl rfl,
  fun a0 a1 a2 y0 y1 st M Q => xw_brn (c0 := y0 ≤ y1) (c1 := y1 < y0) rfl rfl (xge _ _),
  fun a0 a1 a2 st M Q => xw_s rfl rfl,
  fun a0 a1 a2 st M Q => xw_s rfl rfl,
  fun a0 a1 a2 st M Q => xw_s rfl rfl,
  fun a0 a1 a2 y0 y1 st M Q => xw_s rfl rfl,
  fun a0 a1 a2 st M Q => xw_s rfl rfl,
  fun a0 a1 a2 y0 y1 st M Q => xw_s rfl rfl,
  fun a0 a1 a2 st M Q => xw_s rfl rfl,
  fun a0 a1 a2 y0 y1 y2 M Q => xw_call rfl rfl rfl,
  fun a0 a1 a2 st M Q => xw_s rfl rfl,
  fun a0 a1 a2 st M Q => xw_s rfl rfl,
  fun a0 a1 a2 M Q => xw_retv rfl rfl⟩
set_option maxRecDepth 20000 in
theorem h92_8 :
  (∀ (a0 : Int32) (a1 : Nat) (a2 : Int32) (st : List Value) (M : xM) (Q : Option Value → xM → Prop), xW xSC 92 8 [.int a0, .ref a1, .int a2] (st) M Q = xW xSC 92 9 [.int a0, .ref a1, .int a2] (.int a2 :: st) M Q) :=
  fun a0 a1 a2 st M Q => xw_s rfl rfl
theorem j92 : True := trivial

set_option maxRecDepth 20000 in
theorem s93 :
  (∀ (a0 : Nat) (a1 : Nat) (a2 : Nat) (a3 : Value) (a4 : Value) (a5 : Value) (a6 : Value) (a7 : Value) (st : List Value) (M : xM) (Q : Option Value → xM → Prop), xW xSC 93 0 [.ref a0, .ref a1, .ref a2, a3, a4, a5, a6, a7] (st) M Q = xW xSC 93 1 [.ref a0, .ref a1, .ref a2, a3, a4, a5, a6, a7] (.int (nI 0) :: st) M Q) ∧
  (∀ (a0 : Nat) (a1 : Nat) (a2 : Nat) (a3 : Value) (a4 : Value) (a5 : Value) (a6 : Value) (a7 : Value) (y0 : Int32) (st : List Value) (M : xM) (Q : Option Value → xM → Prop), xW xSC 93 1 [.ref a0, .ref a1, .ref a2, a3, a4, a5, a6, a7] (.int y0 :: st) M Q = xW xSC 93 2 [.ref a0, .ref a1, .ref a2, .int y0, a4, a5, a6, a7] (st) M Q) ∧
  (∀ (a0 : Nat) (a1 : Nat) (a2 : Nat) (a3 : Int32) (a4 : Value) (a5 : Value) (a6 : Value) (a7 : Value) (st : List Value) (M : xM) (Q : Option Value → xM → Prop), xW xSC 93 3 [.ref a0, .ref a1, .ref a2, .int a3, a4, a5, a6, a7] (st) M Q = xW xSC 93 4 [.ref a0, .ref a1, .ref a2, .int a3, a4, a5, a6, a7] (.int (nI 2) :: st) M Q) ∧
  (∀ (a0 : Nat) (a1 : Nat) (a2 : Nat) (a3 : Int32) (a4 : Value) (a5 : Value) (a6 : Value) (a7 : Value) (st : List Value) (M : xM) (Q : Option Value → xM → Prop), xW xSC 93 4 [.ref a0, .ref a1, .ref a2, .int a3, a4, a5, a6, a7] (st) M Q = xW xSC 93 5 [.ref a0, .ref a1, .ref a2, .int a3, a4, a5, a6, a7] (.ref a1 :: st) M Q) ∧
  (∀ (a0 : Nat) (a1 : Nat) (a2 : Nat) (a3 : Int32) (a4 : Value) (a5 : Value) (a6 : Value) (a7 : Value) (st : List Value) (M : xM) (Q : Option Value → xM → Prop), xW xSC 93 5 [.ref a0, .ref a1, .ref a2, .int a3, a4, a5, a6, a7] (.ref 9 :: st) M Q = xW xSC 93 8 [.ref a0, .ref a1, .ref a2, .int a3, a4, a5, a6, a7] (.int (M 9 1) :: st) M Q) ∧
  (∀ (a0 : Nat) (a1 : Nat) (a2 : Nat) (a3 : Int32) (a4 : Value) (a5 : Value) (a6 : Value) (a7 : Value) (y0 : Int32) (y1 : Int32) (st : List Value) (M : xM) (Q : Option Value → xM → Prop), xW xSC 93 8 [.ref a0, .ref a1, .ref a2, .int a3, a4, a5, a6, a7] (.int y0 :: .int y1 :: st) M Q = xW xSC 93 9 [.ref a0, .ref a1, .ref a2, .int a3, a4, a5, a6, a7] (.int (y1 * y0) :: st) M Q) ∧
  (∀ (a0 : Nat) (a1 : Nat) (a2 : Nat) (a3 : Int32) (a4 : Value) (a5 : Value) (a6 : Value) (a7 : Value) (y0 : Int32) (y1 : Int32) (st : List Value) (M : xM) (Q : Option Value → xM → Prop), xW xSC 93 9 [.ref a0, .ref a1, .ref a2, .int a3, a4, a5, a6, a7] (.int y0 :: .int y1 :: st) M Q = if y1 < y0 then xW xSC 93 12 [.ref a0, .ref a1, .ref a2, .int a3, a4, a5, a6, a7] (st) M Q else xW xSC 93 107 [.ref a0, .ref a1, .ref a2, .int a3, a4, a5, a6, a7] (st) M Q) ∧
  (∀ (a0 : Nat) (a1 : Nat) (a2 : Nat) (a3 : Int32) (a4 : Value) (a5 : Value) (a6 : Value) (a7 : Value) (st : List Value) (M : xM) (Q : Option Value → xM → Prop), xW xSC 93 12 [.ref a0, .ref a1, .ref a2, .int a3, a4, a5, a6, a7] (st) M Q = xW xSC 93 13 [.ref a0, .ref a1, .ref a2, .int a3, a4, a5, a6, a7] (.ref a2 :: st) M Q) ∧
  (∀ (a0 : Nat) (a1 : Nat) (a2 : Nat) (a3 : Int32) (a4 : Value) (a5 : Value) (a6 : Value) (a7 : Value) (st : List Value) (M : xM) (Q : Option Value → xM → Prop), xW xSC 93 13 [.ref a0, .ref a1, .ref a2, .int a3, a4, a5, a6, a7] (st) M Q = xW xSC 93 14 [.ref a0, .ref a1, .ref a2, .int a3, a4, a5, a6, a7] (.ref a1 :: st) M Q) ∧
  (∀ (a0 : Nat) (a1 : Nat) (a2 : Nat) (a3 : Int32) (a4 : Value) (a5 : Value) (a6 : Value) (a7 : Value) (st : List Value) (M : xM) (Q : Option Value → xM → Prop), xW xSC 93 14 [.ref a0, .ref a1, .ref a2, .int a3, a4, a5, a6, a7] (st) M Q = xW xSC 93 15 [.ref a0, .ref a1, .ref a2, .int a3, a4, a5, a6, a7] (.int a3 :: st) M Q) ∧
  (∀ (a0 : Nat) (a1 : Nat) (a2 : Nat) (a3 : Int32) (a4 : Value) (a5 : Value) (a6 : Value) (a7 : Value) (st : List Value) (M : xM) (Q : Option Value → xM → Prop), xW xSC 93 15 [.ref a0, .ref a1, .ref a2, .int a3, a4, a5, a6, a7] (st) M Q = xW xSC 93 16 [.ref a0, .ref a1, .ref a2, .int a3, a4, a5, a6, a7] (.int (nI 1) :: st) M Q) ∧
  (∀ (a0 : Nat) (a1 : Nat) (a2 : Nat) (a3 : Int32) (a4 : Value) (a5 : Value) (a6 : Value) (a7 : Value) (y0 : Int32) (y1 : Int32) (st : List Value) (M : xM) (Q : Option Value → xM → Prop), xW xSC 93 16 [.ref a0, .ref a1, .ref a2, .int a3, a4, a5, a6, a7] (.int y0 :: .int y1 :: st) M Q = xW xSC 93 17 [.ref a0, .ref a1, .ref a2, .int a3, a4, a5, a6, a7] (.int (y1 >>> (y0 &&& nI 31)) :: st) M Q) ∧
  (∀ (a0 : Nat) (a1 : Nat) (a2 : Nat) (a3 : Int32) (a4 : Value) (a5 : Value) (a6 : Value) (a7 : Value) (st : List Value) (M : xM) (Q : Option Value → xM → Prop), xW xSC 93 17 [.ref a0, .ref a1, .ref a2, .int a3, a4, a5, a6, a7] (st) M Q = xW xSC 93 18 [.ref a0, .ref a1, .ref a2, .int a3, a4, a5, a6, a7] (.int a3 :: st) M Q) ∧
  (∀ (a0 : Nat) (a1 : Nat) (a2 : Nat) (a3 : Int32) (a4 : Value) (a5 : Value) (a6 : Value) (a7 : Value) (st : List Value) (M : xM) (Q : Option Value → xM → Prop), xW xSC 93 18 [.ref a0, .ref a1, .ref a2, .int a3, a4, a5, a6, a7] (st) M Q = xW xSC 93 19 [.ref a0, .ref a1, .ref a2, .int a3, a4, a5, a6, a7] (.int (nI 1) :: st) M Q) ∧
  (∀ (a0 : Nat) (a1 : Nat) (a2 : Nat) (a3 : Int32) (a4 : Value) (a5 : Value) (a6 : Value) (a7 : Value) (y0 : Int32) (y1 : Int32) (st : List Value) (M : xM) (Q : Option Value → xM → Prop), xW xSC 93 19 [.ref a0, .ref a1, .ref a2, .int a3, a4, a5, a6, a7] (.int y0 :: .int y1 :: st) M Q = xW xSC 93 20 [.ref a0, .ref a1, .ref a2, .int a3, a4, a5, a6, a7] (.int (y1 &&& y0) :: st) M Q) ∧
  (∀ (a0 : Nat) (a1 : Nat) (a2 : Nat) (a3 : Int32) (a4 : Value) (a5 : Value) (a6 : Value) (a7 : Value) (y0 : Int32) (y1 : Int32) (y3 : Nat) (M : xM) (Q : Option Value → xM → Prop), xW xSC 93 20 [.ref a0, .ref a1, .ref a2, .int a3, a4, a5, a6, a7] (.int y0 :: .int y1 :: .ref 9 :: .ref y3 :: []) M Q = xW xSC 37 0 [.ref 9, .int y1, .int y0] [] M (fun v M' => xW xSC 93 23 [.ref a0, .ref a1, .ref a2, .int a3, a4, a5, a6, a7] (xpush v [.ref y3]) M' Q)) ∧
  (∀ (a0 : Nat) (a1 : Nat) (a2 : Nat) (a3 : Int32) (a4 : Value) (a5 : Value) (a6 : Value) (a7 : Value) (y0 : Int32) (M : xM) (Q : Option Value → xM → Prop), xW xSC 93 23 [.ref a0, .ref a1, .ref a2, .int a3, a4, a5, a6, a7] (.int y0 :: .ref 31 :: []) M Q = xW xSC 87 0 [.ref 31, .int y0] [] M (fun v M' => xW xSC 93 26 [.ref a0, .ref a1, .ref a2, .int a3, a4, a5, a6, a7] (xpush v []) M' Q)) ∧
  (∀ (a0 : Nat) (a1 : Nat) (a2 : Nat) (a3 : Int32) (a4 : Value) (a5 : Value) (a6 : Value) (a7 : Value) (y0 : Int32) (st : List Value) (M : xM) (Q : Option Value → xM → Prop), xW xSC 93 26 [.ref a0, .ref a1, .ref a2, .int a3, a4, a5, a6, a7] (.int y0 :: st) M Q = if y0 = nI 0 then xW xSC 93 29 [.ref a0, .ref a1, .ref a2, .int a3, a4, a5, a6, a7] (st) M Q else xW xSC 93 32 [.ref a0, .ref a1, .ref a2, .int a3, a4, a5, a6, a7] (st) M Q) ∧
  (∀ (a0 : Nat) (a1 : Nat) (a2 : Nat) (a3 : Int32) (a4 : Value) (a5 : Value) (a6 : Value) (a7 : Value) (st : List Value) (M : xM) (Q : Option Value → xM → Prop), xW xSC 93 29 [.ref a0, .ref a1, .ref a2, .int a3, a4, a5, a6, a7] (st) M Q = xW xSC 93 101 [.ref a0, .ref a1, .ref a2, .int a3, a4, a5, a6, a7] (st) M Q) ∧
  (∀ (a0 : Nat) (a1 : Nat) (a2 : Nat) (a3 : Int32) (a4 : Value) (a5 : Value) (a6 : Value) (a7 : Value) (st : List Value) (M : xM) (Q : Option Value → xM → Prop), xW xSC 93 32 [.ref a0, .ref a1, .ref a2, .int a3, a4, a5, a6, a7] (st) M Q = xW xSC 93 33 [.ref a0, .ref a1, .ref a2, .int a3, a4, a5, a6, a7] (.ref a1 :: st) M Q) ∧
  (∀ (a0 : Nat) (a1 : Nat) (a2 : Nat) (a3 : Int32) (a4 : Value) (a5 : Value) (a6 : Value) (a7 : Value) (st : List Value) (M : xM) (Q : Option Value → xM → Prop), xW xSC 93 33 [.ref a0, .ref a1, .ref a2, .int a3, a4, a5, a6, a7] (st) M Q = xW xSC 93 34 [.ref a0, .ref a1, .ref a2, .int a3, a4, a5, a6, a7] (.int a3 :: st) M Q) ∧
  (∀ (a0 : Nat) (a1 : Nat) (a2 : Nat) (a3 : Int32) (a4 : Value) (a5 : Value) (a6 : Value) (a7 : Value) (st : List Value) (M : xM) (Q : Option Value → xM → Prop), xW xSC 93 34 [.ref a0, .ref a1, .ref a2, .int a3, a4, a5, a6, a7] (st) M Q = xW xSC 93 35 [.ref a0, .ref a1, .ref a2, .int a3, a4, a5, a6, a7] (.int (nI 1) :: st) M Q) ∧
  (∀ (a0 : Nat) (a1 : Nat) (a2 : Nat) (a3 : Int32) (a4 : Value) (a5 : Value) (a6 : Value) (a7 : Value) (y0 : Int32) (y1 : Int32) (st : List Value) (M : xM) (Q : Option Value → xM → Prop), xW xSC 93 35 [.ref a0, .ref a1, .ref a2, .int a3, a4, a5, a6, a7] (.int y0 :: .int y1 :: st) M Q = xW xSC 93 36 [.ref a0, .ref a1, .ref a2, .int a3, a4, a5, a6, a7] (.int (y1 >>> (y0 &&& nI 31)) :: st) M Q) ∧
  (∀ (a0 : Nat) (a1 : Nat) (a2 : Nat) (a3 : Int32) (a4 : Value) (a5 : Value) (a6 : Value) (a7 : Value) (st : List Value) (M : xM) (Q : Option Value → xM → Prop), xW xSC 93 36 [.ref a0, .ref a1, .ref a2, .int a3, a4, a5, a6, a7] (st) M Q = xW xSC 93 37 [.ref a0, .ref a1, .ref a2, .int a3, a4, a5, a6, a7] (.int a3 :: st) M Q) ∧
  (∀ (a0 : Nat) (a1 : Nat) (a2 : Nat) (a3 : Int32) (a4 : Value) (a5 : Value) (a6 : Value) (a7 : Value) (st : List Value) (M : xM) (Q : Option Value → xM → Prop), xW xSC 93 37 [.ref a0, .ref a1, .ref a2, .int a3, a4, a5, a6, a7] (st) M Q = xW xSC 93 38 [.ref a0, .ref a1, .ref a2, .int a3, a4, a5, a6, a7] (.int (nI 1) :: st) M Q) ∧
  (∀ (a0 : Nat) (a1 : Nat) (a2 : Nat) (a3 : Int32) (a4 : Value) (a5 : Value) (a6 : Value) (a7 : Value) (y0 : Int32) (y1 : Int32) (st : List Value) (M : xM) (Q : Option Value → xM → Prop), xW xSC 93 38 [.ref a0, .ref a1, .ref a2, .int a3, a4, a5, a6, a7] (.int y0 :: .int y1 :: st) M Q = xW xSC 93 39 [.ref a0, .ref a1, .ref a2, .int a3, a4, a5, a6, a7] (.int (y1 &&& y0) :: st) M Q) ∧
  (∀ (a0 : Nat) (a1 : Nat) (a2 : Nat) (a3 : Int32) (a4 : Value) (a5 : Value) (a6 : Value) (a7 : Value) (y0 : Int32) (y1 : Int32) (M : xM) (Q : Option Value → xM → Prop), xW xSC 93 39 [.ref a0, .ref a1, .ref a2, .int a3, a4, a5, a6, a7] (.int y0 :: .int y1 :: .ref 9 :: []) M Q = xW xSC 39 0 [.ref 9, .int y1, .int y0] [] M (fun v M' => xW xSC 93 42 [.ref a0, .ref a1, .ref a2, .int a3, a4, a5, a6, a7] (xpush v []) M' Q)) ∧
  (∀ (a0 : Nat) (a1 : Nat) (a2 : Nat) (a3 : Int32) (a4 : Value) (a5 : Value) (a6 : Value) (a7 : Value) (y0 : Int32) (st : List Value) (M : xM) (Q : Option Value → xM → Prop), xW xSC 93 42 [.ref a0, .ref a1, .ref a2, .int a3, a4, a5, a6, a7] (.int y0 :: st) M Q = xW xSC 93 44 [.ref a0, .ref a1, .ref a2, .int a3, .int y0, a5, a6, a7] (st) M Q) ∧
  (∀ (a0 : Nat) (a1 : Nat) (a2 : Nat) (a3 : Int32) (a4 : Int32) (a5 : Value) (a6 : Value) (a7 : Value) (st : List Value) (M : xM) (Q : Option Value → xM → Prop), xW xSC 93 44 [.ref a0, .ref a1, .ref a2, .int a3, .int a4, a5, a6, a7] (st) M Q = xW xSC 93 45 [.ref a0, .ref a1, .ref a2, .int a3, .int a4, a5, a6, a7] (.int (nI 0) :: st) M Q) ∧
  (∀ (a0 : Nat) (a1 : Nat) (a2 : Nat) (a3 : Int32) (a4 : Int32) (a5 : Value) (a6 : Value) (a7 : Value) (y0 : Int32) (st : List Value) (M : xM) (Q : Option Value → xM → Prop), xW xSC 93 45 [.ref a0, .ref a1, .ref a2, .int a3, .int a4, a5, a6, a7] (.int y0 :: st) M Q = xW xSC 93 47 [.ref a0, .ref a1, .ref a2, .int a3, .int a4, .int y0, a6, a7] (st) M Q) ∧
  (∀ (a0 : Nat) (a1 : Nat) (a2 : Nat) (a3 : Int32) (a4 : Int32) (a5 : Int32) (a6 : Value) (a7 : Value) (st : List Value) (M : xM) (Q : Option Value → xM → Prop), xW xSC 93 49 [.ref a0, .ref a1, .ref a2, .int a3, .int a4, .int a5, a6, a7] (st) M Q = xW xSC 93 50 [.ref a0, .ref a1, .ref a2, .int a3, .int a4, .int a5, a6, a7] (.int (nI 4) :: st) M Q) ∧
  (∀ (a0 : Nat) (a1 : Nat) (a2 : Nat) (a3 : Int32) (a4 : Int32) (a5 : Int32) (a6 : Value) (a7 : Value) (y0 : Int32) (y1 : Int32) (st : List Value) (M : xM) (Q : Option Value → xM → Prop), xW xSC 93 50 [.ref a0, .ref a1, .ref a2, .int a3, .int a4, .int a5, a6, a7] (.int y0 :: .int y1 :: st) M Q = if y1 < y0 then xW xSC 93 53 [.ref a0, .ref a1, .ref a2, .int a3, .int a4, .int a5, a6, a7] (st) M Q else xW xSC 93 101 [.ref a0, .ref a1, .ref a2, .int a3, .int a4, .int a5, a6, a7] (st) M Q) ∧
  (∀ (a0 : Nat) (a1 : Nat) (a2 : Nat) (a3 : Int32) (a4 : Int32) (a5 : Int32) (a6 : Value) (a7 : Value) (st : List Value) (M : xM) (Q : Option Value → xM → Prop), xW xSC 93 53 [.ref a0, .ref a1, .ref a2, .int a3, .int a4, .int a5, a6, a7] (st) M Q = xW xSC 93 54 [.ref a0, .ref a1, .ref a2, .int a3, .int a4, .int a5, a6, a7] (.ref a0 :: st) M Q) ∧
  (∀ (a0 : Nat) (a1 : Nat) (a2 : Nat) (a3 : Int32) (a4 : Int32) (a5 : Int32) (a6 : Value) (a7 : Value) (st : List Value) (M : xM) (Q : Option Value → xM → Prop), xW xSC 93 54 [.ref a0, .ref a1, .ref a2, .int a3, .int a4, .int a5, a6, a7] (st) M Q = xW xSC 93 55 [.ref a0, .ref a1, .ref a2, .int a3, .int a4, .int a5, a6, a7] (.ref a1 :: st) M Q) ∧
  (∀ (a0 : Nat) (a1 : Nat) (a2 : Nat) (a3 : Int32) (a4 : Int32) (a5 : Int32) (a6 : Value) (a7 : Value) (st : List Value) (M : xM) (Q : Option Value → xM → Prop), xW xSC 93 55 [.ref a0, .ref a1, .ref a2, .int a3, .int a4, .int a5, a6, a7] (st) M Q = xW xSC 93 56 [.ref a0, .ref a1, .ref a2, .int a3, .int a4, .int a5, a6, a7] (.int a3 :: st) M Q) ∧
  (∀ (a0 : Nat) (a1 : Nat) (a2 : Nat) (a3 : Int32) (a4 : Int32) (a5 : Int32) (a6 : Value) (a7 : Value) (st : List Value) (M : xM) (Q : Option Value → xM → Prop), xW xSC 93 56 [.ref a0, .ref a1, .ref a2, .int a3, .int a4, .int a5, a6, a7] (st) M Q = xW xSC 93 58 [.ref a0, .ref a1, .ref a2, .int a3, .int a4, .int a5, a6, a7] (.int a5 :: st) M Q) ∧
  (∀ (a0 : Nat) (a1 : Nat) (a2 : Nat) (a3 : Int32) (a4 : Int32) (a5 : Int32) (a6 : Value) (a7 : Value) (y0 : Int32) (y1 : Int32) (y2 : Nat) (M : xM) (Q : Option Value → xM → Prop), xW xSC 93 58 [.ref a0, .ref a1, .ref a2, .int a3, .int a4, .int a5, a6, a7] (.int y0 :: .int y1 :: .ref y2 :: .ref 34 :: []) M Q = xW xSC 94 0 [.ref 34, .ref y2, .int y1, .int y0, .null, .null, .null] [] M (fun v M' => xW xSC 93 61 [.ref a0, .ref a1, .ref a2, .int a3, .int a4, .int a5, a6, a7] (xpush v []) M' Q)) ∧
  (∀ (a0 : Nat) (a1 : Nat) (a2 : Nat) (a3 : Int32) (a4 : Int32) (a5 : Int32) (a6 : Value) (a7 : Value) (y0 : Int32) (st : List Value) (M : xM) (Q : Option Value → xM → Prop), xW xSC 93 61 [.ref a0, .ref a1, .ref a2, .int a3, .int a4, .int a5, a6, a7] (.int y0 :: st) M Q = xW xSC 93 63 [.ref a0, .ref a1, .ref a2, .int a3, .int a4, .int a5, .int y0, a7] (st) M Q) ∧
  (∀ (a0 : Nat) (a1 : Nat) (a2 : Nat) (a3 : Int32) (a4 : Int32) (a5 : Int32) (a6 : Int32) (a7 : Value) (st : List Value) (M : xM) (Q : Option Value → xM → Prop), xW xSC 93 63 [.ref a0, .ref a1, .ref a2, .int a3, .int a4, .int a5, .int a6, a7] (st) M Q = xW xSC 93 65 [.ref a0, .ref a1, .ref a2, .int a3, .int a4, .int a5, .int a6, a7] (.int a4 :: st) M Q) ∧
  (∀ (a0 : Nat) (a1 : Nat) (a2 : Nat) (a3 : Int32) (a4 : Int32) (a5 : Int32) (a6 : Int32) (a7 : Value) (st : List Value) (M : xM) (Q : Option Value → xM → Prop), xW xSC 93 65 [.ref a0, .ref a1, .ref a2, .int a3, .int a4, .int a5, .int a6, a7] (st) M Q = xW xSC 93 66 [.ref a0, .ref a1, .ref a2, .int a3, .int a4, .int a5, .int a6, a7] (.int (nI 4) :: st) M Q) ∧
  (∀ (a0 : Nat) (a1 : Nat) (a2 : Nat) (a3 : Int32) (a4 : Int32) (a5 : Int32) (a6 : Int32) (a7 : Value) (y0 : Int32) (y1 : Int32) (st : List Value) (M : xM) (Q : Option Value → xM → Prop), xW xSC 93 66 [.ref a0, .ref a1, .ref a2, .int a3, .int a4, .int a5, .int a6, a7] (.int y0 :: .int y1 :: st) M Q = xW xSC 93 67 [.ref a0, .ref a1, .ref a2, .int a3, .int a4, .int a5, .int a6, a7] (.int (y1 * y0) :: st) M Q) ∧
  (∀ (a0 : Nat) (a1 : Nat) (a2 : Nat) (a3 : Int32) (a4 : Int32) (a5 : Int32) (a6 : Int32) (a7 : Value) (st : List Value) (M : xM) (Q : Option Value → xM → Prop), xW xSC 93 67 [.ref a0, .ref a1, .ref a2, .int a3, .int a4, .int a5, .int a6, a7] (st) M Q = xW xSC 93 69 [.ref a0, .ref a1, .ref a2, .int a3, .int a4, .int a5, .int a6, a7] (.int a5 :: st) M Q) ∧
  (∀ (a0 : Nat) (a1 : Nat) (a2 : Nat) (a3 : Int32) (a4 : Int32) (a5 : Int32) (a6 : Int32) (a7 : Value) (y0 : Int32) (y1 : Int32) (st : List Value) (M : xM) (Q : Option Value → xM → Prop), xW xSC 93 69 [.ref a0, .ref a1, .ref a2, .int a3, .int a4, .int a5, .int a6, a7] (.int y0 :: .int y1 :: st) M Q = xW xSC 93 70 [.ref a0, .ref a1, .ref a2, .int a3, .int a4, .int a5, .int a6, a7] (.int (y1 + y0) :: st) M Q) ∧
  (∀ (a0 : Nat) (a1 : Nat) (a2 : Nat) (a3 : Int32) (a4 : Int32) (a5 : Int32) (a6 : Int32) (a7 : Value) (y0 : Int32) (st : List Value) (M : xM) (Q : Option Value → xM → Prop), xW xSC 93 70 [.ref a0, .ref a1, .ref a2, .int a3, .int a4, .int a5, .int a6, a7] (.int y0 :: st) M Q = xW xSC 93 72 [.ref a0, .ref a1, .ref a2, .int a3, .int a4, .int a5, .int a6, .int y0] (st) M Q) ∧
  (∀ (a0 : Nat) (a1 : Nat) (a2 : Nat) (a3 : Int32) (a4 : Int32) (a5 : Int32) (a6 : Int32) (a7 : Int32) (st : List Value) (M : xM) (Q : Option Value → xM → Prop), xW xSC 93 72 [.ref a0, .ref a1, .ref a2, .int a3, .int a4, .int a5, .int a6, .int a7] (st) M Q = xW xSC 93 73 [.ref a0, .ref a1, .ref a2, .int a3, .int a4, .int a5, .int a6, .int a7] (.ref a0 :: st) M Q) ∧
  (∀ (a0 : Nat) (a1 : Nat) (a2 : Nat) (a3 : Int32) (a4 : Int32) (a5 : Int32) (a6 : Int32) (a7 : Int32) (st : List Value) (M : xM) (Q : Option Value → xM → Prop), xW xSC 93 73 [.ref a0, .ref a1, .ref a2, .int a3, .int a4, .int a5, .int a6, .int a7] (.ref 34 :: st) M Q = xW xSC 93 76 [.ref a0, .ref a1, .ref a2, .int a3, .int a4, .int a5, .int a6, .int a7] (.ref 38 :: st) M Q) ∧
  (∀ (a0 : Nat) (a1 : Nat) (a2 : Nat) (a3 : Int32) (a4 : Int32) (a5 : Int32) (a6 : Int32) (a7 : Int32) (st : List Value) (M : xM) (Q : Option Value → xM → Prop), xW xSC 93 76 [.ref a0, .ref a1, .ref a2, .int a3, .int a4, .int a5, .int a6, .int a7] (st) M Q = xW xSC 93 78 [.ref a0, .ref a1, .ref a2, .int a3, .int a4, .int a5, .int a6, .int a7] (.int a7 :: st) M Q) ∧
  (∀ (a0 : Nat) (a1 : Nat) (a2 : Nat) (a3 : Int32) (a4 : Int32) (a5 : Int32) (a6 : Int32) (a7 : Int32) (st : List Value) (M : xM) (Q : Option Value → xM → Prop), xW xSC 93 78 [.ref a0, .ref a1, .ref a2, .int a3, .int a4, .int a5, .int a6, .int a7] (st) M Q = xW xSC 93 80 [.ref a0, .ref a1, .ref a2, .int a3, .int a4, .int a5, .int a6, .int a7] (.int a6 :: st) M Q) ∧
  (∀ (a0 : Nat) (a1 : Nat) (a2 : Nat) (a3 : Int32) (a4 : Int32) (a5 : Int32) (a6 : Int32) (a7 : Int32) (st : List Value) (M : xM) (Q : Option Value → xM → Prop), xW xSC 93 80 [.ref a0, .ref a1, .ref a2, .int a3, .int a4, .int a5, .int a6, .int a7] (st) M Q = xW xSC 93 81 [.ref a0, .ref a1, .ref a2, .int a3, .int a4, .int a5, .int a6, .int a7] (.ref a0 :: st) M Q) ∧
  (∀ (a0 : Nat) (a1 : Nat) (a2 : Nat) (a3 : Int32) (a4 : Int32) (a5 : Int32) (a6 : Int32) (a7 : Int32) (st : List Value) (M : xM) (Q : Option Value → xM → Prop), xW xSC 93 81 [.ref a0, .ref a1, .ref a2, .int a3, .int a4, .int a5, .int a6, .int a7] (.ref 34 :: st) M Q = xW xSC 93 84 [.ref a0, .ref a1, .ref a2, .int a3, .int a4, .int a5, .int a6, .int a7] (.ref 38 :: st) M Q) ∧
  (∀ (a0 : Nat) (a1 : Nat) (a2 : Nat) (a3 : Int32) (a4 : Int32) (a5 : Int32) (a6 : Int32) (a7 : Int32) (st : List Value) (M : xM) (Q : Option Value → xM → Prop), xW xSC 93 84 [.ref a0, .ref a1, .ref a2, .int a3, .int a4, .int a5, .int a6, .int a7] (st) M Q = xW xSC 93 86 [.ref a0, .ref a1, .ref a2, .int a3, .int a4, .int a5, .int a6, .int a7] (.int a7 :: st) M Q) ∧
  (∀ (a0 : Nat) (a1 : Nat) (a2 : Nat) (a3 : Int32) (a4 : Int32) (a5 : Int32) (a6 : Int32) (a7 : Int32) (y0 : Int32) (y1 : Nat) (y2 : Int32) (y3 : Int32) (y4 : Nat) (M : xM) (Q : Option Value → xM → Prop), xW xSC 93 86 [.ref a0, .ref a1, .ref a2, .int a3, .int a4, .int a5, .int a6, .int a7] (.int y0 :: .ref y1 :: .int y2 :: .int y3 :: .ref y4 :: []) M Q = xW xSC 0 0 [.ref y1, .int y0] [] M (fun v M' => xW xSC 93 89 [.ref a0, .ref a1, .ref a2, .int a3, .int a4, .int a5, .int a6, .int a7] (xpush v [.int y2, .int y3, .ref y4]) M' Q)) ∧
  (∀ (a0 : Nat) (a1 : Nat) (a2 : Nat) (a3 : Int32) (a4 : Int32) (a5 : Int32) (a6 : Int32) (a7 : Int32) (y0 : Int32) (y1 : Int32) (y2 : Int32) (y3 : Nat) (M : xM) (Q : Option Value → xM → Prop), xW xSC 93 89 [.ref a0, .ref a1, .ref a2, .int a3, .int a4, .int a5, .int a6, .int a7] (.int y0 :: .int y1 :: .int y2 :: .ref y3 :: []) M Q = xW xSC 93 92 [.ref a0, .ref a1, .ref a2, .int a3, .int a4, .int a5, .int a6, .int a7] (.int (xmin y1 y0) :: .int y2 :: .ref y3 :: []) M Q) ∧
  (∀ (a0 : Nat) (a1 : Nat) (a2 : Nat) (a3 : Int32) (a4 : Int32) (a5 : Int32) (a6 : Int32) (a7 : Int32) (y0 : Int32) (y1 : Int32) (y2 : Nat) (M : xM) (Q : Option Value → xM → Prop), xW xSC 93 92 [.ref a0, .ref a1, .ref a2, .int a3, .int a4, .int a5, .int a6, .int a7] (.int y0 :: .int y1 :: .ref y2 :: []) M Q = xW xSC 1 0 [.ref y2, .int y1, .int y0] [] M (fun v M' => xW xSC 93 95 [.ref a0, .ref a1, .ref a2, .int a3, .int a4, .int a5, .int a6, .int a7] (xpush v []) M' Q)) ∧
  (∀ (a0 : Nat) (a1 : Nat) (a2 : Nat) (a3 : Int32) (a4 : Int32) (a5 : Int32) (a6 : Int32) (a7 : Int32) (st : List Value) (M : xM) (Q : Option Value → xM → Prop), xW xSC 93 95 [.ref a0, .ref a1, .ref a2, .int a3, .int a4, .int a5, .int a6, .int a7] (st) M Q = xW xSC 93 98 [.ref a0, .ref a1, .ref a2, .int a3, .int a4, .int (a5 + nI 1), .int a6, .int a7] (st) M Q) ∧
  (∀ (a0 : Nat) (a1 : Nat) (a2 : Nat) (a3 : Int32) (a4 : Int32) (a5 : Int32) (a6 : Int32) (a7 : Int32) (st : List Value) (M : xM) (Q : Option Value → xM → Prop), xW xSC 93 98 [.ref a0, .ref a1, .ref a2, .int a3, .int a4, .int a5, .int a6, .int a7] (st) M Q = xW xSC 93 47 [.ref a0, .ref a1, .ref a2, .int a3, .int a4, .int a5, .int a6, .int a7] (st) M Q) ∧
  (∀ (a0 : Nat) (a1 : Nat) (a2 : Nat) (a3 : Int32) (a4 : Value) (a5 : Value) (a6 : Value) (a7 : Value) (st : List Value) (M : xM) (Q : Option Value → xM → Prop), xW xSC 93 104 [.ref a0, .ref a1, .ref a2, .int a3, a4, a5, a6, a7] (st) M Q = xW xSC 93 2 [.ref a0, .ref a1, .ref a2, .int a3, a4, a5, a6, a7] (st) M Q) ∧
  (∀ (a0 : Nat) (a1 : Nat) (a2 : Nat) (a3 : Int32) (a4 : Value) (a5 : Value) (a6 : Value) (a7 : Value) (M : xM) (Q : Option Value → xM → Prop), xW xSC 93 107 [.ref a0, .ref a1, .ref a2, .int a3, a4, a5, a6, a7] ([]) M Q = Q none M) :=
  ⟨fun a0 a1 a2 a3 a4 a5 a6 a7 st M Q => xw_s rfl rfl,
  fun a0 a1 a2 a3 a4 a5 a6 a7 y0 st M Q => xw_s rfl rfl,
  fun a0 a1 a2 a3 a4 a5 a6 a7 st M Q => xw_s rfl rfl,
  fun a0 a1 a2 a3 a4 a5 a6 a7 st M Q => xw_s rfl rfl,
  fun a0 a1 a2 a3 a4 a5 a6 a7 st M Q => xw_s rfl rfl,
  fun a0 a1 a2 a3 a4 a5 a6 a7 y0 y1 st M Q => xw_s rfl rfl,
  fun a0 a1 a2 a3 a4 a5 a6 a7 y0 y1 st M Q => xw_brn (c0 := y0 ≤ y1) (c1 := y1 < y0) rfl rfl (xge _ _),
  fun a0 a1 a2 a3 a4 a5 a6 a7 st M Q => xw_s rfl rfl,
  fun a0 a1 a2 a3 a4 a5 a6 a7 st M Q => xw_s rfl rfl,
  fun a0 a1 a2 a3 a4 a5 a6 a7 st M Q => xw_s rfl rfl,
  fun a0 a1 a2 a3 a4 a5 a6 a7 st M Q => xw_s rfl rfl,
  fun a0 a1 a2 a3 a4 a5 a6 a7 y0 y1 st M Q => xw_s rfl rfl,
  fun a0 a1 a2 a3 a4 a5 a6 a7 st M Q => xw_s rfl rfl,
  fun a0 a1 a2 a3 a4 a5 a6 a7 st M Q => xw_s rfl rfl,
  fun a0 a1 a2 a3 a4 a5 a6 a7 y0 y1 st M Q => xw_s rfl rfl,
  fun a0 a1 a2 a3 a4 a5 a6 a7 y0 y1 y3 M Q => xw_call rfl rfl rfl,
  fun a0 a1 a2 a3 a4 a5 a6 a7 y0 M Q => xw_call rfl rfl rfl,
  fun a0 a1 a2 a3 a4 a5 a6 a7 y0 st M Q => xw_brn (c0 := y0 ≠ nI 0) (c1 := y0 = nI 0) rfl rfl (Iff.rfl),
  fun a0 a1 a2 a3 a4 a5 a6 a7 st M Q => xw_s rfl rfl,
  fun a0 a1 a2 a3 a4 a5 a6 a7 st M Q => xw_s rfl rfl,
  fun a0 a1 a2 a3 a4 a5 a6 a7 st M Q => xw_s rfl rfl,
  fun a0 a1 a2 a3 a4 a5 a6 a7 st M Q => xw_s rfl rfl,
  fun a0 a1 a2 a3 a4 a5 a6 a7 y0 y1 st M Q => xw_s rfl rfl,
  fun a0 a1 a2 a3 a4 a5 a6 a7 st M Q => xw_s rfl rfl,
  fun a0 a1 a2 a3 a4 a5 a6 a7 st M Q => xw_s rfl rfl,
  fun a0 a1 a2 a3 a4 a5 a6 a7 y0 y1 st M Q => xw_s rfl rfl,
  fun a0 a1 a2 a3 a4 a5 a6 a7 y0 y1 M Q => xw_call rfl rfl rfl,
  fun a0 a1 a2 a3 a4 a5 a6 a7 y0 st M Q => xw_s rfl rfl,
  fun a0 a1 a2 a3 a4 a5 a6 a7 st M Q => xw_s rfl rfl,
  fun a0 a1 a2 a3 a4 a5 a6 a7 y0 st M Q => xw_s rfl rfl,
  fun a0 a1 a2 a3 a4 a5 a6 a7 st M Q => xw_s rfl rfl,
  fun a0 a1 a2 a3 a4 a5 a6 a7 y0 y1 st M Q => xw_brn (c0 := y0 ≤ y1) (c1 := y1 < y0) rfl rfl (xge _ _),
  fun a0 a1 a2 a3 a4 a5 a6 a7 st M Q => xw_s rfl rfl,
  fun a0 a1 a2 a3 a4 a5 a6 a7 st M Q => xw_s rfl rfl,
  fun a0 a1 a2 a3 a4 a5 a6 a7 st M Q => xw_s rfl rfl,
  fun a0 a1 a2 a3 a4 a5 a6 a7 st M Q => xw_s rfl rfl,
  fun a0 a1 a2 a3 a4 a5 a6 a7 y0 y1 y2 M Q => xw_call rfl rfl rfl,
  fun a0 a1 a2 a3 a4 a5 a6 a7 y0 st M Q => xw_s rfl rfl,
  fun a0 a1 a2 a3 a4 a5 a6 a7 st M Q => xw_s rfl rfl,
  fun a0 a1 a2 a3 a4 a5 a6 a7 st M Q => xw_s rfl rfl,
  fun a0 a1 a2 a3 a4 a5 a6 a7 y0 y1 st M Q => xw_s rfl rfl,
  fun a0 a1 a2 a3 a4 a5 a6 a7 st M Q => xw_s rfl rfl,
  fun a0 a1 a2 a3 a4 a5 a6 a7 y0 y1 st M Q => xw_s rfl rfl,
  fun a0 a1 a2 a3 a4 a5 a6 a7 y0 st M Q => xw_s rfl rfl,
  fun a0 a1 a2 a3 a4 a5 a6 a7 st M Q => xw_s rfl rfl,
  fun a0 a1 a2 a3 a4 a5 a6 a7 st M Q => xw_s rfl rfl,
  fun a0 a1 a2 a3 a4 a5 a6 a7 st M Q => xw_s rfl rfl,
  fun a0 a1 a2 a3 a4 a5 a6 a7 st M Q => xw_s rfl rfl,
  fun a0 a1 a2 a3 a4 a5 a6 a7 st M Q => xw_s rfl rfl,
  fun a0 a1 a2 a3 a4 a5 a6 a7 st M Q => xw_s rfl rfl,
  fun a0 a1 a2 a3 a4 a5 a6 a7 st M Q => xw_s rfl rfl,
  fun a0 a1 a2 a3 a4 a5 a6 a7 y0 y1 y2 y3 y4 M Q => xw_call rfl rfl rfl,
  fun a0 a1 a2 a3 a4 a5 a6 a7 y0 y1 y2 y3 M Q => xw_s rfl rfl,
  fun a0 a1 a2 a3 a4 a5 a6 a7 y0 y1 y2 M Q => xw_call rfl rfl rfl,
  fun a0 a1 a2 a3 a4 a5 a6 a7 st M Q => xw_s rfl rfl,
  fun a0 a1 a2 a3 a4 a5 a6 a7 st M Q => xw_s rfl rfl,
  fun a0 a1 a2 a3 a4 a5 a6 a7 st M Q => xw_s rfl rfl,
  fun a0 a1 a2 a3 a4 a5 a6 a7 M Q => xw_retv rfl rfl⟩
set_option maxRecDepth 20000 in
theorem h93_2 :
  (∀ (a0 : Nat) (a1 : Nat) (a2 : Nat) (a3 : Int32) (a4 : Value) (a5 : Value) (a6 : Value) (a7 : Value) (st : List Value) (M : xM) (Q : Option Value → xM → Prop), xW xSC 93 2 [.ref a0, .ref a1, .ref a2, .int a3, a4, a5, a6, a7] (st) M Q = xW xSC 93 3 [.ref a0, .ref a1, .ref a2, .int a3, a4, a5, a6, a7] (.int a3 :: st) M Q) :=
  fun a0 a1 a2 a3 a4 a5 a6 a7 st M Q => xw_s rfl rfl
set_option maxRecDepth 20000 in
theorem h93_47 :
  (∀ (a0 : Nat) (a1 : Nat) (a2 : Nat) (a3 : Int32) (a4 : Int32) (a5 : Int32) (a6 : Value) (a7 : Value) (st : List Value) (M : xM) (Q : Option Value → xM → Prop), xW xSC 93 47 [.ref a0, .ref a1, .ref a2, .int a3, .int a4, .int a5, a6, a7] (st) M Q = xW xSC 93 49 [.ref a0, .ref a1, .ref a2, .int a3, .int a4, .int a5, a6, a7] (.int a5 :: st) M Q) :=
  fun a0 a1 a2 a3 a4 a5 a6 a7 st M Q => xw_s rfl rfl
set_option maxRecDepth 20000 in
theorem h93_101 :
  (∀ (a0 : Nat) (a1 : Nat) (a2 : Nat) (a3 : Int32) (a4 : Value) (a5 : Value) (a6 : Value) (a7 : Value) (st : List Value) (M : xM) (Q : Option Value → xM → Prop), xW xSC 93 101 [.ref a0, .ref a1, .ref a2, .int a3, a4, a5, a6, a7] (st) M Q = xW xSC 93 104 [.ref a0, .ref a1, .ref a2, .int (a3 + nI 1), a4, a5, a6, a7] (st) M Q) :=
  fun a0 a1 a2 a3 a4 a5 a6 a7 st M Q => xw_s rfl rfl
set_option maxRecDepth 20000 in
theorem j93 :
  (∀ (a0 : Nat) (a1 : Nat) (a2 : Nat) (a3 : Int32) (a4 : Value) (a5 : Value) (a6 : Value) (a7 : Value) (st : List Value) (M : xM) (Q : Option Value → xM → Prop), xW xSC 93 101 [.ref a0, .ref a1, .ref a2, .int a3, a4, a5, a6, a7] (st) M Q = xW xSC 93 104 [.ref a0, .ref a1, .ref a2, .int (a3 + nI 1), a4, a5, a6, a7] (st) M Q) :=
  fun a0 a1 a2 a3 a4 a5 a6 a7 st M Q => xw_s rfl rfl

set_option maxRecDepth 20000 in
theorem s94 :
  (∀ (a0 : Nat) (a1 : Nat) (a2 : Int32) (a3 : Int32) (a4 : Value) (a5 : Value) (a6 : Value) (st : List Value) (M : xM) (Q : Option Value → xM → Prop), xW xSC 94 0 [.ref a0, .ref a1, .int a2, .int a3, a4, a5, a6] (st) M Q = xW xSC 94 1 [.ref a0, .ref a1, .int a2, .int a3, a4, a5, a6] (.int a2 :: st) M Q) ∧
  (∀ (a0 : Nat) (a1 : Nat) (a2 : Int32) (a3 : Int32) (a4 : Value) (a5 : Value) (a6 : Value) (st : List Value) (M : xM) (Q : Option Value → xM → Prop), xW xSC 94 1 [.ref a0, .ref a1, .int a2, .int a3, a4, a5, a6] (st) M Q = xW xSC 94 2 [.ref a0, .ref a1, .int a2, .int a3, a4, a5, a6] (.int (nI 1) :: st) M Q) ∧
  (∀ (a0 : Nat) (a1 : Nat) (a2 : Int32) (a3 : Int32) (a4 : Value) (a5 : Value) (a6 : Value) (y0 : Int32) (y1 : Int32) (st : List Value) (M : xM) (Q : Option Value → xM → Prop), xW xSC 94 2 [.ref a0, .ref a1, .int a2, .int a3, a4, a5, a6] (.int y0 :: .int y1 :: st) M Q = xW xSC 94 3 [.ref a0, .ref a1, .int a2, .int a3, a4, a5, a6] (.int (y1 >>> (y0 &&& nI 31)) :: st) M Q) ∧
  (∀ (a0 : Nat) (a1 : Nat) (a2 : Int32) (a3 : Int32) (a4 : Value) (a5 : Value) (a6 : Value) (y0 : Int32) (st : List Value) (M : xM) (Q : Option Value → xM → Prop), xW xSC 94 3 [.ref a0, .ref a1, .int a2, .int a3, a4, a5, a6] (.int y0 :: st) M Q = xW xSC 94 5 [.ref a0, .ref a1, .int a2, .int a3, .int y0, a5, a6] (st) M Q) ∧
  (∀ (a0 : Nat) (a1 : Nat) (a2 : Int32) (a3 : Int32) (a4 : Int32) (a5 : Value) (a6 : Value) (st : List Value) (M : xM) (Q : Option Value → xM → Prop), xW xSC 94 5 [.ref a0, .ref a1, .int a2, .int a3, .int a4, a5, a6] (st) M Q = xW xSC 94 6 [.ref a0, .ref a1, .int a2, .int a3, .int a4, a5, a6] (.int a2 :: st) M Q) ∧
  (∀ (a0 : Nat) (a1 : Nat) (a2 : Int32) (a3 : Int32) (a4 : Int32) (a5 : Value) (a6 : Value) (st : List Value) (M : xM) (Q : Option Value → xM → Prop), xW xSC 94 6 [.ref a0, .ref a1, .int a2, .int a3, .int a4, a5, a6] (st) M Q = xW xSC 94 7 [.ref a0, .ref a1, .int a2, .int a3, .int a4, a5, a6] (.int (nI 1) :: st) M Q) ∧
  (∀ (a0 : Nat) (a1 : Nat) (a2 : Int32) (a3 : Int32) (a4 : Int32) (a5 : Value) (a6 : Value) (y0 : Int32) (y1 : Int32) (st : List Value) (M : xM) (Q : Option Value → xM → Prop), xW xSC 94 7 [.ref a0, .ref a1, .int a2, .int a3, .int a4, a5, a6] (.int y0 :: .int y1 :: st) M Q = xW xSC 94 8 [.ref a0, .ref a1, .int a2, .int a3, .int a4, a5, a6] (.int (y1 &&& y0) :: st) M Q) ∧
  (∀ (a0 : Nat) (a1 : Nat) (a2 : Int32) (a3 : Int32) (a4 : Int32) (a5 : Value) (a6 : Value) (y0 : Int32) (st : List Value) (M : xM) (Q : Option Value → xM → Prop), xW xSC 94 8 [.ref a0, .ref a1, .int a2, .int a3, .int a4, a5, a6] (.int y0 :: st) M Q = xW xSC 94 10 [.ref a0, .ref a1, .int a2, .int a3, .int a4, .int y0, a6] (st) M Q) ∧
  (∀ (a0 : Nat) (a1 : Nat) (a2 : Int32) (a3 : Int32) (a4 : Int32) (a5 : Int32) (a6 : Value) (st : List Value) (M : xM) (Q : Option Value → xM → Prop), xW xSC 94 10 [.ref a0, .ref a1, .int a2, .int a3, .int a4, .int a5, a6] (st) M Q = xW xSC 94 11 [.ref a0, .ref a1, .int a2, .int a3, .int a4, .int a5, a6] (.ref a1 :: st) M Q) ∧
  (∀ (a0 : Nat) (a1 : Nat) (a2 : Int32) (a3 : Int32) (a4 : Int32) (a5 : Int32) (a6 : Value) (st : List Value) (M : xM) (Q : Option Value → xM → Prop), xW xSC 94 11 [.ref a0, .ref a1, .int a2, .int a3, .int a4, .int a5, a6] (st) M Q = xW xSC 94 13 [.ref a0, .ref a1, .int a2, .int a3, .int a4, .int a5, a6] (.int a4 :: st) M Q) ∧
  (∀ (a0 : Nat) (a1 : Nat) (a2 : Int32) (a3 : Int32) (a4 : Int32) (a5 : Int32) (a6 : Value) (st : List Value) (M : xM) (Q : Option Value → xM → Prop), xW xSC 94 13 [.ref a0, .ref a1, .int a2, .int a3, .int a4, .int a5, a6] (st) M Q = xW xSC 94 14 [.ref a0, .ref a1, .int a2, .int a3, .int a4, .int a5, a6] (.int (nI 1) :: st) M Q) ∧
  (∀ (a0 : Nat) (a1 : Nat) (a2 : Int32) (a3 : Int32) (a4 : Int32) (a5 : Int32) (a6 : Value) (st : List Value) (M : xM) (Q : Option Value → xM → Prop), xW xSC 94 14 [.ref a0, .ref a1, .int a2, .int a3, .int a4, .int a5, a6] (st) M Q = xW xSC 94 16 [.ref a0, .ref a1, .int a2, .int a3, .int a4, .int a5, a6] (.int a5 :: st) M Q) ∧
  (∀ (a0 : Nat) (a1 : Nat) (a2 : Int32) (a3 : Int32) (a4 : Int32) (a5 : Int32) (a6 : Value) (y0 : Int32) (y1 : Int32) (st : List Value) (M : xM) (Q : Option Value → xM → Prop), xW xSC 94 16 [.ref a0, .ref a1, .int a2, .int a3, .int a4, .int a5, a6] (.int y0 :: .int y1 :: st) M Q = xW xSC 94 17 [.ref a0, .ref a1, .int a2, .int a3, .int a4, .int a5, a6] (.int (y1 - y0) :: st) M Q) ∧
  (∀ (a0 : Nat) (a1 : Nat) (a2 : Int32) (a3 : Int32) (a4 : Int32) (a5 : Int32) (a6 : Value) (y0 : Int32) (y1 : Int32) (M : xM) (Q : Option Value → xM → Prop), xW xSC 94 17 [.ref a0, .ref a1, .int a2, .int a3, .int a4, .int a5, a6] (.int y0 :: .int y1 :: .ref 9 :: []) M Q = xW xSC 39 0 [.ref 9, .int y1, .int y0] [] M (fun v M' => xW xSC 94 20 [.ref a0, .ref a1, .int a2, .int a3, .int a4, .int a5, a6] (xpush v []) M' Q)) ∧
  (∀ (a0 : Nat) (a1 : Nat) (a2 : Int32) (a3 : Int32) (a4 : Int32) (a5 : Int32) (a6 : Value) (st : List Value) (M : xM) (Q : Option Value → xM → Prop), xW xSC 94 20 [.ref a0, .ref a1, .int a2, .int a3, .int a4, .int a5, a6] (st) M Q = xW xSC 94 21 [.ref a0, .ref a1, .int a2, .int a3, .int a4, .int a5, a6] (.int (nI 4) :: st) M Q) ∧
  (∀ (a0 : Nat) (a1 : Nat) (a2 : Int32) (a3 : Int32) (a4 : Int32) (a5 : Int32) (a6 : Value) (y0 : Int32) (y1 : Int32) (st : List Value) (M : xM) (Q : Option Value → xM → Prop), xW xSC 94 21 [.ref a0, .ref a1, .int a2, .int a3, .int a4, .int a5, a6] (.int y0 :: .int y1 :: st) M Q = xW xSC 94 22 [.ref a0, .ref a1, .int a2, .int a3, .int a4, .int a5, a6] (.int (y1 * y0) :: st) M Q) ∧
  (∀ (a0 : Nat) (a1 : Nat) (a2 : Int32) (a3 : Int32) (a4 : Int32) (a5 : Int32) (a6 : Value) (st : List Value) (M : xM) (Q : Option Value → xM → Prop), xW xSC 94 22 [.ref a0, .ref a1, .int a2, .int a3, .int a4, .int a5, a6] (st) M Q = xW xSC 94 23 [.ref a0, .ref a1, .int a2, .int a3, .int a4, .int a5, a6] (.ref a1 :: st) M Q) ∧
  (∀ (a0 : Nat) (a1 : Nat) (a2 : Int32) (a3 : Int32) (a4 : Int32) (a5 : Int32) (a6 : Value) (st : List Value) (M : xM) (Q : Option Value → xM → Prop), xW xSC 94 23 [.ref a0, .ref a1, .int a2, .int a3, .int a4, .int a5, a6] (st) M Q = xW xSC 94 25 [.ref a0, .ref a1, .int a2, .int a3, .int a4, .int a5, a6] (.int a4 :: st) M Q) ∧
  (∀ (a0 : Nat) (a1 : Nat) (a2 : Int32) (a3 : Int32) (a4 : Int32) (a5 : Int32) (a6 : Value) (st : List Value) (M : xM) (Q : Option Value → xM → Prop), xW xSC 94 25 [.ref a0, .ref a1, .int a2, .int a3, .int a4, .int a5, a6] (st) M Q = xW xSC 94 27 [.ref a0, .ref a1, .int a2, .int a3, .int a4, .int a5, a6] (.int a5 :: st) M Q) ∧
  (∀ (a0 : Nat) (a1 : Nat) (a2 : Int32) (a3 : Int32) (a4 : Int32) (a5 : Int32) (a6 : Value) (y0 : Int32) (y1 : Int32) (y3 : Int32) (M : xM) (Q : Option Value → xM → Prop), xW xSC 94 27 [.ref a0, .ref a1, .int a2, .int a3, .int a4, .int a5, a6] (.int y0 :: .int y1 :: .ref 9 :: .int y3 :: []) M Q = xW xSC 37 0 [.ref 9, .int y1, .int y0] [] M (fun v M' => xW xSC 94 30 [.ref a0, .ref a1, .int a2, .int a3, .int a4, .int a5, a6] (xpush v [.int y3]) M' Q)) ∧
  (∀ (a0 : Nat) (a1 : Nat) (a2 : Int32) (a3 : Int32) (a4 : Int32) (a5 : Int32) (a6 : Value) (y0 : Int32) (y1 : Int32) (st : List Value) (M : xM) (Q : Option Value → xM → Prop), xW xSC 94 30 [.ref a0, .ref a1, .int a2, .int a3, .int a4, .int a5, a6] (.int y0 :: .int y1 :: st) M Q = xW xSC 94 31 [.ref a0, .ref a1, .int a2, .int a3, .int a4, .int a5, a6] (.int (y1 + y0) :: st) M Q) ∧
  (∀ (a0 : Nat) (a1 : Nat) (a2 : Int32) (a3 : Int32) (a4 : Int32) (a5 : Int32) (a6 : Value) (y0 : Int32) (st : List Value) (M : xM) (Q : Option Value → xM → Prop), xW xSC 94 31 [.ref a0, .ref a1, .int a2, .int a3, .int a4, .int a5, a6] (.int y0 :: st) M Q = xW xSC 94 33 [.ref a0, .ref a1, .int a2, .int a3, .int a4, .int a5, .int y0] (st) M Q) ∧
  (∀ (a0 : Nat) (a1 : Nat) (a2 : Int32) (a3 : Int32) (a4 : Int32) (a5 : Int32) (a6 : Int32) (st : List Value) (M : xM) (Q : Option Value → xM → Prop), xW xSC 94 33 [.ref a0, .ref a1, .int a2, .int a3, .int a4, .int a5, .int a6] (st) M Q = xW xSC 94 34 [.ref a0, .ref a1, .int a2, .int a3, .int a4, .int a5, .int a6] (.ref a0 :: st) M Q) ∧
  (∀ (a0 : Nat) (a1 : Nat) (a2 : Int32) (a3 : Int32) (a4 : Int32) (a5 : Int32) (a6 : Int32) (st : List Value) (M : xM) (Q : Option Value → xM → Prop), xW xSC 94 34 [.ref a0, .ref a1, .int a2, .int a3, .int a4, .int a5, .int a6] (.ref 34 :: st) M Q = xW xSC 94 37 [.ref a0, .ref a1, .int a2, .int a3, .int a4, .int a5, .int a6] (.ref 36 :: st) M Q) ∧
  (∀ (a0 : Nat) (a1 : Nat) (a2 : Int32) (a3 : Int32) (a4 : Int32) (a5 : Int32) (a6 : Int32) (st : List Value) (M : xM) (Q : Option Value → xM → Prop), xW xSC 94 37 [.ref a0, .ref a1, .int a2, .int a3, .int a4, .int a5, .int a6] (st) M Q = xW xSC 94 38 [.ref a0, .ref a1, .int a2, .int a3, .int a4, .int a5, .int a6] (.int a2 :: st) M Q) ∧
  (∀ (a0 : Nat) (a1 : Nat) (a2 : Int32) (a3 : Int32) (a4 : Int32) (a5 : Int32) (a6 : Int32) (st : List Value) (M : xM) (Q : Option Value → xM → Prop), xW xSC 94 38 [.ref a0, .ref a1, .int a2, .int a3, .int a4, .int a5, .int a6] (st) M Q = xW xSC 94 39 [.ref a0, .ref a1, .int a2, .int a3, .int a4, .int a5, .int a6] (.int (nI 4) :: st) M Q) ∧
  (∀ (a0 : Nat) (a1 : Nat) (a2 : Int32) (a3 : Int32) (a4 : Int32) (a5 : Int32) (a6 : Int32) (y0 : Int32) (y1 : Int32) (st : List Value) (M : xM) (Q : Option Value → xM → Prop), xW xSC 94 39 [.ref a0, .ref a1, .int a2, .int a3, .int a4, .int a5, .int a6] (.int y0 :: .int y1 :: st) M Q = xW xSC 94 40 [.ref a0, .ref a1, .int a2, .int a3, .int a4, .int a5, .int a6] (.int (y1 * y0) :: st) M Q) ∧
  (∀ (a0 : Nat) (a1 : Nat) (a2 : Int32) (a3 : Int32) (a4 : Int32) (a5 : Int32) (a6 : Int32) (st : List Value) (M : xM) (Q : Option Value → xM → Prop), xW xSC 94 40 [.ref a0, .ref a1, .int a2, .int a3, .int a4, .int a5, .int a6] (st) M Q = xW xSC 94 41 [.ref a0, .ref a1, .int a2, .int a3, .int a4, .int a5, .int a6] (.int a3 :: st) M Q) ∧
  (∀ (a0 : Nat) (a1 : Nat) (a2 : Int32) (a3 : Int32) (a4 : Int32) (a5 : Int32) (a6 : Int32) (y0 : Int32) (y1 : Int32) (st : List Value) (M : xM) (Q : Option Value → xM → Prop), xW xSC 94 41 [.ref a0, .ref a1, .int a2, .int a3, .int a4, .int a5, .int a6] (.int y0 :: .int y1 :: st) M Q = xW xSC 94 42 [.ref a0, .ref a1, .int a2, .int a3, .int a4, .int a5, .int a6] (.int (y1 + y0) :: st) M Q) ∧
  (∀ (a0 : Nat) (a1 : Nat) (a2 : Int32) (a3 : Int32) (a4 : Int32) (a5 : Int32) (a6 : Int32) (y0 : Int32) (y1 : Nat) (M : xM) (Q : Option Value → xM → Prop), xW xSC 94 42 [.ref a0, .ref a1, .int a2, .int a3, .int a4, .int a5, .int a6] (.int y0 :: .ref y1 :: []) M Q = xW xSC 0 0 [.ref y1, .int y0] [] M (fun v M' => xW xSC 94 45 [.ref a0, .ref a1, .int a2, .int a3, .int a4, .int a5, .int a6] (xpush v []) M' Q)) ∧
  (∀ (a0 : Nat) (a1 : Nat) (a2 : Int32) (a3 : Int32) (a4 : Int32) (a5 : Int32) (a6 : Int32) (st : List Value) (M : xM) (Q : Option Value → xM → Prop), xW xSC 94 45 [.ref a0, .ref a1, .int a2, .int a3, .int a4, .int a5, .int a6] (st) M Q = xW xSC 94 46 [.ref a0, .ref a1, .int a2, .int a3, .int a4, .int a5, .int a6] (.ref a0 :: st) M Q) ∧
  (∀ (a0 : Nat) (a1 : Nat) (a2 : Int32) (a3 : Int32) (a4 : Int32) (a5 : Int32) (a6 : Int32) (st : List Value) (M : xM) (Q : Option Value → xM → Prop), xW xSC 94 46 [.ref a0, .ref a1, .int a2, .int a3, .int a4, .int a5, .int a6] (.ref 34 :: st) M Q = xW xSC 94 49 [.ref a0, .ref a1, .int a2, .int a3, .int a4, .int a5, .int a6] (.ref 37 :: st) M Q) ∧
  (∀ (a0 : Nat) (a1 : Nat) (a2 : Int32) (a3 : Int32) (a4 : Int32) (a5 : Int32) (a6 : Int32) (st : List Value) (M : xM) (Q : Option Value → xM → Prop), xW xSC 94 49 [.ref a0, .ref a1, .int a2, .int a3, .int a4, .int a5, .int a6] (st) M Q = xW xSC 94 51 [.ref a0, .ref a1, .int a2, .int a3, .int a4, .int a5, .int a6] (.int a6 :: st) M Q) ∧
  (∀ (a0 : Nat) (a1 : Nat) (a2 : Int32) (a3 : Int32) (a4 : Int32) (a5 : Int32) (a6 : Int32) (y0 : Int32) (y1 : Nat) (y2 : Int32) (M : xM) (Q : Option Value → xM → Prop), xW xSC 94 51 [.ref a0, .ref a1, .int a2, .int a3, .int a4, .int a5, .int a6] (.int y0 :: .ref y1 :: .int y2 :: []) M Q = xW xSC 0 0 [.ref y1, .int y0] [] M (fun v M' => xW xSC 94 54 [.ref a0, .ref a1, .int a2, .int a3, .int a4, .int a5, .int a6] (xpush v [.int y2]) M' Q)) ∧
  (∀ (a0 : Nat) (a1 : Nat) (a2 : Int32) (a3 : Int32) (a4 : Int32) (a5 : Int32) (a6 : Int32) (y0 : Int32) (y1 : Int32) (st : List Value) (M : xM) (Q : Option Value → xM → Prop), xW xSC 94 54 [.ref a0, .ref a1, .int a2, .int a3, .int a4, .int a5, .int a6] (.int y0 :: .int y1 :: st) M Q = xW xSC 94 55 [.ref a0, .ref a1, .int a2, .int a3, .int a4, .int a5, .int a6] (.int (y1 + y0) :: st) M Q) ∧
  (∀ (a0 : Nat) (a1 : Nat) (a2 : Int32) (a3 : Int32) (a4 : Int32) (a5 : Int32) (a6 : Int32) (y0 : Int32) (M : xM) (Q : Option Value → xM → Prop), xW xSC 94 55 [.ref a0, .ref a1, .int a2, .int a3, .int a4, .int a5, .int a6] ([.int y0]) M Q = Q (some (.int y0)) M) :=
  ⟨fun a0 a1 a2 a3 a4 a5 a6 st M Q => xw_s rfl rfl,
  fun a0 a1 a2 a3 a4 a5 a6 st M Q => xw_s rfl rfl,
  fun a0 a1 a2 a3 a4 a5 a6 y0 y1 st M Q => xw_s rfl rfl,
  fun a0 a1 a2 a3 a4 a5 a6 y0 st M Q => xw_s rfl rfl,
  fun a0 a1 a2 a3 a4 a5 a6 st M Q => xw_s rfl rfl,
  fun a0 a1 a2 a3 a4 a5 a6 st M Q => xw_s rfl rfl,
  fun a0 a1 a2 a3 a4 a5 a6 y0 y1 st M Q => xw_s rfl rfl,
  fun a0 a1 a2 a3 a4 a5 a6 y0 st M Q => xw_s rfl rfl,
  fun a0 a1 a2 a3 a4 a5 a6 st M Q => xw_s rfl rfl,
  fun a0 a1 a2 a3 a4 a5 a6 st M Q => xw_s rfl rfl,
  fun a0 a1 a2 a3 a4 a5 a6 st M Q => xw_s rfl rfl,
  fun a0 a1 a2 a3 a4 a5 a6 st M Q => xw_s rfl rfl,
  fun a0 a1 a2 a3 a4 a5 a6 y0 y1 st M Q => xw_s rfl rfl,
  fun a0 a1 a2 a3 a4 a5 a6 y0 y1 M Q => xw_call rfl rfl rfl,
  fun a0 a1 a2 a3 a4 a5 a6 st M Q => xw_s rfl rfl,
  fun a0 a1 a2 a3 a4 a5 a6 y0 y1 st M Q => xw_s rfl rfl,
  fun a0 a1 a2 a3 a4 a5 a6 st M Q => xw_s rfl rfl,
  fun a0 a1 a2 a3 a4 a5 a6 st M Q => xw_s rfl rfl,
  fun a0 a1 a2 a3 a4 a5 a6 st M Q => xw_s rfl rfl,
  fun a0 a1 a2 a3 a4 a5 a6 y0 y1 y3 M Q => xw_call rfl rfl rfl,
  fun a0 a1 a2 a3 a4 a5 a6 y0 y1 st M Q => xw_s rfl rfl,
  fun a0 a1 a2 a3 a4 a5 a6 y0 st M Q => xw_s rfl rfl,
  fun a0 a1 a2 a3 a4 a5 a6 st M Q => xw_s rfl rfl,
  fun a0 a1 a2 a3 a4 a5 a6 st M Q => xw_s rfl rfl,
  fun a0 a1 a2 a3 a4 a5 a6 st M Q => xw_s rfl rfl,
  fun a0 a1 a2 a3 a4 a5 a6 st M Q => xw_s rfl rfl,
  fun a0 a1 a2 a3 a4 a5 a6 y0 y1 st M Q => xw_s rfl rfl,
  fun a0 a1 a2 a3 a4 a5 a6 st M Q => xw_s rfl rfl,
  fun a0 a1 a2 a3 a4 a5 a6 y0 y1 st M Q => xw_s rfl rfl,
  fun a0 a1 a2 a3 a4 a5 a6 y0 y1 M Q => xw_call rfl rfl rfl,
  fun a0 a1 a2 a3 a4 a5 a6 st M Q => xw_s rfl rfl,
  fun a0 a1 a2 a3 a4 a5 a6 st M Q => xw_s rfl rfl,
  fun a0 a1 a2 a3 a4 a5 a6 st M Q => xw_s rfl rfl,
  fun a0 a1 a2 a3 a4 a5 a6 y0 y1 y2 M Q => xw_call rfl rfl rfl,
  fun a0 a1 a2 a3 a4 a5 a6 y0 y1 st M Q => xw_s rfl rfl,
  fun a0 a1 a2 a3 a4 a5 a6 y0 M Q => xw_ret rfl rfl⟩
theorem j94 : True := trivial

set_option maxRecDepth 20000 in
theorem s95 :
  (∀ (a0 : Nat) (a1 : Nat) (a2 : Nat) (a3 : Value) (a4 : Value) (a5 : Value) (st : List Value) (M : xM) (Q : Option Value → xM → Prop), xW xSC 95 0 [.ref a0, .ref a1, .ref a2, a3, a4, a5] (st) M Q = xW xSC 95 1 [.ref a0, .ref a1, .ref a2, a3, a4, a5] (.ref a0 :: st) M Q) ∧
  (∀ (a0 : Nat) (a1 : Nat) (a2 : Nat) (a3 : Value) (a4 : Value) (a5 : Value) (st : List Value) (M : xM) (Q : Option Value → xM → Prop), xW xSC 95 1 [.ref a0, .ref a1, .ref a2, a3, a4, a5] (st) M Q = xW xSC 95 3 [.ref a0, .ref a1, .ref a2, a3, a4, a5] (.int (nI 1000000) :: st) M Q) ∧
  (∀ (a0 : Nat) (a1 : Nat) (a2 : Nat) (a3 : Value) (a4 : Value) (a5 : Value) (y0 : Int32) (st : List Value) (M : xM) (Q : Option Value → xM → Prop), xW xSC 95 3 [.ref a0, .ref a1, .ref a2, a3, a4, a5] (.int y0 :: .ref 34 :: st) M Q = xW xSC 95 6 [.ref a0, .ref a1, .ref a2, a3, a4, a5] (st) (xup M 34 4 y0) Q) ∧
  (∀ (a0 : Nat) (a1 : Nat) (a2 : Nat) (a3 : Value) (a4 : Value) (a5 : Value) (st : List Value) (M : xM) (Q : Option Value → xM → Prop), xW xSC 95 6 [.ref a0, .ref a1, .ref a2, a3, a4, a5] (st) M Q = xW xSC 95 7 [.ref a0, .ref a1, .ref a2, a3, a4, a5] (.ref a0 :: st) M Q) ∧
  (∀ (a0 : Nat) (a1 : Nat) (a2 : Nat) (a3 : Value) (a4 : Value) (a5 : Value) (st : List Value) (M : xM) (Q : Option Value → xM → Prop), xW xSC 95 7 [.ref a0, .ref a1, .ref a2, a3, a4, a5] (st) M Q = xW xSC 95 8 [.ref a0, .ref a1, .ref a2, a3, a4, a5] (.int (-1) :: st) M Q) ∧
  (∀ (a0 : Nat) (a1 : Nat) (a2 : Nat) (a3 : Value) (a4 : Value) (a5 : Value) (y0 : Int32) (st : List Value) (M : xM) (Q : Option Value → xM → Prop), xW xSC 95 8 [.ref a0, .ref a1, .ref a2, a3, a4, a5] (.int y0 :: .ref 34 :: st) M Q = xW xSC 95 11 [.ref a0, .ref a1, .ref a2, a3, a4, a5] (st) (xup M 34 5 y0) Q) ∧
  (∀ (a0 : Nat) (a1 : Nat) (a2 : Nat) (a3 : Value) (a4 : Value) (a5 : Value) (st : List Value) (M : xM) (Q : Option Value → xM → Prop), xW xSC 95 11 [.ref a0, .ref a1, .ref a2, a3, a4, a5] (st) M Q = xW xSC 95 12 [.ref a0, .ref a1, .ref a2, a3, a4, a5] (.int (nI 0) :: st) M Q) ∧
  (∀ (a0 : Nat) (a1 : Nat) (a2 : Nat) (a3 : Value) (a4 : Value) (a5 : Value) (y0 : Int32) (st : List Value) (M : xM) (Q : Option Value → xM → Prop), xW xSC 95 12 [.ref a0, .ref a1, .ref a2, a3, a4, a5] (.int y0 :: st) M Q = xW xSC 95 13 [.ref a0, .ref a1, .ref a2, .int y0, a4, a5] (st) M Q) ∧
  (∀ (a0 : Nat) (a1 : Nat) (a2 : Nat) (a3 : Int32) (a4 : Value) (a5 : Value) (st : List Value) (M : xM) (Q : Option Value → xM → Prop), xW xSC 95 14 [.ref a0, .ref a1, .ref a2, .int a3, a4, a5] (st) M Q = xW xSC 95 15 [.ref a0, .ref a1, .ref a2, .int a3, a4, a5] (.ref a1 :: st) M Q) ∧
  (∀ (a0 : Nat) (a1 : Nat) (a2 : Nat) (a3 : Int32) (a4 : Value) (a5 : Value) (st : List Value) (M : xM) (Q : Option Value → xM → Prop), xW xSC 95 15 [.ref a0, .ref a1, .ref a2, .int a3, a4, a5] (.ref 9 :: st) M Q = xW xSC 95 18 [.ref a0, .ref a1, .ref a2, .int a3, a4, a5] (.int (M 9 1) :: st) M Q) ∧
  (∀ (a0 : Nat) (a1 : Nat) (a2 : Nat) (a3 : Int32) (a4 : Value) (a5 : Value) (y0 : Int32) (y1 : Int32) (st : List Value) (M : xM) (Q : Option Value → xM → Prop), xW xSC 95 18 [.ref a0, .ref a1, .ref a2, .int a3, a4, a5] (.int y0 :: .int y1 :: st) M Q = if y1 < y0 then xW xSC 95 21 [.ref a0, .ref a1, .ref a2, .int a3, a4, a5] (st) M Q else xW xSC 95 97 [.ref a0, .ref a1, .ref a2, .int a3, a4, a5] (st) M Q) ∧
  (∀ (a0 : Nat) (a1 : Nat) (a2 : Nat) (a3 : Int32) (a4 : Value) (a5 : Value) (st : List Value) (M : xM) (Q : Option Value → xM → Prop), xW xSC 95 21 [.ref a0, .ref a1, .ref a2, .int a3, a4, a5] (st) M Q = xW xSC 95 22 [.ref a0, .ref a1, .ref a2, .int a3, a4, a5] (.ref a1 :: st) M Q) ∧
  (∀ (a0 : Nat) (a1 : Nat) (a2 : Nat) (a3 : Int32) (a4 : Value) (a5 : Value) (st : List Value) (M : xM) (Q : Option Value → xM → Prop), xW xSC 95 22 [.ref a0, .ref a1, .ref a2, .int a3, a4, a5] (st) M Q = xW xSC 95 23 [.ref a0, .ref a1, .ref a2, .int a3, a4, a5] (.int a3 :: st) M Q) ∧
  (∀ (a0 : Nat) (a1 : Nat) (a2 : Nat) (a3 : Int32) (a4 : Value) (a5 : Value) (st : List Value) (M : xM) (Q : Option Value → xM → Prop), xW xSC 95 23 [.ref a0, .ref a1, .ref a2, .int a3, a4, a5] (st) M Q = xW xSC 95 24 [.ref a0, .ref a1, .ref a2, .int a3, a4, a5] (.ref a2 :: st) M Q) ∧
  (∀ (a0 : Nat) (a1 : Nat) (a2 : Nat) (a3 : Int32) (a4 : Value) (a5 : Value) (st : List Value) (M : xM) (Q : Option Value → xM → Prop), xW xSC 95 24 [.ref a0, .ref a1, .ref a2, .int a3, a4, a5] (.ref 31 :: st) M Q = xW xSC 95 27 [.ref a0, .ref a1, .ref a2, .int a3, a4, a5] (.int (M 31 0) :: st) M Q) ∧
  (∀ (a0 : Nat) (a1 : Nat) (a2 : Nat) (a3 : Int32) (a4 : Value) (a5 : Value) (y0 : Int32) (y1 : Int32) (M : xM) (Q : Option Value → xM → Prop), xW xSC 95 27 [.ref a0, .ref a1, .ref a2, .int a3, a4, a5] (.int y0 :: .int y1 :: .ref 9 :: []) M Q = xW xSC 40 0 [.ref 9, .int y1, .int y0] [] M (fun v M' => xW xSC 95 30 [.ref a0, .ref a1, .ref a2, .int a3, a4, a5] (xpush v []) M' Q)) ∧
  (∀ (a0 : Nat) (a1 : Nat) (a2 : Nat) (a3 : Int32) (a4 : Value) (a5 : Value) (y0 : Int32) (st : List Value) (M : xM) (Q : Option Value → xM → Prop), xW xSC 95 30 [.ref a0, .ref a1, .ref a2, .int a3, a4, a5] (.int y0 :: st) M Q = xW xSC 95 32 [.ref a0, .ref a1, .ref a2, .int a3, .int y0, a5] (st) M Q) ∧
  (∀ (a0 : Nat) (a1 : Nat) (a2 : Nat) (a3 : Int32) (a4 : Int32) (a5 : Value) (st : List Value) (M : xM) (Q : Option Value → xM → Prop), xW xSC 95 32 [.ref a0, .ref a1, .ref a2, .int a3, .int a4, a5] (st) M Q = xW xSC 95 34 [.ref a0, .ref a1, .ref a2, .int a3, .int a4, a5] (.int a4 :: st) M Q) ∧
  (∀ (a0 : Nat) (a1 : Nat) (a2 : Nat) (a3 : Int32) (a4 : Int32) (a5 : Value) (y0 : Int32) (st : List Value) (M : xM) (Q : Option Value → xM → Prop), xW xSC 95 34 [.ref a0, .ref a1, .ref a2, .int a3, .int a4, a5] (.int y0 :: st) M Q = if y0 < nI 0 then xW xSC 95 91 [.ref a0, .ref a1, .ref a2, .int a3, .int a4, a5] (st) M Q else xW xSC 95 37 [.ref a0, .ref a1, .ref a2, .int a3, .int a4, a5] (st) M Q) ∧
  (∀ (a0 : Nat) (a1 : Nat) (a2 : Nat) (a3 : Int32) (a4 : Int32) (a5 : Value) (st : List Value) (M : xM) (Q : Option Value → xM → Prop), xW xSC 95 37 [.ref a0, .ref a1, .ref a2, .int a3, .int a4, a5] (st) M Q = xW xSC 95 38 [.ref a0, .ref a1, .ref a2, .int a3, .int a4, a5] (.ref a2 :: st) M Q) ∧
  (∀ (a0 : Nat) (a1 : Nat) (a2 : Nat) (a3 : Int32) (a4 : Int32) (a5 : Value) (st : List Value) (M : xM) (Q : Option Value → xM → Prop), xW xSC 95 38 [.ref a0, .ref a1, .ref a2, .int a3, .int a4, a5] (st) M Q = xW xSC 95 39 [.ref a0, .ref a1, .ref a2, .int a3, .int a4, a5] (.ref a1 :: st) M Q) ∧
  (∀ (a0 : Nat) (a1 : Nat) (a2 : Nat) (a3 : Int32) (a4 : Int32) (a5 : Value) (st : List Value) (M : xM) (Q : Option Value → xM → Prop), xW xSC 95 39 [.ref a0, .ref a1, .ref a2, .int a3, .int a4, a5] (st) M Q = xW xSC 95 40 [.ref a0, .ref a1, .ref a2, .int a3, .int a4, a5] (.int a3 :: st) M Q) ∧
  (∀ (a0 : Nat) (a1 : Nat) (a2 : Nat) (a3 : Int32) (a4 : Int32) (a5 : Value) (st : List Value) (M : xM) (Q : Option Value → xM → Prop), xW xSC 95 40 [.ref a0, .ref a1, .ref a2, .int a3, .int a4, a5] (st) M Q = xW xSC 95 42 [.ref a0, .ref a1, .ref a2, .int a3, .int a4, a5] (.int a4 :: st) M Q) ∧
  (∀ (a0 : Nat) (a1 : Nat) (a2 : Nat) (a3 : Int32) (a4 : Int32) (a5 : Value) (y0 : Int32) (y1 : Int32) (y3 : Nat) (M : xM) (Q : Option Value → xM → Prop), xW xSC 95 42 [.ref a0, .ref a1, .ref a2, .int a3, .int a4, a5] (.int y0 :: .int y1 :: .ref 9 :: .ref y3 :: []) M Q = xW xSC 37 0 [.ref 9, .int y1, .int y0] [] M (fun v M' => xW xSC 95 45 [.ref a0, .ref a1, .ref a2, .int a3, .int a4, a5] (xpush v [.ref y3]) M' Q)) ∧
  (∀ (a0 : Nat) (a1 : Nat) (a2 : Nat) (a3 : Int32) (a4 : Int32) (a5 : Value) (y0 : Int32) (M : xM) (Q : Option Value → xM → Prop), xW xSC 95 45 [.ref a0, .ref a1, .ref a2, .int a3, .int a4, a5] (.int y0 :: .ref 31 :: []) M Q = xW xSC 87 0 [.ref 31, .int y0] [] M (fun v M' => xW xSC 95 48 [.ref a0, .ref a1, .ref a2, .int a3, .int a4, a5] (xpush v []) M' Q)) ∧
  (∀ (a0 : Nat) (a1 : Nat) (a2 : Nat) (a3 : Int32) (a4 : Int32) (a5 : Value) (y0 : Int32) (st : List Value) (M : xM) (Q : Option Value → xM → Prop), xW xSC 95 48 [.ref a0, .ref a1, .ref a2, .int a3, .int a4, a5] (.int y0 :: st) M Q = if y0 = nI 0 then xW xSC 95 51 [.ref a0, .ref a1, .ref a2, .int a3, .int a4, a5] (st) M Q else xW xSC 95 54 [.ref a0, .ref a1, .ref a2, .int a3, .int a4, a5] (st) M Q) ∧
  (∀ (a0 : Nat) (a1 : Nat) (a2 : Nat) (a3 : Int32) (a4 : Int32) (a5 : Value) (st : List Value) (M : xM) (Q : Option Value → xM → Prop), xW xSC 95 51 [.ref a0, .ref a1, .ref a2, .int a3, .int a4, a5] (st) M Q = xW xSC 95 91 [.ref a0, .ref a1, .ref a2, .int a3, .int a4, a5] (st) M Q) ∧
  (∀ (a0 : Nat) (a1 : Nat) (a2 : Nat) (a3 : Int32) (a4 : Int32) (a5 : Value) (st : List Value) (M : xM) (Q : Option Value → xM → Prop), xW xSC 95 54 [.ref a0, .ref a1, .ref a2, .int a3, .int a4, a5] (st) M Q = xW xSC 95 55 [.ref a0, .ref a1, .ref a2, .int a3, .int a4, a5] (.ref a0 :: st) M Q) ∧
  (∀ (a0 : Nat) (a1 : Nat) (a2 : Nat) (a3 : Int32) (a4 : Int32) (a5 : Value) (st : List Value) (M : xM) (Q : Option Value → xM → Prop), xW xSC 95 55 [.ref a0, .ref a1, .ref a2, .int a3, .int a4, a5] (st) M Q = xW xSC 95 56 [.ref a0, .ref a1, .ref a2, .int a3, .int a4, a5] (.ref a1 :: st) M Q) ∧
  (∀ (a0 : Nat) (a1 : Nat) (a2 : Nat) (a3 : Int32) (a4 : Int32) (a5 : Value) (st : List Value) (M : xM) (Q : Option Value → xM → Prop), xW xSC 95 56 [.ref a0, .ref a1, .ref a2, .int a3, .int a4, a5] (st) M Q = xW xSC 95 57 [.ref a0, .ref a1, .ref a2, .int a3, .int a4, a5] (.int (nI 2) :: st) M Q) ∧
  (∀ (a0 : Nat) (a1 : Nat) (a2 : Nat) (a3 : Int32) (a4 : Int32) (a5 : Value) (st : List Value) (M : xM) (Q : Option Value → xM → Prop), xW xSC 95 57 [.ref a0, .ref a1, .ref a2, .int a3, .int a4, a5] (st) M Q = xW xSC 95 58 [.ref a0, .ref a1, .ref a2, .int a3, .int a4, a5] (.int a3 :: st) M Q) ∧
  (∀ (a0 : Nat) (a1 : Nat) (a2 : Nat) (a3 : Int32) (a4 : Int32) (a5 : Value) (y0 : Int32) (y1 : Int32) (st : List Value) (M : xM) (Q : Option Value → xM → Prop), xW xSC 95 58 [.ref a0, .ref a1, .ref a2, .int a3, .int a4, a5] (.int y0 :: .int y1 :: st) M Q = xW xSC 95 59 [.ref a0, .ref a1, .ref a2, .int a3, .int a4, a5] (.int (y1 * y0) :: st) M Q) ∧
  (∀ (a0 : Nat) (a1 : Nat) (a2 : Nat) (a3 : Int32) (a4 : Int32) (a5 : Value) (st : List Value) (M : xM) (Q : Option Value → xM → Prop), xW xSC 95 59 [.ref a0, .ref a1, .ref a2, .int a3, .int a4, a5] (st) M Q = xW xSC 95 61 [.ref a0, .ref a1, .ref a2, .int a3, .int a4, a5] (.int a4 :: st) M Q) ∧
  (∀ (a0 : Nat) (a1 : Nat) (a2 : Nat) (a3 : Int32) (a4 : Int32) (a5 : Value) (y0 : Int32) (y1 : Int32) (st : List Value) (M : xM) (Q : Option Value → xM → Prop), xW xSC 95 61 [.ref a0, .ref a1, .ref a2, .int a3, .int a4, a5] (.int y0 :: .int y1 :: st) M Q = xW xSC 95 62 [.ref a0, .ref a1, .ref a2, .int a3, .int a4, a5] (.int (y1 + y0) :: st) M Q) ∧
  (∀ (a0 : Nat) (a1 : Nat) (a2 : Nat) (a3 : Int32) (a4 : Int32) (a5 : Value) (st : List Value) (M : xM) (Q : Option Value → xM → Prop), xW xSC 95 62 [.ref a0, .ref a1, .ref a2, .int a3, .int a4, a5] (st) M Q = xW xSC 95 63 [.ref a0, .ref a1, .ref a2, .int a3, .int a4, a5] (.ref a2 :: st) M Q) ∧
  (∀ (a0 : Nat) (a1 : Nat) (a2 : Nat) (a3 : Int32) (a4 : Int32) (a5 : Value) (st : List Value) (M : xM) (Q : Option Value → xM → Prop), xW xSC 95 63 [.ref a0, .ref a1, .ref a2, .int a3, .int a4, a5] (.ref 31 :: st) M Q = xW xSC 95 66 [.ref a0, .ref a1, .ref a2, .int a3, .int a4, a5] (.int (M 31 2) :: st) M Q) ∧
  (∀ (a0 : Nat) (a1 : Nat) (a2 : Nat) (a3 : Int32) (a4 : Int32) (a5 : Value) (y0 : Int32) (y1 : Int32) (y2 : Nat) (M : xM) (Q : Option Value → xM → Prop), xW xSC 95 66 [.ref a0, .ref a1, .ref a2, .int a3, .int a4, a5] (.int y0 :: .int y1 :: .ref y2 :: .ref 34 :: []) M Q = xW xSC 94 0 [.ref 34, .ref y2, .int y1, .int y0, .null, .null, .null] [] M (fun v M' => xW xSC 95 69 [.ref a0, .ref a1, .ref a2, .int a3, .int a4, a5] (xpush v []) M' Q)) ∧
  (∀ (a0 : Nat) (a1 : Nat) (a2 : Nat) (a3 : Int32) (a4 : Int32) (a5 : Value) (y0 : Int32) (st : List Value) (M : xM) (Q : Option Value → xM → Prop), xW xSC 95 69 [.ref a0, .ref a1, .ref a2, .int a3, .int a4, a5] (.int y0 :: st) M Q = xW xSC 95 71 [.ref a0, .ref a1, .ref a2, .int a3, .int a4, .int y0] (st) M Q) ∧
  (∀ (a0 : Nat) (a1 : Nat) (a2 : Nat) (a3 : Int32) (a4 : Int32) (a5 : Int32) (st : List Value) (M : xM) (Q : Option Value → xM → Prop), xW xSC 95 71 [.ref a0, .ref a1, .ref a2, .int a3, .int a4, .int a5] (st) M Q = xW xSC 95 73 [.ref a0, .ref a1, .ref a2, .int a3, .int a4, .int a5] (.int a5 :: st) M Q) ∧
  (∀ (a0 : Nat) (a1 : Nat) (a2 : Nat) (a3 : Int32) (a4 : Int32) (a5 : Int32) (st : List Value) (M : xM) (Q : Option Value → xM → Prop), xW xSC 95 73 [.ref a0, .ref a1, .ref a2, .int a3, .int a4, .int a5] (st) M Q = xW xSC 95 74 [.ref a0, .ref a1, .ref a2, .int a3, .int a4, .int a5] (.ref a0 :: st) M Q) ∧
  (∀ (a0 : Nat) (a1 : Nat) (a2 : Nat) (a3 : Int32) (a4 : Int32) (a5 : Int32) (st : List Value) (M : xM) (Q : Option Value → xM → Prop), xW xSC 95 74 [.ref a0, .ref a1, .ref a2, .int a3, .int a4, .int a5] (.ref 34 :: st) M Q = xW xSC 95 77 [.ref a0, .ref a1, .ref a2, .int a3, .int a4, .int a5] (.int (M 34 4) :: st) M Q) ∧
  (∀ (a0 : Nat) (a1 : Nat) (a2 : Nat) (a3 : Int32) (a4 : Int32) (a5 : Int32) (y0 : Int32) (y1 : Int32) (st : List Value) (M : xM) (Q : Option Value → xM → Prop), xW xSC 95 77 [.ref a0, .ref a1, .ref a2, .int a3, .int a4, .int a5] (.int y0 :: .int y1 :: st) M Q = if y1 < y0 then xW xSC 95 80 [.ref a0, .ref a1, .ref a2, .int a3, .int a4, .int a5] (st) M Q else xW xSC 95 91 [.ref a0, .ref a1, .ref a2, .int a3, .int a4, .int a5] (st) M Q) ∧
  (∀ (a0 : Nat) (a1 : Nat) (a2 : Nat) (a3 : Int32) (a4 : Int32) (a5 : Int32) (st : List Value) (M : xM) (Q : Option Value → xM → Prop), xW xSC 95 80 [.ref a0, .ref a1, .ref a2, .int a3, .int a4, .int a5] (st) M Q = xW xSC 95 81 [.ref a0, .ref a1, .ref a2, .int a3, .int a4, .int a5] (.ref a0 :: st) M Q) ∧
  (∀ (a0 : Nat) (a1 : Nat) (a2 : Nat) (a3 : Int32) (a4 : Int32) (a5 : Int32) (st : List Value) (M : xM) (Q : Option Value → xM → Prop), xW xSC 95 81 [.ref a0, .ref a1, .ref a2, .int a3, .int a4, .int a5] (st) M Q = xW xSC 95 83 [.ref a0, .ref a1, .ref a2, .int a3, .int a4, .int a5] (.int a5 :: st) M Q) ∧
  (∀ (a0 : Nat) (a1 : Nat) (a2 : Nat) (a3 : Int32) (a4 : Int32) (a5 : Int32) (y0 : Int32) (st : List Value) (M : xM) (Q : Option Value → xM → Prop), xW xSC 95 83 [.ref a0, .ref a1, .ref a2, .int a3, .int a4, .int a5] (.int y0 :: .ref 34 :: st) M Q = xW xSC 95 86 [.ref a0, .ref a1, .ref a2, .int a3, .int a4, .int a5] (st) (xup M 34 4 y0) Q) ∧
  (∀ (a0 : Nat) (a1 : Nat) (a2 : Nat) (a3 : Int32) (a4 : Int32) (a5 : Int32) (st : List Value) (M : xM) (Q : Option Value → xM → Prop), xW xSC 95 86 [.ref a0, .ref a1, .ref a2, .int a3, .int a4, .int a5] (st) M Q = xW xSC 95 87 [.ref a0, .ref a1, .ref a2, .int a3, .int a4, .int a5] (.ref a0 :: st) M Q) ∧
  (∀ (a0 : Nat) (a1 : Nat) (a2 : Nat) (a3 : Int32) (a4 : Int32) (a5 : Int32) (st : List Value) (M : xM) (Q : Option Value → xM → Prop), xW xSC 95 87 [.ref a0, .ref a1, .ref a2, .int a3, .int a4, .int a5] (st) M Q = xW xSC 95 88 [.ref a0, .ref a1, .ref a2, .int a3, .int a4, .int a5] (.int a3 :: st) M Q) ∧
  (∀ (a0 : Nat) (a1 : Nat) (a2 : Nat) (a3 : Int32) (a4 : Int32) (a5 : Int32) (y0 : Int32) (st : List Value) (M : xM) (Q : Option Value → xM → Prop), xW xSC 95 88 [.ref a0, .ref a1, .ref a2, .int a3, .int a4, .int a5] (.int y0 :: .ref 34 :: st) M Q = xW xSC 95 91 [.ref a0, .ref a1, .ref a2, .int a3, .int a4, .int a5] (st) (xup M 34 5 y0) Q) ∧
  (∀ (a0 : Nat) (a1 : Nat) (a2 : Nat) (a3 : Int32) (a4 : Int32) (a5 : Value) (st : List Value) (M : xM) (Q : Option Value → xM → Prop), xW xSC 95 94 [.ref a0, .ref a1, .ref a2, .int a3, .int a4, a5] (st) M Q = xW xSC 95 13 [.ref a0, .ref a1, .ref a2, .int a3, .int a4, a5] (st) M Q) ∧
  (∀ (a0 : Nat) (a1 : Nat) (a2 : Nat) (a3 : Int32) (a4 : Value) (a5 : Value) (M : xM) (Q : Option Value → xM → Prop), xW xSC 95 97 [.ref a0, .ref a1, .ref a2, .int a3, a4, a5] ([]) M Q = Q none M) :=
  ⟨fun a0 a1 a2 a3 a4 a5 st M Q => xw_s rfl rfl,
  fun a0 a1 a2 a3 a4 a5 st M Q => xw_s rfl rfl,
  fun a0 a1 a2 a3 a4 a5 y0 st M Q => xw_s rfl rfl,
  fun a0 a1 a2 a3 a4 a5 st M Q => xw_s rfl rfl,
  fun a0 a1 a2 a3 a4 a5 st M Q => xw_s rfl rfl,
  fun a0 a1 a2 a3 a4 a5 y0 st M Q => xw_s rfl rfl,
  fun a0 a1 a2 a3 a4 a5 st M Q => xw_s rfl rfl,
  fun a0 a1 a2 a3 a4 a5 y0 st M Q => xw_s rfl rfl,
  fun a0 a1 a2 a3 a4 a5 st M Q => xw_s rfl rfl,
  fun a0 a1 a2 a3 a4 a5 st M Q => xw_s rfl rfl,
  fun a0 a1 a2 a3 a4 a5 y0 y1 st M Q => xw_brn (c0 := y0 ≤ y1) (c1 := y1 < y0) rfl rfl (xge _ _),
  fun a0 a1 a2 a3 a4 a5 st M Q => xw_s rfl rfl,
  fun a0 a1 a2 a3 a4 a5 st M Q => xw_s rfl rfl,
  fun a0 a1 a2 a3 a4 a5 st M Q => xw_s rfl rfl,
  fun a0 a1 a2 a3 a4 a5 st M Q => xw_s rfl rfl,
  fun a0 a1 a2 a3 a4 a5 y0 y1 M Q => xw_call rfl rfl rfl,
  fun a0 a1 a2 a3 a4 a5 y0 st M Q => xw_s rfl rfl,
  fun a0 a1 a2 a3 a4 a5 st M Q => xw_s rfl rfl,
  fun a0 a1 a2 a3 a4 a5 y0 st M Q => xw_br (c0 := y0 < nI 0) rfl rfl,
  fun a0 a1 a2 a3 a4 a5 st M Q => xw_s rfl rfl,
  fun a0 a1 a2 a3 a4 a5 st M Q => xw_s rfl rfl,
  fun a0 a1 a2 a3 a4 a5 st M Q => xw_s rfl rfl,
  fun a0 a1 a2 a3 a4 a5 st M Q => xw_s rfl rfl,
  fun a0 a1 a2 a3 a4 a5 y0 y1 y3 M Q => xw_call rfl rfl rfl,
  fun a0 a1 a2 a3 a4 a5 y0 M Q => xw_call rfl rfl rfl,
  fun a0 a1 a2 a3 a4 a5 y0 st M Q => xw_brn (c0 := y0 ≠ nI 0) (c1 := y0 = nI 0) rfl rfl (Iff.rfl),
  fun a0 a1 a2 a3 a4 a5 st M Q => xw_s rfl rfl,
  fun a0 a1 a2 a3 a4 a5 st M Q => xw_s rfl rfl,
  fun a0 a1 a2 a3 a4 a5 st M Q => xw_s rfl rfl,
  fun a0 a1 a2 a3 a4 a5 st M Q => xw_s rfl rfl,
  fun a0 a1 a2 a3 a4 a5 st M Q => xw_s rfl rfl,
  fun a0 a1 a2 a3 a4 a5 y0 y1 st M Q => xw_s rfl rfl,
  fun a0 a1 a2 a3 a4 a5 st M Q => xw_s rfl rfl,
  fun a0 a1 a2 a3 a4 a5 y0 y1 st M Q => xw_s rfl rfl,
  fun a0 a1 a2 a3 a4 a5 st M Q => xw_s rfl rfl,
  fun a0 a1 a2 a3 a4 a5 st M Q => xw_s rfl rfl,
  fun a0 a1 a2 a3 a4 a5 y0 y1 y2 M Q => xw_call rfl rfl rfl,
  fun a0 a1 a2 a3 a4 a5 y0 st M Q => xw_s rfl rfl,
  fun a0 a1 a2 a3 a4 a5 st M Q => xw_s rfl rfl,
  fun a0 a1 a2 a3 a4 a5 st M Q => xw_s rfl rfl,
  fun a0 a1 a2 a3 a4 a5 st M Q => xw_s rfl rfl,
  fun a0 a1 a2 a3 a4 a5 y0 y1 st M Q => xw_brn (c0 := y0 ≤ y1) (c1 := y1 < y0) rfl rfl (xge _ _),
  fun a0 a1 a2 a3 a4 a5 st M Q => xw_s rfl rfl,
  fun a0 a1 a2 a3 a4 a5 st M Q => xw_s rfl rfl,
  fun a0 a1 a2 a3 a4 a5 y0 st M Q => xw_s rfl rfl,
  fun a0 a1 a2 a3 a4 a5 st M Q => xw_s rfl rfl,
  fun a0 a1 a2 a3 a4 a5 st M Q => xw_s rfl rfl,
  fun a0 a1 a2 a3 a4 a5 y0 st M Q => xw_s rfl rfl,
  fun a0 a1 a2 a3 a4 a5 st M Q => xw_s rfl rfl,
  fun a0 a1 a2 a3 a4 a5 M Q => xw_retv rfl rfl⟩
set_option maxRecDepth 20000 in
theorem h95_13 :
  (∀ (a0 : Nat) (a1 : Nat) (a2 : Nat) (a3 : Int32) (a4 : Value) (a5 : Value) (st : List Value) (M : xM) (Q : Option Value → xM → Prop), xW xSC 95 13 [.ref a0, .ref a1, .ref a2, .int a3, a4, a5] (st) M Q = xW xSC 95 14 [.ref a0, .ref a1, .ref a2, .int a3, a4, a5] (.int a3 :: st) M Q) :=
  fun a0 a1 a2 a3 a4 a5 st M Q => xw_s rfl rfl
set_option maxRecDepth 20000 in
theorem h95_91 :
  (∀ (a0 : Nat) (a1 : Nat) (a2 : Nat) (a3 : Int32) (a4 : Int32) (a5 : Value) (st : List Value) (M : xM) (Q : Option Value → xM → Prop), xW xSC 95 91 [.ref a0, .ref a1, .ref a2, .int a3, .int a4, a5] (st) M Q = xW xSC 95 94 [.ref a0, .ref a1, .ref a2, .int (a3 + nI 1), .int a4, a5] (st) M Q) :=
  fun a0 a1 a2 a3 a4 a5 st M Q => xw_s rfl rfl
set_option maxRecDepth 20000 in
theorem j95 :
  (∀ (a0 : Nat) (a1 : Nat) (a2 : Nat) (a3 : Int32) (a4 : Int32) (a5 : Value) (st : List Value) (M : xM) (Q : Option Value → xM → Prop), xW xSC 95 91 [.ref a0, .ref a1, .ref a2, .int a3, .int a4, a5] (st) M Q = xW xSC 95 94 [.ref a0, .ref a1, .ref a2, .int (a3 + nI 1), .int a4, a5] (st) M Q) :=
  fun a0 a1 a2 a3 a4 a5 st M Q => xw_s rfl rfl
