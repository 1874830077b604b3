set_option maxRecDepth 20000 in
theorem s0 :
  (∀ (a0 : Nat) (a1 : Int32) (st : List Value) (M : xM) (Q : Option Value → xM → Prop), xW xSC 0 0 [.ref a0, .int a1] (st) M Q = xW xSC 0 1 [.ref a0, .int a1] (.int a1 :: st) M Q) ∧
  (∀ (a0 : Nat) (a1 : Int32) (y0 : Int32) (st : List Value) (M : xM) (Q : Option Value → xM → Prop), xW xSC 0 1 [.ref a0, .int a1] (.int y0 :: st) M Q = if y0 < nI 0 then xW xSC 0 16 [.ref a0, .int a1] (st) M Q else xW xSC 0 4 [.ref a0, .int a1] (st) M Q) ∧
  (∀ (a0 : Nat) (a1 : Int32) (st : List Value) (M : xM) (Q : Option Value → xM → Prop), xW xSC 0 4 [.ref a0, .int a1] (st) M Q = xW xSC 0 5 [.ref a0, .int a1] (.int a1 :: st) M Q) ∧
  (∀ (a0 : Nat) (a1 : Int32) (st : List Value) (M : xM) (Q : Option Value → xM → Prop), xW xSC 0 5 [.ref a0, .int a1] (st) M Q = xW xSC 0 6 [.ref a0, .int a1] (.ref a0 :: st) M Q) ∧
  (∀ (a0 : Nat) (a1 : Int32) (y0 : Int32) (y1 : Int32) (st : List Value) (M : xM) (Q : Option Value → xM → Prop), xW xSC 0 7 [.ref a0, .int a1] (.int y0 :: .int y1 :: st) M Q = if y1 < y0 then xW xSC 0 10 [.ref a0, .int a1] (st) M Q else xW xSC 0 16 [.ref a0, .int a1] (st) M Q) ∧
  (∀ (a0 : Nat) (a1 : Int32) (st : List Value) (M : xM) (Q : Option Value → xM → Prop), xW xSC 0 10 [.ref a0, .int a1] (st) M Q = xW xSC 0 11 [.ref a0, .int a1] (.ref a0 :: st) M Q) ∧
  (∀ (a0 : Nat) (a1 : Int32) (st : List Value) (M : xM) (Q : Option Value → xM → Prop), xW xSC 0 11 [.ref a0, .int a1] (st) M Q = xW xSC 0 12 [.ref a0, .int a1] (.int a1 :: st) M Q) ∧
  (∀ (a0 : Nat) (a1 : Int32) (y0 : Nat) (y1 : Nat) (n : Nat) (st : List Value) (M : xM) (Q : Option Value → xM → Prop), xSC[y1]? = some (1, n, []) → n < 2 ^ 31 → y0 < n → xW xSC 0 12 [.ref a0, .int a1] (.int (nI y0) :: .ref y1 :: st) M Q = xW xSC 0 13 [.ref a0, .int a1] (.int (M y1 y0) :: st) M Q) ∧
  (∀ (a0 : Nat) (a1 : Int32) (st : List Value) (M : xM) (Q : Option Value → xM → Prop), xW xSC 0 13 [.ref a0, .int a1] (st) M Q = xW xSC 0 17 [.ref a0, .int a1] (st) M Q) :=
  ⟨fun a0 a1 st M Q => xw_s rfl rfl,
  fun a0 a1 y0 st M Q => xw_br (c0 := y0 < nI 0) rfl rfl,
  fun a0 a1 st M Q => xw_s rfl rfl,
  fun a0 a1 st M Q => xw_s rfl rfl,
  fun a0 a1 y0 y1 st M Q => xw_brn (c0 := y0 ≤ y1) (c1 := y1 < y0) rfl rfl (xge _ _),
  fun a0 a1 st M Q => xw_s rfl rfl,
  fun a0 a1 st M Q => xw_s rfl rfl,
  fun a0 a1 y0 y1 n st M Q h0 h1 h2 => xw_ald rfl rfl h0 h1 h2,
  fun a0 a1 st M Q => xw_s rfl rfl⟩
set_option maxRecDepth 20000 in
theorem h0_16 :
  (∀ (a0 : Nat) (a1 : Int32) (st : List Value) (M : xM) (Q : Option Value → xM → Prop), xW xSC 0 16 [.ref a0, .int a1] (st) M Q = xW xSC 0 17 [.ref a0, .int a1] (.int (nI 0) :: st) M Q) :=
  fun a0 a1 st M Q => xw_s rfl rfl
set_option maxRecDepth 20000 in
theorem h0_17 :
  (∀ (a0 : Nat) (a1 : Int32) (y0 : Int32) (M : xM) (Q : Option Value → xM → Prop), xW xSC 0 17 [.ref a0, .int a1] ([.int y0]) M Q = Q (some (.int y0)) M) :=
  fun a0 a1 y0 M Q => xw_ret rfl rfl
set_option maxRecDepth 20000 in
theorem j0 :
  (∀ (a0 : Nat) (a1 : Int32) (st : List Value) (M : xM) (Q : Option Value → xM → Prop), xW xSC 0 16 [.ref a0, .int a1] (st) M Q = xW xSC 0 17 [.ref a0, .int a1] (.int (nI 0) :: st) M Q) ∧
  (∀ (a0 : Nat) (a1 : Int32) (y0 : Int32) (M : xM) (Q : Option Value → xM → Prop), xW xSC 0 17 [.ref a0, .int a1] ([.int y0]) M Q = Q (some (.int y0)) M) :=
  ⟨fun a0 a1 st M Q => xw_s rfl rfl,
  fun a0 a1 y0 M Q => xw_ret rfl rfl⟩

set_option maxRecDepth 20000 in
theorem s1 :
  (∀ (a0 : Nat) (a1 : Int32) (a2 : Int32) (st : List Value) (M : xM) (Q : Option Value → xM → Prop), xW xSC 1 0 [.ref a0, .int a1, .int a2] (st) M Q = xW xSC 1 1 [.ref a0, .int a1, .int a2] (.int a1 :: st) M Q) ∧
  (∀ (a0 : Nat) (a1 : Int32) (a2 : Int32) (y0 : Int32) (st : List Value) (M : xM) (Q : Option Value → xM → Prop), xW xSC 1 1 [.ref a0, .int a1, .int a2] (.int y0 :: st) M Q = if y0 < nI 0 then xW xSC 1 14 [.ref a0, .int a1, .int a2] (st) M Q else xW xSC 1 4 [.ref a0, .int a1, .int a2] (st) M Q) ∧
  (∀ (a0 : Nat) (a1 : Int32) (a2 : Int32) (st : List Value) (M : xM) (Q : Option Value → xM → Prop), xW xSC 1 4 [.ref a0, .int a1, .int a2] (st) M Q = xW xSC 1 5 [.ref a0, .int a1, .int a2] (.int a1 :: st) M Q) ∧
  (∀ (a0 : Nat) (a1 : Int32) (a2 : Int32) (st : List Value) (M : xM) (Q : Option Value → xM → Prop), xW xSC 1 5 [.ref a0, .int a1, .int a2] (st) M Q = xW xSC 1 6 [.ref a0, .int a1, .int a2] (.ref a0 :: st) M Q) ∧
  (∀ (a0 : Nat) (a1 : Int32) (a2 : Int32) (y0 : Int32) (y1 : Int32) (st : List Value) (M : xM) (Q : Option Value → xM → Prop), xW xSC 1 7 [.ref a0, .int a1, .int a2] (.int y0 :: .int y1 :: st) M Q = if y1 < y0 then xW xSC 1 10 [.ref a0, .int a1, .int a2] (st) M Q else xW xSC 1 14 [.ref a0, .int a1, .int a2] (st) M Q) ∧
  (∀ (a0 : Nat) (a1 : Int32) (a2 : Int32) (st : List Value) (M : xM) (Q : Option Value → xM → Prop), xW xSC 1 10 [.ref a0, .int a1, .int a2] (st) M Q = xW xSC 1 11 [.ref a0, .int a1, .int a2] (.ref a0 :: st) M Q) ∧
  (∀ (a0 : Nat) (a1 : Int32) (a2 : Int32) (st : List Value) (M : xM) (Q : Option Value → xM → Prop), xW xSC 1 11 [.ref a0, .int a1, .int a2] (st) M Q = xW xSC 1 12 [.ref a0, .int a1, .int a2] (.int a1 :: st) M Q) ∧
  (∀ (a0 : Nat) (a1 : Int32) (a2 : Int32) (st : List Value) (M : xM) (Q : Option Value → xM → Prop), xW xSC 1 12 [.ref a0, .int a1, .int a2] (st) M Q = xW xSC 1 13 [.ref a0, .int a1, .int a2] (.int a2 :: st) M Q) ∧
  (∀ (a0 : Nat) (a1 : Int32) (a2 : Int32) (y0 : Int32) (y1 : Nat) (y2 : Nat) (n : Nat) (st : List Value) (M : xM) (Q : Option Value → xM → Prop), xSC[y2]? = some (1, n, []) → n < 2 ^ 31 → y1 < n → xW xSC 1 13 [.ref a0, .int a1, .int a2] (.int y0 :: .int (nI y1) :: .ref y2 :: st) M Q = xW xSC 1 14 [.ref a0, .int a1, .int a2] (st) (xup M y2 y1 y0) Q) :=
  ⟨fun a0 a1 a2 st M Q => xw_s rfl rfl,
  fun a0 a1 a2 y0 st M Q => xw_br (c0 := y0 < nI 0) rfl rfl,
  fun a0 a1 a2 st M Q => xw_s rfl rfl,
  fun a0 a1 a2 st M Q => xw_s rfl rfl,
  fun a0 a1 a2 y0 y1 st M Q => xw_brn (c0 := y0 ≤ y1) (c1 := y1 < y0) rfl rfl (xge _ _),
  fun a0 a1 a2 st M Q => xw_s rfl rfl,
  fun a0 a1 a2 st M Q => xw_s rfl rfl,
  fun a0 a1 a2 st M Q => xw_s rfl rfl,
  fun a0 a1 a2 y0 y1 y2 n st M Q h0 h1 h2 => xw_ast (f := fun x => x) rfl rfl h0 h1 h2⟩
set_option maxRecDepth 20000 in
theorem h1_14 :
  (∀ (a0 : Nat) (a1 : Int32) (a2 : Int32) (M : xM) (Q : Option Value → xM → Prop), xW xSC 1 14 [.ref a0, .int a1, .int a2] ([]) M Q = Q none M) :=
  fun a0 a1 a2 M Q => xw_retv rfl rfl
set_option maxRecDepth 20000 in
theorem j1 :
  (∀ (a0 : Nat) (a1 : Int32) (a2 : Int32) (M : xM) (Q : Option Value → xM → Prop), xW xSC 1 14 [.ref a0, .int a1, .int a2] ([]) M Q = Q none M) :=
  fun a0 a1 a2 M Q => xw_retv rfl rfl

set_option maxRecDepth 20000 in
theorem s2 :
  (∀ (a0 : Nat) (a1 : Nat) (st : List Value) (M : xM) (Q : Option Value → xM → Prop), xW xSC 2 0 [.ref a0, .ref a1] (st) M Q = xW xSC 2 1 [.ref a0, .ref a1] (.ref a0 :: st) M Q) ∧
  (∀ (a0 : Nat) (a1 : Nat) (st : List Value) (M : xM) (Q : Option Value → xM → Prop), xW xSC 2 1 [.ref a0, .ref a1] (st) M Q = xW xSC 2 2 [.ref a0, .ref a1] (.int (nI 0) :: st) M Q) ∧
  (∀ (a0 : Nat) (a1 : Nat) (st : List Value) (M : xM) (Q : Option Value → xM → Prop), xW xSC 2 2 [.ref a0, .ref a1] (st) M Q = xW xSC 2 3 [.ref a0, .ref a1] (.ref a1 :: st) M Q) ∧
  (∀ (a0 : Nat) (a1 : Nat) (st : List Value) (M : xM) (Q : Option Value → xM → Prop), xW xSC 2 3 [.ref a0, .ref a1] (st) M Q = xW xSC 2 4 [.ref a0, .ref a1] (.int (nI 0) :: st) M Q) ∧
  (∀ (a0 : Nat) (a1 : Nat) (st : List Value) (M : xM) (Q : Option Value → xM → Prop), xW xSC 2 4 [.ref a0, .ref a1] (st) M Q = xW xSC 2 5 [.ref a0, .ref a1] (.ref a0 :: st) M Q) ∧
  (∀ (a0 : Nat) (a1 : Nat) (st : List Value) (M : xM) (Q : Option Value → xM → Prop), xW xSC 2 6 [.ref a0, .ref a1] (st) M Q = xW xSC 2 7 [.ref a0, .ref a1] (.ref a1 :: st) M Q) ∧
  (∀ (a0 : Nat) (a1 : Nat) (y0 : Int32) (y1 : Int32) (y2 : Int32) (y3 : Nat) (y4 : Int32) (y5 : Nat) (M : xM) (Q : Option Value → xM → Prop), xW xSC 2 8 [.ref a0, .ref a1] (.int y0 :: .int y1 :: .int y2 :: .ref y3 :: .int y4 :: .ref y5 :: []) M Q = xW xSC 2 11 [.ref a0, .ref a1] (.int (xmin y1 y0) :: .int y2 :: .ref y3 :: .int y4 :: .ref y5 :: []) M Q) ∧
  (∀ (a0 : Nat) (a1 : Nat) (M : xM) (Q : Option Value → xM → Prop), xW xSC 2 14 [.ref a0, .ref a1] ([]) M Q = Q none M) :=
  ⟨fun a0 a1 st M Q => xw_s rfl rfl,
  fun a0 a1 st M Q => xw_s rfl rfl,
  fun a0 a1 st M Q => xw_s rfl rfl,
  fun a0 a1 st M Q => xw_s rfl rfl,
  fun a0 a1 st M Q => xw_s rfl rfl,
  fun a0 a1 st M Q => xw_s rfl rfl,
  fun a0 a1 y0 y1 y2 y3 y4 y5 M Q => xw_s rfl rfl,
  fun a0 a1 M Q => xw_retv rfl rfl⟩
theorem j2 : True := trivial

set_option maxRecDepth 20000 in
theorem s3 :
  (∀ (a0 : Nat) (a1 : Int32) (a2 : Value) (st : List Value) (M : xM) (Q : Option Value → xM → Prop), xW xSC 3 0 [.ref a0, .int a1, a2] (st) M Q = xW xSC 3 1 [.ref a0, .int a1, a2] (.int (nI 0) :: st) M Q) ∧
  (∀ (a0 : Nat) (a1 : Int32) (a2 : Value) (y0 : Int32) (st : List Value) (M : xM) (Q : Option Value → xM → Prop), xW xSC 3 1 [.ref a0, .int a1, a2] (.int y0 :: st) M Q = xW xSC 3 2 [.ref a0, .int a1, .int y0] (st) M Q) ∧
  (∀ (a0 : Nat) (a1 : Int32) (a2 : Int32) (st : List Value) (M : xM) (Q : Option Value → xM → Prop), xW xSC 3 3 [.ref a0, .int a1, .int a2] (st) M Q = xW xSC 3 4 [.ref a0, .int a1, .int a2] (.ref a0 :: st) M Q) ∧
  (∀ (a0 : Nat) (a1 : Int32) (a2 : Int32) (y0 : Int32) (y1 : Int32) (st : List Value) (M : xM) (Q : Option Value → xM → Prop), xW xSC 3 5 [.ref a0, .int a1, .int a2] (.int y0 :: .int y1 :: st) M Q = if y1 < y0 then xW xSC 3 8 [.ref a0, .int a1, .int a2] (st) M Q else xW xSC 3 18 [.ref a0, .int a1, .int a2] (st) M Q) ∧
  (∀ (a0 : Nat) (a1 : Int32) (a2 : Int32) (st : List Value) (M : xM) (Q : Option Value → xM → Prop), xW xSC 3 8 [.ref a0, .int a1, .int a2] (st) M Q = xW xSC 3 9 [.ref a0, .int a1, .int a2] (.ref a0 :: st) M Q) ∧
  (∀ (a0 : Nat) (a1 : Int32) (a2 : Int32) (st : List Value) (M : xM) (Q : Option Value → xM → Prop), xW xSC 3 9 [.ref a0, .int a1, .int a2] (st) M Q = xW xSC 3 10 [.ref a0, .int a1, .int a2] (.int a2 :: st) M Q) ∧
  (∀ (a0 : Nat) (a1 : Int32) (a2 : Int32) (st : List Value) (M : xM) (Q : Option Value → xM → Prop), xW xSC 3 10 [.ref a0, .int a1, .int a2] (st) M Q = xW xSC 3 11 [.ref a0, .int a1, .int a2] (.int a1 :: st) M Q) ∧
  (∀ (a0 : Nat) (a1 : Int32) (a2 : Int32) (y0 : Int32) (y1 : Nat) (y2 : Nat) (n : Nat) (st : List Value) (M : xM) (Q : Option Value → xM → Prop), xSC[y2]? = some (1, n, []) → n < 2 ^ 31 → y1 < n → xW xSC 3 11 [.ref a0, .int a1, .int a2] (.int y0 :: .int (nI y1) :: .ref y2 :: st) M Q = xW xSC 3 12 [.ref a0, .int a1, .int a2] (st) (xup M y2 y1 y0) Q) ∧
  (∀ (a0 : Nat) (a1 : Int32) (a2 : Int32) (st : List Value) (M : xM) (Q : Option Value → xM → Prop), xW xSC 3 12 [.ref a0, .int a1, .int a2] (st) M Q = xW xSC 3 15 [.ref a0, .int a1, .int (a2 + nI 1)] (st) M Q) ∧
  (∀ (a0 : Nat) (a1 : Int32) (a2 : Int32) (st : List Value) (M : xM) (Q : Option Value → xM → Prop), xW xSC 3 15 [.ref a0, .int a1, .int a2] (st) M Q = xW xSC 3 2 [.ref a0, .int a1, .int a2] (st) M Q) ∧
  (∀ (a0 : Nat) (a1 : Int32) (a2 : Int32) (M : xM) (Q : Option Value → xM → Prop), xW xSC 3 18 [.ref a0, .int a1, .int a2] ([]) M Q = Q none M) :=
  ⟨fun a0 a1 a2 st M Q => xw_s rfl rfl,
  fun a0 a1 a2 y0 st M Q => xw_s rfl rfl,
  fun a0 a1 a2 st M Q => xw_s rfl rfl,
  fun a0 a1 a2 y0 y1 st M Q => xw_brn (c0 := y0 ≤ y1) (c1 := y1 < y0) rfl rfl (xge _ _),
  fun a0 a1 a2 st M Q => xw_s rfl rfl,
  fun a0 a1 a2 st M Q => xw_s rfl rfl,
  fun a0 a1 a2 st M Q => xw_s rfl rfl,
  fun a0 a1 a2 y0 y1 y2 n st M Q h0 h1 h2 => xw_ast (f := fun x => x) rfl rfl h0 h1 h2,
  fun a0 a1 a2 st M Q => xw_s rfl rfl,
  fun a0 a1 a2 st M Q => xw_s rfl rfl,
  fun a0 a1 a2 M Q => xw_retv rfl rfl⟩
set_option maxRecDepth 20000 in
theorem h3_2 :
  (∀ (a0 : Nat) (a1 : Int32) (a2 : Int32) (st : List Value) (M : xM) (Q : Option Value → xM → Prop), xW xSC 3 2 [.ref a0, .int a1, .int a2] (st) M Q = xW xSC 3 3 [.ref a0, .int a1, .int a2] (.int a2 :: st) M Q) :=
  fun a0 a1 a2 st M Q => xw_s rfl rfl
theorem j3 : True := trivial

set_option maxRecDepth 20000 in
theorem s5 :
  (∀ (a0 : Nat) (st : List Value) (M : xM) (Q : Option Value → xM → Prop), xW xSC 5 0 [.ref a0] (st) M Q = xW xSC 5 1 [.ref a0] (.ref a0 :: st) M Q) ∧
  (∀ (a0 : Nat) (st : List Value) (M : xM) (Q : Option Value → xM → Prop), xW xSC 5 1 [.ref a0] (st) M Q = xW xSC 5 2 [.ref a0] (.int (nI 0) :: st) M Q) ∧
  (∀ (a0 : Nat) (y0 : Int32) (st : List Value) (M : xM) (Q : Option Value → xM → Prop), xW xSC 5 2 [.ref a0] (.int y0 :: .ref 24 :: st) M Q = xW xSC 5 5 [.ref a0] (st) (xup M 24 2 y0) Q) ∧
  (∀ (a0 : Nat) (M : xM) (Q : Option Value → xM → Prop), xW xSC 5 5 [.ref a0] ([]) M Q = Q none M) :=
  ⟨fun a0 st M Q => xw_s rfl rfl,
  fun a0 st M Q => xw_s rfl rfl,
  fun a0 y0 st M Q => xw_s rfl rfl,
  fun a0 M Q => xw_retv rfl rfl⟩
theorem j5 : True := trivial

set_option maxRecDepth 20000 in
theorem s6 :
  (∀ (a0 : Nat) (a1 : Nat) (a2 : Int32) (a3 : Int32) (a4 : Value) (st : List Value) (M : xM) (Q : Option Value → xM → Prop), xW xSC 6 0 [.ref a0, .ref a1, .int a2, .int a3, a4] (st) M Q = xW xSC 6 1 [.ref a0, .ref a1, .int a2, .int a3, a4] (.ref a0 :: st) M Q) ∧
  (∀ (a0 : Nat) (a1 : Nat) (a2 : Int32) (a3 : Int32) (a4 : Value) (st : List Value) (M : xM) (Q : Option Value → xM → Prop), xW xSC 6 1 [.ref a0, .ref a1, .int a2, .int a3, a4] (.ref 24 :: st) M Q = xW xSC 6 4 [.ref a0, .ref a1, .int a2, .int a3, a4] (.int (M 24 1) :: st) M Q) ∧
  (∀ (a0 : Nat) (a1 : Nat) (a2 : Int32) (a3 : Int32) (a4 : Value) (st : List Value) (M : xM) (Q : Option Value → xM → Prop), xW xSC 6 4 [.ref a0, .ref a1, .int a2, .int a3, a4] (st) M Q = xW xSC 6 6 [.ref a0, .ref a1, .int a2, .int a3, a4] (.int (nI 6) :: st) M Q) ∧
  (∀ (a0 : Nat) (a1 : Nat) (a2 : Int32) (a3 : Int32) (a4 : Value) (y0 : Int32) (y1 : Int32) (st : List Value) (M : xM) (Q : Option Value → xM → Prop), xW xSC 6 6 [.ref a0, .ref a1, .int a2, .int a3, a4] (.int y0 :: .int y1 :: st) M Q = xW xSC 6 7 [.ref a0, .ref a1, .int a2, .int a3, a4] (.int (y1 * y0) :: st) M Q) ∧
  (∀ (a0 : Nat) (a1 : Nat) (a2 : Int32) (a3 : Int32) (a4 : Value) (y0 : Int32) (st : List Value) (M : xM) (Q : Option Value → xM → Prop), xW xSC 6 7 [.ref a0, .ref a1, .int a2, .int a3, a4] (.int y0 :: st) M Q = xW xSC 6 9 [.ref a0, .ref a1, .int a2, .int a3, .int y0] (st) M Q) ∧
  (∀ (a0 : Nat) (a1 : Nat) (a2 : Int32) (a3 : Int32) (a4 : Int32) (st : List Value) (M : xM) (Q : Option Value → xM → Prop), xW xSC 6 9 [.ref a0, .ref a1, .int a2, .int a3, .int a4] (st) M Q = xW xSC 6 10 [.ref a0, .ref a1, .int a2, .int a3, .int a4] (.ref a0 :: st) M Q) ∧
  (∀ (a0 : Nat) (a1 : Nat) (a2 : Int32) (a3 : Int32) (a4 : Int32) (st : List Value) (M : xM) (Q : Option Value → xM → Prop), xW xSC 6 10 [.ref a0, .ref a1, .int a2, .int a3, .int a4] (.ref 24 :: st) M Q = xW xSC 6 13 [.ref a0, .ref a1, .int a2, .int a3, .int a4] (.ref 25 :: st) M Q) ∧
  (∀ (a0 : Nat) (a1 : Nat) (a2 : Int32) (a3 : Int32) (a4 : Int32) (st : List Value) (M : xM) (Q : Option Value → xM → Prop), xW xSC 6 13 [.ref a0, .ref a1, .int a2, .int a3, .int a4] (st) M Q = xW xSC 6 15 [.ref a0, .ref a1, .int a2, .int a3, .int a4] (.int a4 :: st) M Q) ∧
  (∀ (a0 : Nat) (a1 : Nat) (a2 : Int32) (a3 : Int32) (a4 : Int32) (st : List Value) (M : xM) (Q : Option Value → xM → Prop), xW xSC 6 15 [.ref a0, .ref a1, .int a2, .int a3, .int a4] (st) M Q = xW xSC 6 16 [.ref a0, .ref a1, .int a2, .int a3, .int a4] (.int (nI 0) :: st) M Q) ∧
  (∀ (a0 : Nat) (a1 : Nat) (a2 : Int32) (a3 : Int32) (a4 : Int32) (y0 : Int32) (y1 : Int32) (y2 : Nat) (M : xM) (Q : Option Value → xM → Prop), xW xSC 6 16 [.ref a0, .ref a1, .int a2, .int a3, .int a4] (.int y0 :: .int y1 :: .ref y2 :: []) M Q = xW xSC 1 0 [.ref y2, .int y1, .int y0] [] M (fun v M' => xW xSC 6 19 [.ref a0, .ref a1, .int a2, .int a3, .int a4] (xpush v []) M' Q)) ∧
  (∀ (a0 : Nat) (a1 : Nat) (a2 : Int32) (a3 : Int32) (a4 : Int32) (st : List Value) (M : xM) (Q : Option Value → xM → Prop), xW xSC 6 19 [.ref a0, .ref a1, .int a2, .int a3, .int a4] (st) M Q = xW xSC 6 20 [.ref a0, .ref a1, .int a2, .int a3, .int a4] (.ref a0 :: st) M Q) ∧
  (∀ (a0 : Nat) (a1 : Nat) (a2 : Int32) (a3 : Int32) (a4 : Int32) (st : List Value) (M : xM) (Q : Option Value → xM → Prop), xW xSC 6 20 [.ref a0, .ref a1, .int a2, .int a3, .int a4] (.ref 24 :: st) M Q = xW xSC 6 23 [.ref a0, .ref a1, .int a2, .int a3, .int a4] (.ref 25 :: st) M Q) ∧
  (∀ (a0 : Nat) (a1 : Nat) (a2 : Int32) (a3 : Int32) (a4 : Int32) (st : List Value) (M : xM) (Q : Option Value → xM → Prop), xW xSC 6 23 [.ref a0, .ref a1, .int a2, .int a3, .int a4] (st) M Q = xW xSC 6 25 [.ref a0, .ref a1, .int a2, .int a3, .int a4] (.int a4 :: st) M Q) ∧
  (∀ (a0 : Nat) (a1 : Nat) (a2 : Int32) (a3 : Int32) (a4 : Int32) (st : List Value) (M : xM) (Q : Option Value → xM → Prop), xW xSC 6 25 [.ref a0, .ref a1, .int a2, .int a3, .int a4] (st) M Q = xW xSC 6 26 [.ref a0, .ref a1, .int a2, .int a3, .int a4] (.int (nI 1) :: st) M Q) ∧
  (∀ (a0 : Nat) (a1 : Nat) (a2 : Int32) (a3 : Int32) (a4 : Int32) (y0 : Int32) (y1 : Int32) (st : List Value) (M : xM) (Q : Option Value → xM → Prop), xW xSC 6 26 [.ref a0, .ref a1, .int a2, .int a3, .int a4] (.int y0 :: .int y1 :: st) M Q = xW xSC 6 27 [.ref a0, .ref a1, .int a2, .int a3, .int a4] (.int (y1 + y0) :: st) M Q) ∧
  (∀ (a0 : Nat) (a1 : Nat) (a2 : Int32) (a3 : Int32) (a4 : Int32) (st : List Value) (M : xM) (Q : Option Value → xM → Prop), xW xSC 6 27 [.ref a0, .ref a1, .int a2, .int a3, .int a4] (st) M Q = xW xSC 6 28 [.ref a0, .ref a1, .int a2, .int a3, .int a4] (.int a2 :: st) M Q) ∧
  (∀ (a0 : Nat) (a1 : Nat) (a2 : Int32) (a3 : Int32) (a4 : Int32) (y0 : Int32) (y1 : Int32) (y2 : Nat) (M : xM) (Q : Option Value → xM → Prop), xW xSC 6 28 [.ref a0, .ref a1, .int a2, .int a3, .int a4] (.int y0 :: .int y1 :: .ref y2 :: []) M Q = xW xSC 1 0 [.ref y2, .int y1, .int y0] [] M (fun v M' => xW xSC 6 31 [.ref a0, .ref a1, .int a2, .int a3, .int a4] (xpush v []) M' Q)) ∧
  (∀ (a0 : Nat) (a1 : Nat) (a2 : Int32) (a3 : Int32) (a4 : Int32) (st : List Value) (M : xM) (Q : Option Value → xM → Prop), xW xSC 6 31 [.ref a0, .ref a1, .int a2, .int a3, .int a4] (st) M Q = xW xSC 6 32 [.ref a0, .ref a1, .int a2, .int a3, .int a4] (.ref a0 :: st) M Q) ∧
  (∀ (a0 : Nat) (a1 : Nat) (a2 : Int32) (a3 : Int32) (a4 : Int32) (st : List Value) (M : xM) (Q : Option Value → xM → Prop), xW xSC 6 32 [.ref a0, .ref a1, .int a2, .int a3, .int a4] (.ref 24 :: st) M Q = xW xSC 6 35 [.ref a0, .ref a1, .int a2, .int a3, .int a4] (.ref 25 :: st) M Q) ∧
  (∀ (a0 : Nat) (a1 : Nat) (a2 : Int32) (a3 : Int32) (a4 : Int32) (st : List Value) (M : xM) (Q : Option Value → xM → Prop), xW xSC 6 35 [.ref a0, .ref a1, .int a2, .int a3, .int a4] (st) M Q = xW xSC 6 37 [.ref a0, .ref a1, .int a2, .int a3, .int a4] (.int a4 :: st) M Q) ∧
  (∀ (a0 : Nat) (a1 : Nat) (a2 : Int32) (a3 : Int32) (a4 : Int32) (st : List Value) (M : xM) (Q : Option Value → xM → Prop), xW xSC 6 37 [.ref a0, .ref a1, .int a2, .int a3, .int a4] (st) M Q = xW xSC 6 38 [.ref a0, .ref a1, .int a2, .int a3, .int a4] (.int (nI 2) :: st) M Q) ∧
  (∀ (a0 : Nat) (a1 : Nat) (a2 : Int32) (a3 : Int32) (a4 : Int32) (y0 : Int32) (y1 : Int32) (st : List Value) (M : xM) (Q : Option Value → xM → Prop), xW xSC 6 38 [.ref a0, .ref a1, .int a2, .int a3, .int a4] (.int y0 :: .int y1 :: st) M Q = xW xSC 6 39 [.ref a0, .ref a1, .int a2, .int a3, .int a4] (.int (y1 + y0) :: st) M Q) ∧
  (∀ (a0 : Nat) (a1 : Nat) (a2 : Int32) (a3 : Int32) (a4 : Int32) (st : List Value) (M : xM) (Q : Option Value → xM → Prop), xW xSC 6 39 [.ref a0, .ref a1, .int a2, .int a3, .int a4] (st) M Q = xW xSC 6 40 [.ref a0, .ref a1, .int a2, .int a3, .int a4] (.int a3 :: st) M Q) ∧
  (∀ (a0 : Nat) (a1 : Nat) (a2 : Int32) (a3 : Int32) (a4 : Int32) (y0 : Int32) (y1 : Int32) (y2 : Nat) (M : xM) (Q : Option Value → xM → Prop), xW xSC 6 40 [.ref a0, .ref a1, .int a2, .int a3, .int a4] (.int y0 :: .int y1 :: .ref y2 :: []) M Q = xW xSC 1 0 [.ref y2, .int y1, .int y0] [] M (fun v M' => xW xSC 6 43 [.ref a0, .ref a1, .int a2, .int a3, .int a4] (xpush v []) M' Q)) ∧
  (∀ (a0 : Nat) (a1 : Nat) (a2 : Int32) (a3 : Int32) (a4 : Int32) (st : List Value) (M : xM) (Q : Option Value → xM → Prop), xW xSC 6 43 [.ref a0, .ref a1, .int a2, .int a3, .int a4] (st) M Q = xW xSC 6 44 [.ref a0, .ref a1, .int a2, .int a3, .int a4] (.ref a0 :: st) M Q) ∧
  (∀ (a0 : Nat) (a1 : Nat) (a2 : Int32) (a3 : Int32) (a4 : Int32) (st : List Value) (M : xM) (Q : Option Value → xM → Prop), xW xSC 6 44 [.ref a0, .ref a1, .int a2, .int a3, .int a4] (.ref 24 :: st) M Q = xW xSC 6 47 [.ref a0, .ref a1, .int a2, .int a3, .int a4] (.ref 25 :: st) M Q) ∧
  (∀ (a0 : Nat) (a1 : Nat) (a2 : Int32) (a3 : Int32) (a4 : Int32) (st : List Value) (M : xM) (Q : Option Value → xM → Prop), xW xSC 6 47 [.ref a0, .ref a1, .int a2, .int a3, .int a4] (st) M Q = xW xSC 6 49 [.ref a0, .ref a1, .int a2, .int a3, .int a4] (.int a4 :: st) M Q) ∧
  (∀ (a0 : Nat) (a1 : Nat) (a2 : Int32) (a3 : Int32) (a4 : Int32) (st : List Value) (M : xM) (Q : Option Value → xM → Prop), xW xSC 6 49 [.ref a0, .ref a1, .int a2, .int a3, .int a4] (st) M Q = xW xSC 6 50 [.ref a0, .ref a1, .int a2, .int a3, .int a4] (.int (nI 3) :: st) M Q) ∧
  (∀ (a0 : Nat) (a1 : Nat) (a2 : Int32) (a3 : Int32) (a4 : Int32) (y0 : Int32) (y1 : Int32) (st : List Value) (M : xM) (Q : Option Value → xM → Prop), xW xSC 6 50 [.ref a0, .ref a1, .int a2, .int a3, .int a4] (.int y0 :: .int y1 :: st) M Q = xW xSC 6 51 [.ref a0, .ref a1, .int a2, .int a3, .int a4] (.int (y1 + y0) :: st) M Q) ∧
  (∀ (a0 : Nat) (a1 : Nat) (a2 : Int32) (a3 : Int32) (a4 : Int32) (st : List Value) (M : xM) (Q : Option Value → xM → Prop), xW xSC 6 51 [.ref a0, .ref a1, .int a2, .int a3, .int a4] (st) M Q = xW xSC 6 52 [.ref a0, .ref a1, .int a2, .int a3, .int a4] (.ref a1 :: st) M Q) ∧
  (∀ (a0 : Nat) (a1 : Nat) (a2 : Int32) (a3 : Int32) (a4 : Int32) (st : List Value) (M : xM) (Q : Option Value → xM → Prop), xW xSC 6 52 [.ref a0, .ref a1, .int a2, .int a3, .int a4] (st) M Q = xW xSC 6 53 [.ref a0, .ref a1, .int a2, .int a3, .int a4] (.int a2 :: st) M Q) ∧
  (∀ (a0 : Nat) (a1 : Nat) (a2 : Int32) (a3 : Int32) (a4 : Int32) (st : List Value) (M : xM) (Q : Option Value → xM → Prop), xW xSC 6 53 [.ref a0, .ref a1, .int a2, .int a3, .int a4] (st) M Q = xW xSC 6 54 [.ref a0, .ref a1, .int a2, .int a3, .int a4] (.int a3 :: st) M Q) ∧
  (∀ (a0 : Nat) (a1 : Nat) (a2 : Int32) (a3 : Int32) (a4 : Int32) (y0 : Int32) (y1 : Int32) (y3 : Int32) (y4 : Nat) (M : xM) (Q : Option Value → xM → Prop), xW xSC 6 54 [.ref a0, .ref a1, .int a2, .int a3, .int a4] (.int y0 :: .int y1 :: .ref 9 :: .int y3 :: .ref y4 :: []) M Q = xW xSC 32 0 [.ref 9, .int y1, .int y0] [] M (fun v M' => xW xSC 6 57 [.ref a0, .ref a1, .int a2, .int a3, .int a4] (xpush v [.int y3, .ref y4]) M' Q)) ∧
  (∀ (a0 : Nat) (a1 : Nat) (a2 : Int32) (a3 : Int32) (a4 : Int32) (y0 : Int32) (y1 : Int32) (y2 : Nat) (M : xM) (Q : Option Value → xM → Prop), xW xSC 6 57 [.ref a0, .ref a1, .int a2, .int a3, .int a4] (.int y0 :: .int y1 :: .ref y2 :: []) M Q = xW xSC 1 0 [.ref y2, .int y1, .int y0] [] M (fun v M' => xW xSC 6 60 [.ref a0, .ref a1, .int a2, .int a3, .int a4] (xpush v []) M' Q)) ∧
  (∀ (a0 : Nat) (a1 : Nat) (a2 : Int32) (a3 : Int32) (a4 : Int32) (st : List Value) (M : xM) (Q : Option Value → xM → Prop), xW xSC 6 60 [.ref a0, .ref a1, .int a2, .int a3, .int a4] (st) M Q = xW xSC 6 61 [.ref a0, .ref a1, .int a2, .int a3, .int a4] (.ref a0 :: st) M Q) ∧
  (∀ (a0 : Nat) (a1 : Nat) (a2 : Int32) (a3 : Int32) (a4 : Int32) (st : List Value) (M : xM) (Q : Option Value → xM → Prop), xW xSC 6 61 [.ref a0, .ref a1, .int a2, .int a3, .int a4] (.ref 24 :: st) M Q = xW xSC 6 64 [.ref a0, .ref a1, .int a2, .int a3, .int a4] (.ref 25 :: st) M Q) ∧
  (∀ (a0 : Nat) (a1 : Nat) (a2 : Int32) (a3 : Int32) (a4 : Int32) (st : List Value) (M : xM) (Q : Option Value → xM → Prop), xW xSC 6 64 [.ref a0, .ref a1, .int a2, .int a3, .int a4] (st) M Q = xW xSC 6 66 [.ref a0, .ref a1, .int a2, .int a3, .int a4] (.int a4 :: st) M Q) ∧
  (∀ (a0 : Nat) (a1 : Nat) (a2 : Int32) (a3 : Int32) (a4 : Int32) (st : List Value) (M : xM) (Q : Option Value → xM → Prop), xW xSC 6 66 [.ref a0, .ref a1, .int a2, .int a3, .int a4] (st) M Q = xW xSC 6 67 [.ref a0, .ref a1, .int a2, .int a3, .int a4] (.int (nI 4) :: st) M Q) ∧
  (∀ (a0 : Nat) (a1 : Nat) (a2 : Int32) (a3 : Int32) (a4 : Int32) (y0 : Int32) (y1 : Int32) (st : List Value) (M : xM) (Q : Option Value → xM → Prop), xW xSC 6 67 [.ref a0, .ref a1, .int a2, .int a3, .int a4] (.int y0 :: .int y1 :: st) M Q = xW xSC 6 68 [.ref a0, .ref a1, .int a2, .int a3, .int a4] (.int (y1 + y0) :: st) M Q) ∧
  (∀ (a0 : Nat) (a1 : Nat) (a2 : Int32) (a3 : Int32) (a4 : Int32) (st : List Value) (M : xM) (Q : Option Value → xM → Prop), xW xSC 6 68 [.ref a0, .ref a1, .int a2, .int a3, .int a4] (st) M Q = xW xSC 6 69 [.ref a0, .ref a1, .int a2, .int a3, .int a4] (.ref a1 :: st) M Q) ∧
  (∀ (a0 : Nat) (a1 : Nat) (a2 : Int32) (a3 : Int32) (a4 : Int32) (st : List Value) (M : xM) (Q : Option Value → xM → Prop), xW xSC 6 69 [.ref a0, .ref a1, .int a2, .int a3, .int a4] (st) M Q = xW xSC 6 70 [.ref a0, .ref a1, .int a2, .int a3, .int a4] (.int a2 :: st) M Q) ∧
  (∀ (a0 : Nat) (a1 : Nat) (a2 : Int32) (a3 : Int32) (a4 : Int32) (st : List Value) (M : xM) (Q : Option Value → xM → Prop), xW xSC 6 70 [.ref a0, .ref a1, .int a2, .int a3, .int a4] (st) M Q = xW xSC 6 71 [.ref a0, .ref a1, .int a2, .int a3, .int a4] (.int (nI 0) :: st) M Q) ∧
  (∀ (a0 : Nat) (a1 : Nat) (a2 : Int32) (a3 : Int32) (a4 : Int32) (y0 : Int32) (y1 : Int32) (y3 : Int32) (y4 : Nat) (M : xM) (Q : Option Value → xM → Prop), xW xSC 6 71 [.ref a0, .ref a1, .int a2, .int a3, .int a4] (.int y0 :: .int y1 :: .ref 9 :: .int y3 :: .ref y4 :: []) M Q = xW xSC 30 0 [.ref 9, .int y1, .int y0] [] M (fun v M' => xW xSC 6 74 [.ref a0, .ref a1, .int a2, .int a3, .int a4] (xpush v [.int y3, .ref y4]) M' Q)) ∧
  (∀ (a0 : Nat) (a1 : Nat) (a2 : Int32) (a3 : Int32) (a4 : Int32) (y0 : Int32) (y1 : Int32) (y2 : Nat) (M : xM) (Q : Option Value → xM → Prop), xW xSC 6 74 [.ref a0, .ref a1, .int a2, .int a3, .int a4] (.int y0 :: .int y1 :: .ref y2 :: []) M Q = xW xSC 1 0 [.ref y2, .int y1, .int y0] [] M (fun v M' => xW xSC 6 77 [.ref a0, .ref a1, .int a2, .int a3, .int a4] (xpush v []) M' Q)) ∧
  (∀ (a0 : Nat) (a1 : Nat) (a2 : Int32) (a3 : Int32) (a4 : Int32) (st : List Value) (M : xM) (Q : Option Value → xM → Prop), xW xSC 6 77 [.ref a0, .ref a1, .int a2, .int a3, .int a4] (st) M Q = xW xSC 6 78 [.ref a0, .ref a1, .int a2, .int a3, .int a4] (.ref a0 :: st) M Q) ∧
  (∀ (a0 : Nat) (a1 : Nat) (a2 : Int32) (a3 : Int32) (a4 : Int32) (st : List Value) (M : xM) (Q : Option Value → xM → Prop), xW xSC 6 78 [.ref a0, .ref a1, .int a2, .int a3, .int a4] (.ref 24 :: st) M Q = xW xSC 6 81 [.ref a0, .ref a1, .int a2, .int a3, .int a4] (.ref 25 :: st) M Q) ∧
  (∀ (a0 : Nat) (a1 : Nat) (a2 : Int32) (a3 : Int32) (a4 : Int32) (st : List Value) (M : xM) (Q : Option Value → xM → Prop), xW xSC 6 81 [.ref a0, .ref a1, .int a2, .int a3, .int a4] (st) M Q = xW xSC 6 83 [.ref a0, .ref a1, .int a2, .int a3, .int a4] (.int a4 :: st) M Q) ∧
  (∀ (a0 : Nat) (a1 : Nat) (a2 : Int32) (a3 : Int32) (a4 : Int32) (st : List Value) (M : xM) (Q : Option Value → xM → Prop), xW xSC 6 83 [.ref a0, .ref a1, .int a2, .int a3, .int a4] (st) M Q = xW xSC 6 84 [.ref a0, .ref a1, .int a2, .int a3, .int a4] (.int (nI 5) :: st) M Q) ∧
  (∀ (a0 : Nat) (a1 : Nat) (a2 : Int32) (a3 : Int32) (a4 : Int32) (y0 : Int32) (y1 : Int32) (st : List Value) (M : xM) (Q : Option Value → xM → Prop), xW xSC 6 84 [.ref a0, .ref a1, .int a2, .int a3, .int a4] (.int y0 :: .int y1 :: st) M Q = xW xSC 6 85 [.ref a0, .ref a1, .int a2, .int a3, .int a4] (.int (y1 + y0) :: st) M Q) ∧
  (∀ (a0 : Nat) (a1 : Nat) (a2 : Int32) (a3 : Int32) (a4 : Int32) (st : List Value) (M : xM) (Q : Option Value → xM → Prop), xW xSC 6 85 [.ref a0, .ref a1, .int a2, .int a3, .int a4] (st) M Q = xW xSC 6 86 [.ref a0, .ref a1, .int a2, .int a3, .int a4] (.ref a1 :: st) M Q) ∧
  (∀ (a0 : Nat) (a1 : Nat) (a2 : Int32) (a3 : Int32) (a4 : Int32) (st : List Value) (M : xM) (Q : Option Value → xM → Prop), xW xSC 6 86 [.ref a0, .ref a1, .int a2, .int a3, .int a4] (st) M Q = xW xSC 6 87 [.ref a0, .ref a1, .int a2, .int a3, .int a4] (.int a2 :: st) M Q) ∧
  (∀ (a0 : Nat) (a1 : Nat) (a2 : Int32) (a3 : Int32) (a4 : Int32) (st : List Value) (M : xM) (Q : Option Value → xM → Prop), xW xSC 6 87 [.ref a0, .ref a1, .int a2, .int a3, .int a4] (st) M Q = xW xSC 6 88 [.ref a0, .ref a1, .int a2, .int a3, .int a4] (.int (nI 2) :: st) M Q) ∧
  (∀ (a0 : Nat) (a1 : Nat) (a2 : Int32) (a3 : Int32) (a4 : Int32) (y0 : Int32) (y1 : Int32) (y3 : Int32) (y4 : Nat) (M : xM) (Q : Option Value → xM → Prop), xW xSC 6 88 [.ref a0, .ref a1, .int a2, .int a3, .int a4] (.int y0 :: .int y1 :: .ref 9 :: .int y3 :: .ref y4 :: []) M Q = xW xSC 30 0 [.ref 9, .int y1, .int y0] [] M (fun v M' => xW xSC 6 91 [.ref a0, .ref a1, .int a2, .int a3, .int a4] (xpush v [.int y3, .ref y4]) M' Q)) ∧
  (∀ (a0 : Nat) (a1 : Nat) (a2 : Int32) (a3 : Int32) (a4 : Int32) (y0 : Int32) (y1 : Int32) (y2 : Nat) (M : xM) (Q : Option Value → xM → Prop), xW xSC 6 91 [.ref a0, .ref a1, .int a2, .int a3, .int a4] (.int y0 :: .int y1 :: .ref y2 :: []) M Q = xW xSC 1 0 [.ref y2, .int y1, .int y0] [] M (fun v M' => xW xSC 6 94 [.ref a0, .ref a1, .int a2, .int a3, .int a4] (xpush v []) M' Q)) ∧
  (∀ (a0 : Nat) (a1 : Nat) (a2 : Int32) (a3 : Int32) (a4 : Int32) (st : List Value) (M : xM) (Q : Option Value → xM → Prop), xW xSC 6 94 [.ref a0, .ref a1, .int a2, .int a3, .int a4] (st) M Q = xW xSC 6 95 [.ref a0, .ref a1, .int a2, .int a3, .int a4] (.ref a0 :: st) M Q) ∧
  (∀ (a0 : Nat) (a1 : Nat) (a2 : Int32) (a3 : Int32) (a4 : Int32) (M : xM) (Q : Option Value → xM → Prop), xW xSC 6 95 [.ref a0, .ref a1, .int a2, .int a3, .int a4] (.ref 24 :: []) M Q = xW xSC 8 0 [.ref 24] [] M (fun v M' => xW xSC 6 98 [.ref a0, .ref a1, .int a2, .int a3, .int a4] (xpush v []) M' Q)) ∧
  (∀ (a0 : Nat) (a1 : Nat) (a2 : Int32) (a3 : Int32) (a4 : Int32) (M : xM) (Q : Option Value → xM → Prop), xW xSC 6 98 [.ref a0, .ref a1, .int a2, .int a3, .int a4] ([]) M Q = Q none M) :=
  ⟨fun a0 a1 a2 a3 a4 st M Q => xw_s rfl rfl,
  fun a0 a1 a2 a3 a4 st M Q => xw_s rfl rfl,
  fun a0 a1 a2 a3 a4 st M Q => xw_s rfl rfl,
  fun a0 a1 a2 a3 a4 y0 y1 st M Q => xw_s rfl rfl,
  fun a0 a1 a2 a3 a4 y0 st M Q => xw_s rfl rfl,
  fun a0 a1 a2 a3 a4 st M Q => xw_s rfl rfl,
  fun a0 a1 a2 a3 a4 st M Q => xw_s rfl rfl,
  fun a0 a1 a2 a3 a4 st M Q => xw_s rfl rfl,
  fun a0 a1 a2 a3 a4 st M Q => xw_s rfl rfl,
  fun a0 a1 a2 a3 a4 y0 y1 y2 M Q => xw_call rfl rfl rfl,
  fun a0 a1 a2 a3 a4 st M Q => xw_s rfl rfl,
  fun a0 a1 a2 a3 a4 st M Q => xw_s rfl rfl,
  fun a0 a1 a2 a3 a4 st M Q => xw_s rfl rfl,
  fun a0 a1 a2 a3 a4 st M Q => xw_s rfl rfl,
  fun a0 a1 a2 a3 a4 y0 y1 st M Q => xw_s rfl rfl,
  fun a0 a1 a2 a3 a4 st M Q => xw_s rfl rfl,
  fun a0 a1 a2 a3 a4 y0 y1 y2 M Q => xw_call rfl rfl rfl,
  fun a0 a1 a2 a3 a4 st M Q => xw_s rfl rfl,
  fun a0 a1 a2 a3 a4 st M Q => xw_s rfl rfl,
  fun a0 a1 a2 a3 a4 st M Q => xw_s rfl rfl,
  fun a0 a1 a2 a3 a4 st M Q => xw_s rfl rfl,
  fun a0 a1 a2 a3 a4 y0 y1 st M Q => xw_s rfl rfl,
  fun a0 a1 a2 a3 a4 st M Q => xw_s rfl rfl,
  fun a0 a1 a2 a3 a4 y0 y1 y2 M Q => xw_call rfl rfl rfl,
  fun a0 a1 a2 a3 a4 st M Q => xw_s rfl rfl,
  fun a0 a1 a2 a3 a4 st M Q => xw_s rfl rfl,
  fun a0 a1 a2 a3 a4 st M Q => xw_s rfl rfl,
  fun a0 a1 a2 a3 a4 st M Q => xw_s rfl rfl,
  fun a0 a1 a2 a3 a4 y0 y1 st M Q => xw_s rfl rfl,
  fun a0 a1 a2 a3 a4 st M Q => xw_s rfl rfl,
  fun a0 a1 a2 a3 a4 st M Q => xw_s rfl rfl,
  fun a0 a1 a2 a3 a4 st M Q => xw_s rfl rfl,
  fun a0 a1 a2 a3 a4 y0 y1 y3 y4 M Q => xw_call rfl rfl rfl,
  fun a0 a1 a2 a3 a4 y0 y1 y2 M Q => xw_call rfl rfl rfl,
  fun a0 a1 a2 a3 a4 st M Q => xw_s rfl rfl,
  fun a0 a1 a2 a3 a4 st M Q => xw_s rfl rfl,
  fun a0 a1 a2 a3 a4 st M Q => xw_s rfl rfl,
  fun a0 a1 a2 a3 a4 st M Q => xw_s rfl rfl,
  fun a0 a1 a2 a3 a4 y0 y1 st M Q => xw_s rfl rfl,
  fun a0 a1 a2 a3 a4 st M Q => xw_s rfl rfl,
  fun a0 a1 a2 a3 a4 st M Q => xw_s rfl rfl,
  fun a0 a1 a2 a3 a4 st M Q => xw_s rfl rfl,
  fun a0 a1 a2 a3 a4 y0 y1 y3 y4 M Q => xw_call rfl rfl rfl,
  fun a0 a1 a2 a3 a4 y0 y1 y2 M Q => xw_call rfl rfl rfl,
  fun a0 a1 a2 a3 a4 st M Q => xw_s rfl rfl,
  fun a0 a1 a2 a3 a4 st M Q => xw_s rfl rfl,
  fun a0 a1 a2 a3 a4 st M Q => xw_s rfl rfl,
  fun a0 a1 a2 a3 a4 st M Q => xw_s rfl rfl,
  fun a0 a1 a2 a3 a4 y0 y1 st M Q => xw_s rfl rfl,
  fun a0 a1 a2 a3 a4 st M Q => xw_s rfl rfl,
  fun a0 a1 a2 a3 a4 st M Q => xw_s rfl rfl,
  fun a0 a1 a2 a3 a4 st M Q => xw_s rfl rfl,
  fun a0 a1 a2 a3 a4 y0 y1 y3 y4 M Q => xw_call rfl rfl rfl,
  fun a0 a1 a2 a3 a4 y0 y1 y2 M Q => xw_call rfl rfl rfl,
  fun a0 a1 a2 a3 a4 st M Q => xw_s rfl rfl,
  fun a0 a1 a2 a3 a4 M Q => xw_call rfl rfl rfl,
  fun a0 a1 a2 a3 a4 M Q => xw_retv rfl rfl⟩
theorem j6 : True := trivial

set_option maxRecDepth 20000 in
theorem s7 :
  (∀ (a0 : Nat) (a1 : Int32) (a2 : Int32) (a3 : Int32) (a4 : Value) (st : List Value) (M : xM) (Q : Option Value → xM → Prop), xW xSC 7 0 [.ref a0, .int a1, .int a2, .int a3, a4] (st) M Q = xW xSC 7 1 [.ref a0, .int a1, .int a2, .int a3, a4] (.ref a0 :: st) M Q) ∧
  (∀ (a0 : Nat) (a1 : Int32) (a2 : Int32) (a3 : Int32) (a4 : Value) (st : List Value) (M : xM) (Q : Option Value → xM → Prop), xW xSC 7 1 [.ref a0, .int a1, .int a2, .int a3, a4] (.ref 24 :: st) M Q = xW xSC 7 4 [.ref a0, .int a1, .int a2, .int a3, a4] (.int (M 24 1) :: st) M Q) ∧
  (∀ (a0 : Nat) (a1 : Int32) (a2 : Int32) (a3 : Int32) (a4 : Value) (st : List Value) (M : xM) (Q : Option Value → xM → Prop), xW xSC 7 4 [.ref a0, .int a1, .int a2, .int a3, a4] (st) M Q = xW xSC 7 6 [.ref a0, .int a1, .int a2, .int a3, a4] (.int (nI 6) :: st) M Q) ∧
  (∀ (a0 : Nat) (a1 : Int32) (a2 : Int32) (a3 : Int32) (a4 : Value) (y0 : Int32) (y1 : Int32) (st : List Value) (M : xM) (Q : Option Value → xM → Prop), xW xSC 7 6 [.ref a0, .int a1, .int a2, .int a3, a4] (.int y0 :: .int y1 :: st) M Q = xW xSC 7 7 [.ref a0, .int a1, .int a2, .int a3, a4] (.int (y1 * y0) :: st) M Q) ∧
  (∀ (a0 : Nat) (a1 : Int32) (a2 : Int32) (a3 : Int32) (a4 : Value) (y0 : Int32) (st : List Value) (M : xM) (Q : Option Value → xM → Prop), xW xSC 7 7 [.ref a0, .int a1, .int a2, .int a3, a4] (.int y0 :: st) M Q = xW xSC 7 9 [.ref a0, .int a1, .int a2, .int a3, .int y0] (st) M Q) ∧
  (∀ (a0 : Nat) (a1 : Int32) (a2 : Int32) (a3 : Int32) (a4 : Int32) (st : List Value) (M : xM) (Q : Option Value → xM → Prop), xW xSC 7 9 [.ref a0, .int a1, .int a2, .int a3, .int a4] (st) M Q = xW xSC 7 10 [.ref a0, .int a1, .int a2, .int a3, .int a4] (.ref a0 :: st) M Q) ∧
  (∀ (a0 : Nat) (a1 : Int32) (a2 : Int32) (a3 : Int32) (a4 : Int32) (st : List Value) (M : xM) (Q : Option Value → xM → Prop), xW xSC 7 10 [.ref a0, .int a1, .int a2, .int a3, .int a4] (.ref 24 :: st) M Q = xW xSC 7 13 [.ref a0, .int a1, .int a2, .int a3, .int a4] (.ref 25 :: st) M Q) ∧
  (∀ (a0 : Nat) (a1 : Int32) (a2 : Int32) (a3 : Int32) (a4 : Int32) (st : List Value) (M : xM) (Q : Option Value → xM → Prop), xW xSC 7 13 [.ref a0, .int a1, .int a2, .int a3, .int a4] (st) M Q = xW xSC 7 15 [.ref a0, .int a1, .int a2, .int a3, .int a4] (.int a4 :: st) M Q) ∧
  (∀ (a0 : Nat) (a1 : Int32) (a2 : Int32) (a3 : Int32) (a4 : Int32) (st : List Value) (M : xM) (Q : Option Value → xM → Prop), xW xSC 7 15 [.ref a0, .int a1, .int a2, .int a3, .int a4] (st) M Q = xW xSC 7 16 [.ref a0, .int a1, .int a2, .int a3, .int a4] (.int (nI 1) :: st) M Q) ∧
  (∀ (a0 : Nat) (a1 : Int32) (a2 : Int32) (a3 : Int32) (a4 : Int32) (y0 : Int32) (y1 : Int32) (y2 : Nat) (M : xM) (Q : Option Value → xM → Prop), xW xSC 7 16 [.ref a0, .int a1, .int a2, .int a3, .int a4] (.int y0 :: .int y1 :: .ref y2 :: []) M Q = xW xSC 1 0 [.ref y2, .int y1, .int y0] [] M (fun v M' => xW xSC 7 19 [.ref a0, .int a1, .int a2, .int a3, .int a4] (xpush v []) M' Q)) ∧
  (∀ (a0 : Nat) (a1 : Int32) (a2 : Int32) (a3 : Int32) (a4 : Int32) (st : List Value) (M : xM) (Q : Option Value → xM → Prop), xW xSC 7 19 [.ref a0, .int a1, .int a2, .int a3, .int a4] (st) M Q = xW xSC 7 20 [.ref a0, .int a1, .int a2, .int a3, .int a4] (.ref a0 :: st) M Q) ∧
  (∀ (a0 : Nat) (a1 : Int32) (a2 : Int32) (a3 : Int32) (a4 : Int32) (st : List Value) (M : xM) (Q : Option Value → xM → Prop), xW xSC 7 20 [.ref a0, .int a1, .int a2, .int a3, .int a4] (.ref 24 :: st) M Q = xW xSC 7 23 [.ref a0, .int a1, .int a2, .int a3, .int a4] (.ref 25 :: st) M Q) ∧
  (∀ (a0 : Nat) (a1 : Int32) (a2 : Int32) (a3 : Int32) (a4 : Int32) (st : List Value) (M : xM) (Q : Option Value → xM → Prop), xW xSC 7 23 [.ref a0, .int a1, .int a2, .int a3, .int a4] (st) M Q = xW xSC 7 25 [.ref a0, .int a1, .int a2, .int a3, .int a4] (.int a4 :: st) M Q) ∧
  (∀ (a0 : Nat) (a1 : Int32) (a2 : Int32) (a3 : Int32) (a4 : Int32) (st : List Value) (M : xM) (Q : Option Value → xM → Prop), xW xSC 7 25 [.ref a0, .int a1, .int a2, .int a3, .int a4] (st) M Q = xW xSC 7 26 [.ref a0, .int a1, .int a2, .int a3, .int a4] (.int (nI 1) :: st) M Q) ∧
  (∀ (a0 : Nat) (a1 : Int32) (a2 : Int32) (a3 : Int32) (a4 : Int32) (y0 : Int32) (y1 : Int32) (st : List Value) (M : xM) (Q : Option Value → xM → Prop), xW xSC 7 26 [.ref a0, .int a1, .int a2, .int a3, .int a4] (.int y0 :: .int y1 :: st) M Q = xW xSC 7 27 [.ref a0, .int a1, .int a2, .int a3, .int a4] (.int (y1 + y0) :: st) M Q) ∧
  (∀ (a0 : Nat) (a1 : Int32) (a2 : Int32) (a3 : Int32) (a4 : Int32) (st : List Value) (M : xM) (Q : Option Value → xM → Prop), xW xSC 7 27 [.ref a0, .int a1, .int a2, .int a3, .int a4] (st) M Q = xW xSC 7 28 [.ref a0, .int a1, .int a2, .int a3, .int a4] (.int a1 :: st) M Q) ∧
  (∀ (a0 : Nat) (a1 : Int32) (a2 : Int32) (a3 : Int32) (a4 : Int32) (y0 : Int32) (y1 : Int32) (y2 : Nat) (M : xM) (Q : Option Value → xM → Prop), xW xSC 7 28 [.ref a0, .int a1, .int a2, .int a3, .int a4] (.int y0 :: .int y1 :: .ref y2 :: []) M Q = xW xSC 1 0 [.ref y2, .int y1, .int y0] [] M (fun v M' => xW xSC 7 31 [.ref a0, .int a1, .int a2, .int a3, .int a4] (xpush v []) M' Q)) ∧
  (∀ (a0 : Nat) (a1 : Int32) (a2 : Int32) (a3 : Int32) (a4 : Int32) (st : List Value) (M : xM) (Q : Option Value → xM → Prop), xW xSC 7 31 [.ref a0, .int a1, .int a2, .int a3, .int a4] (st) M Q = xW xSC 7 32 [.ref a0, .int a1, .int a2, .int a3, .int a4] (.ref a0 :: st) M Q) ∧
  (∀ (a0 : Nat) (a1 : Int32) (a2 : Int32) (a3 : Int32) (a4 : Int32) (st : List Value) (M : xM) (Q : Option Value → xM → Prop), xW xSC 7 32 [.ref a0, .int a1, .int a2, .int a3, .int a4] (.ref 24 :: st) M Q = xW xSC 7 35 [.ref a0, .int a1, .int a2, .int a3, .int a4] (.ref 25 :: st) M Q) ∧
  (∀ (a0 : Nat) (a1 : Int32) (a2 : Int32) (a3 : Int32) (a4 : Int32) (st : List Value) (M : xM) (Q : Option Value → xM → Prop), xW xSC 7 35 [.ref a0, .int a1, .int a2, .int a3, .int a4] (st) M Q = xW xSC 7 37 [.ref a0, .int a1, .int a2, .int a3, .int a4] (.int a4 :: st) M Q) ∧
  (∀ (a0 : Nat) (a1 : Int32) (a2 : Int32) (a3 : Int32) (a4 : Int32) (st : List Value) (M : xM) (Q : Option Value → xM → Prop), xW xSC 7 37 [.ref a0, .int a1, .int a2, .int a3, .int a4] (st) M Q = xW xSC 7 38 [.ref a0, .int a1, .int a2, .int a3, .int a4] (.int (nI 2) :: st) M Q) ∧
  (∀ (a0 : Nat) (a1 : Int32) (a2 : Int32) (a3 : Int32) (a4 : Int32) (y0 : Int32) (y1 : Int32) (st : List Value) (M : xM) (Q : Option Value → xM → Prop), xW xSC 7 38 [.ref a0, .int a1, .int a2, .int a3, .int a4] (.int y0 :: .int y1 :: st) M Q = xW xSC 7 39 [.ref a0, .int a1, .int a2, .int a3, .int a4] (.int (y1 + y0) :: st) M Q) ∧
  (∀ (a0 : Nat) (a1 : Int32) (a2 : Int32) (a3 : Int32) (a4 : Int32) (st : List Value) (M : xM) (Q : Option Value → xM → Prop), xW xSC 7 39 [.ref a0, .int a1, .int a2, .int a3, .int a4] (st) M Q = xW xSC 7 40 [.ref a0, .int a1, .int a2, .int a3, .int a4] (.int a2 :: st) M Q) ∧
  (∀ (a0 : Nat) (a1 : Int32) (a2 : Int32) (a3 : Int32) (a4 : Int32) (y0 : Int32) (y1 : Int32) (y2 : Nat) (M : xM) (Q : Option Value → xM → Prop), xW xSC 7 40 [.ref a0, .int a1, .int a2, .int a3, .int a4] (.int y0 :: .int y1 :: .ref y2 :: []) M Q = xW xSC 1 0 [.ref y2, .int y1, .int y0] [] M (fun v M' => xW xSC 7 43 [.ref a0, .int a1, .int a2, .int a3, .int a4] (xpush v []) M' Q)) ∧
  (∀ (a0 : Nat) (a1 : Int32) (a2 : Int32) (a3 : Int32) (a4 : Int32) (st : List Value) (M : xM) (Q : Option Value → xM → Prop), xW xSC 7 43 [.ref a0, .int a1, .int a2, .int a3, .int a4] (st) M Q = xW xSC 7 44 [.ref a0, .int a1, .int a2, .int a3, .int a4] (.ref a0 :: st) M Q) ∧
  (∀ (a0 : Nat) (a1 : Int32) (a2 : Int32) (a3 : Int32) (a4 : Int32) (st : List Value) (M : xM) (Q : Option Value → xM → Prop), xW xSC 7 44 [.ref a0, .int a1, .int a2, .int a3, .int a4] (.ref 24 :: st) M Q = xW xSC 7 47 [.ref a0, .int a1, .int a2, .int a3, .int a4] (.ref 25 :: st) M Q) ∧
  (∀ (a0 : Nat) (a1 : Int32) (a2 : Int32) (a3 : Int32) (a4 : Int32) (st : List Value) (M : xM) (Q : Option Value → xM → Prop), xW xSC 7 47 [.ref a0, .int a1, .int a2, .int a3, .int a4] (st) M Q = xW xSC 7 49 [.ref a0, .int a1, .int a2, .int a3, .int a4] (.int a4 :: st) M Q) ∧
  (∀ (a0 : Nat) (a1 : Int32) (a2 : Int32) (a3 : Int32) (a4 : Int32) (st : List Value) (M : xM) (Q : Option Value → xM → Prop), xW xSC 7 49 [.ref a0, .int a1, .int a2, .int a3, .int a4] (st) M Q = xW xSC 7 50 [.ref a0, .int a1, .int a2, .int a3, .int a4] (.int (nI 3) :: st) M Q) ∧
  (∀ (a0 : Nat) (a1 : Int32) (a2 : Int32) (a3 : Int32) (a4 : Int32) (y0 : Int32) (y1 : Int32) (st : List Value) (M : xM) (Q : Option Value → xM → Prop), xW xSC 7 50 [.ref a0, .int a1, .int a2, .int a3, .int a4] (.int y0 :: .int y1 :: st) M Q = xW xSC 7 51 [.ref a0, .int a1, .int a2, .int a3, .int a4] (.int (y1 + y0) :: st) M Q) ∧
  (∀ (a0 : Nat) (a1 : Int32) (a2 : Int32) (a3 : Int32) (a4 : Int32) (st : List Value) (M : xM) (Q : Option Value → xM → Prop), xW xSC 7 51 [.ref a0, .int a1, .int a2, .int a3, .int a4] (st) M Q = xW xSC 7 52 [.ref a0, .int a1, .int a2, .int a3, .int a4] (.int a3 :: st) M Q) ∧
  (∀ (a0 : Nat) (a1 : Int32) (a2 : Int32) (a3 : Int32) (a4 : Int32) (y0 : Int32) (y1 : Int32) (y2 : Nat) (M : xM) (Q : Option Value → xM → Prop), xW xSC 7 52 [.ref a0, .int a1, .int a2, .int a3, .int a4] (.int y0 :: .int y1 :: .ref y2 :: []) M Q = xW xSC 1 0 [.ref y2, .int y1, .int y0] [] M (fun v M' => xW xSC 7 55 [.ref a0, .int a1, .int a2, .int a3, .int a4] (xpush v []) M' Q)) ∧
  (∀ (a0 : Nat) (a1 : Int32) (a2 : Int32) (a3 : Int32) (a4 : Int32) (st : List Value) (M : xM) (Q : Option Value → xM → Prop), xW xSC 7 55 [.ref a0, .int a1, .int a2, .int a3, .int a4] (st) M Q = xW xSC 7 56 [.ref a0, .int a1, .int a2, .int a3, .int a4] (.ref a0 :: st) M Q) ∧
  (∀ (a0 : Nat) (a1 : Int32) (a2 : Int32) (a3 : Int32) (a4 : Int32) (M : xM) (Q : Option Value → xM → Prop), xW xSC 7 56 [.ref a0, .int a1, .int a2, .int a3, .int a4] (.ref 24 :: []) M Q = xW xSC 8 0 [.ref 24] [] M (fun v M' => xW xSC 7 59 [.ref a0, .int a1, .int a2, .int a3, .int a4] (xpush v []) M' Q)) ∧
  (∀ (a0 : Nat) (a1 : Int32) (a2 : Int32) (a3 : Int32) (a4 : Int32) (M : xM) (Q : Option Value → xM → Prop), xW xSC 7 59 [.ref a0, .int a1, .int a2, .int a3, .int a4] ([]) M Q = Q none M) :=
  ⟨fun a0 a1 a2 a3 a4 st M Q => xw_s rfl rfl,
  fun a0 a1 a2 a3 a4 st M Q => xw_s rfl rfl,
  fun a0 a1 a2 a3 a4 st M Q => xw_s rfl rfl,
  fun a0 a1 a2 a3 a4 y0 y1 st M Q => xw_s rfl rfl,
  fun a0 a1 a2 a3 a4 y0 st M Q => xw_s rfl rfl,
  fun a0 a1 a2 a3 a4 st M Q => xw_s rfl rfl,
  fun a0 a1 a2 a3 a4 st M Q => xw_s rfl rfl,
  fun a0 a1 a2 a3 a4 st M Q => xw_s rfl rfl,
  fun a0 a1 a2 a3 a4 st M Q => xw_s rfl rfl,
  fun a0 a1 a2 a3 a4 y0 y1 y2 M Q => xw_call rfl rfl rfl,
  fun a0 a1 a2 a3 a4 st M Q => xw_s rfl rfl,
  fun a0 a1 a2 a3 a4 st M Q => xw_s rfl rfl,
  fun a0 a1 a2 a3 a4 st M Q => xw_s rfl rfl,
  fun a0 a1 a2 a3 a4 st M Q => xw_s rfl rfl,
  fun a0 a1 a2 a3 a4 y0 y1 st M Q => xw_s rfl rfl,
  fun a0 a1 a2 a3 a4 st M Q => xw_s rfl rfl,
  fun a0 a1 a2 a3 a4 y0 y1 y2 M Q => xw_call rfl rfl rfl,
  fun a0 a1 a2 a3 a4 st M Q => xw_s rfl rfl,
  fun a0 a1 a2 a3 a4 st M Q => xw_s rfl rfl,
  fun a0 a1 a2 a3 a4 st M Q => xw_s rfl rfl,
  fun a0 a1 a2 a3 a4 st M Q => xw_s rfl rfl,
  fun a0 a1 a2 a3 a4 y0 y1 st M Q => xw_s rfl rfl,
  fun a0 a1 a2 a3 a4 st M Q => xw_s rfl rfl,
  fun a0 a1 a2 a3 a4 y0 y1 y2 M Q => xw_call rfl rfl rfl,
  fun a0 a1 a2 a3 a4 st M Q => xw_s rfl rfl,
  fun a0 a1 a2 a3 a4 st M Q => xw_s rfl rfl,
  fun a0 a1 a2 a3 a4 st M Q => xw_s rfl rfl,
  fun a0 a1 a2 a3 a4 st M Q => xw_s rfl rfl,
  fun a0 a1 a2 a3 a4 y0 y1 st M Q => xw_s rfl rfl,
  fun a0 a1 a2 a3 a4 st M Q => xw_s rfl rfl,
  fun a0 a1 a2 a3 a4 y0 y1 y2 M Q => xw_call rfl rfl rfl,
  fun a0 a1 a2 a3 a4 st M Q => xw_s rfl rfl,
  fun a0 a1 a2 a3 a4 M Q => xw_call rfl rfl rfl,
  fun a0 a1 a2 a3 a4 M Q => xw_retv rfl rfl⟩
theorem j7 : True := trivial

set_option maxRecDepth 20000 in
theorem s8 :
  (∀ (a0 : Nat) (st : List Value) (M : xM) (Q : Option Value → xM → Prop), xW xSC 8 0 [.ref a0] (st) M Q = xW xSC 8 1 [.ref a0] (.ref a0 :: st) M Q) ∧
  (∀ (a0 : Nat) (st : List Value) (M : xM) (Q : Option Value → xM → Prop), xW xSC 8 1 [.ref a0] (st) M Q = xW xSC 8 2 [.ref a0] (.ref a0 :: st) M Q) ∧
  (∀ (a0 : Nat) (st : List Value) (M : xM) (Q : Option Value → xM → Prop), xW xSC 8 2 [.ref a0] (.ref 24 :: st) M Q = xW xSC 8 5 [.ref a0] (.int (M 24 1) :: st) M Q) ∧
  (∀ (a0 : Nat) (st : List Value) (M : xM) (Q : Option Value → xM → Prop), xW xSC 8 5 [.ref a0] (st) M Q = xW xSC 8 6 [.ref a0] (.int (nI 1) :: st) M Q) ∧
  (∀ (a0 : Nat) (y0 : Int32) (y1 : Int32) (st : List Value) (M : xM) (Q : Option Value → xM → Prop), xW xSC 8 6 [.ref a0] (.int y0 :: .int y1 :: st) M Q = xW xSC 8 7 [.ref a0] (.int (y1 + y0) :: st) M Q) ∧
  (∀ (a0 : Nat) (st : List Value) (M : xM) (Q : Option Value → xM → Prop), xW xSC 8 7 [.ref a0] (st) M Q = xW xSC 8 9 [.ref a0] (.int (nI 8) :: st) M Q) ∧
  (∀ (a0 : Nat) (y0 : Nat) (y1 : Int32) (st : List Value) (M : xM) (Q : Option Value → xM → Prop), 0 < y0 → y0 < 2 ^ 31 → xW xSC 8 9 [.ref a0] (.int (nI y0) :: .int y1 :: st) M Q = xW xSC 8 10 [.ref a0] (.int (y1 - y1 / nI y0 * nI y0) :: st) M Q) ∧
  (∀ (a0 : Nat) (y0 : Int32) (st : List Value) (M : xM) (Q : Option Value → xM → Prop), xW xSC 8 10 [.ref a0] (.int y0 :: .ref 24 :: st) M Q = xW xSC 8 13 [.ref a0] (st) (xup M 24 1 y0) Q) ∧
  (∀ (a0 : Nat) (st : List Value) (M : xM) (Q : Option Value → xM → Prop), xW xSC 8 13 [.ref a0] (st) M Q = xW xSC 8 14 [.ref a0] (.ref a0 :: st) M Q) ∧
  (∀ (a0 : Nat) (st : List Value) (M : xM) (Q : Option Value → xM → Prop), xW xSC 8 14 [.ref a0] (st) M Q = xW xSC 8 15 [.ref a0] (.ref a0 :: st) M Q) ∧
  (∀ (a0 : Nat) (st : List Value) (M : xM) (Q : Option Value → xM → Prop), xW xSC 8 15 [.ref a0] (.ref 24 :: st) M Q = xW xSC 8 18 [.ref a0] (.int (M 24 2) :: st) M Q) ∧
  (∀ (a0 : Nat) (st : List Value) (M : xM) (Q : Option Value → xM → Prop), xW xSC 8 18 [.ref a0] (st) M Q = xW xSC 8 19 [.ref a0] (.int (nI 1) :: st) M Q) ∧
  (∀ (a0 : Nat) (y0 : Int32) (y1 : Int32) (st : List Value) (M : xM) (Q : Option Value → xM → Prop), xW xSC 8 19 [.ref a0] (.int y0 :: .int y1 :: st) M Q = xW xSC 8 20 [.ref a0] (.int (y1 + y0) :: st) M Q) ∧
  (∀ (a0 : Nat) (st : List Value) (M : xM) (Q : Option Value → xM → Prop), xW xSC 8 20 [.ref a0] (st) M Q = xW xSC 8 22 [.ref a0] (.int (nI 8) :: st) M Q) ∧
  (∀ (a0 : Nat) (y0 : Int32) (y1 : Int32) (y2 : Nat) (M : xM) (Q : Option Value → xM → Prop), xW xSC 8 22 [.ref a0] (.int y0 :: .int y1 :: .ref y2 :: []) M Q = xW xSC 8 25 [.ref a0] (.int (xmin y1 y0) :: .ref y2 :: []) M Q) ∧
  (∀ (a0 : Nat) (y0 : Int32) (st : List Value) (M : xM) (Q : Option Value → xM → Prop), xW xSC 8 25 [.ref a0] (.int y0 :: .ref 24 :: st) M Q = xW xSC 8 28 [.ref a0] (st) (xup M 24 2 y0) Q) ∧
  (∀ (a0 : Nat) (M : xM) (Q : Option Value → xM → Prop), xW xSC 8 28 [.ref a0] ([]) M Q = Q none M) :=
  ⟨fun a0 st M Q => xw_s rfl rfl,
  fun a0 st M Q => xw_s rfl rfl,
  fun a0 st M Q => xw_s rfl rfl,
  fun a0 st M Q => xw_s rfl rfl,
  fun a0 y0 y1 st M Q => xw_s rfl rfl,
  fun a0 st M Q => xw_s rfl rfl,
  fun a0 y0 y1 st M Q h0 h1 => xw_div (f := fun x y => x - x / y * y) rfl rfl (nI_ne0 h0 h1),
  fun a0 y0 st M Q => xw_s rfl rfl,
  fun a0 st M Q => xw_s rfl rfl,
  fun a0 st M Q => xw_s rfl rfl,
  fun a0 st M Q => xw_s rfl rfl,
  fun a0 st M Q => xw_s rfl rfl,
  fun a0 y0 y1 st M Q => xw_s rfl rfl,
  fun a0 st M Q => xw_s rfl rfl,
  fun a0 y0 y1 y2 M Q => xw_s rfl rfl,
  fun a0 y0 st M Q => xw_s rfl rfl,
  fun a0 M Q => xw_retv rfl rfl⟩
theorem j8 : True := trivial

set_option maxRecDepth 20000 in
theorem s9 :
  (∀ (a0 : Nat) (a1 : Nat) (a2 : Value) (a3 : Value) (a4 : Value) (a5 : Value) (st : List Value) (M : xM) (Q : Option Value → xM → Prop), xW xSC 9 0 [.ref a0, .ref a1, a2, a3, a4, a5] (st) M Q = xW xSC 9 1 [.ref a0, .ref a1, a2, a3, a4, a5] (.ref a0 :: st) M Q) ∧
  (∀ (a0 : Nat) (a1 : Nat) (a2 : Value) (a3 : Value) (a4 : Value) (a5 : Value) (st : List Value) (M : xM) (Q : Option Value → xM → Prop), xW xSC 9 1 [.ref a0, .ref a1, a2, a3, a4, a5] (st) M Q = xW xSC 9 2 [.ref a0, .ref a1, a2, a3, a4, a5] (.ref a0 :: st) M Q) ∧
  (∀ (a0 : Nat) (a1 : Nat) (a2 : Value) (a3 : Value) (a4 : Value) (a5 : Value) (st : List Value) (M : xM) (Q : Option Value → xM → Prop), xW xSC 9 2 [.ref a0, .ref a1, a2, a3, a4, a5] (.ref 24 :: st) M Q = xW xSC 9 5 [.ref a0, .ref a1, a2, a3, a4, a5] (.int (M 24 1) :: st) M Q) ∧
  (∀ (a0 : Nat) (a1 : Nat) (a2 : Value) (a3 : Value) (a4 : Value) (a5 : Value) (st : List Value) (M : xM) (Q : Option Value → xM → Prop), xW xSC 9 5 [.ref a0, .ref a1, a2, a3, a4, a5] (st) M Q = xW xSC 9 7 [.ref a0, .ref a1, a2, a3, a4, a5] (.int (nI 8) :: st) M Q) ∧
  (∀ (a0 : Nat) (a1 : Nat) (a2 : Value) (a3 : Value) (a4 : Value) (a5 : Value) (y0 : Int32) (y1 : Int32) (st : List Value) (M : xM) (Q : Option Value → xM → Prop), xW xSC 9 7 [.ref a0, .ref a1, a2, a3, a4, a5] (.int y0 :: .int y1 :: st) M Q = xW xSC 9 8 [.ref a0, .ref a1, a2, a3, a4, a5] (.int (y1 + y0) :: st) M Q) ∧
  (∀ (a0 : Nat) (a1 : Nat) (a2 : Value) (a3 : Value) (a4 : Value) (a5 : Value) (st : List Value) (M : xM) (Q : Option Value → xM → Prop), xW xSC 9 8 [.ref a0, .ref a1, a2, a3, a4, a5] (st) M Q = xW xSC 9 9 [.ref a0, .ref a1, a2, a3, a4, a5] (.int (nI 1) :: st) M Q) ∧
  (∀ (a0 : Nat) (a1 : Nat) (a2 : Value) (a3 : Value) (a4 : Value) (a5 : Value) (y0 : Int32) (y1 : Int32) (st : List Value) (M : xM) (Q : Option Value → xM → Prop), xW xSC 9 9 [.ref a0, .ref a1, a2, a3, a4, a5] (.int y0 :: .int y1 :: st) M Q = xW xSC 9 10 [.ref a0, .ref a1, a2, a3, a4, a5] (.int (y1 - y0) :: st) M Q) ∧
  (∀ (a0 : Nat) (a1 : Nat) (a2 : Value) (a3 : Value) (a4 : Value) (a5 : Value) (st : List Value) (M : xM) (Q : Option Value → xM → Prop), xW xSC 9 10 [.ref a0, .ref a1, a2, a3, a4, a5] (st) M Q = xW xSC 9 12 [.ref a0, .ref a1, a2, a3, a4, a5] (.int (nI 8) :: st) M Q) ∧
  (∀ (a0 : Nat) (a1 : Nat) (a2 : Value) (a3 : Value) (a4 : Value) (a5 : Value) (y0 : Nat) (y1 : Int32) (st : List Value) (M : xM) (Q : Option Value → xM → Prop), 0 < y0 → y0 < 2 ^ 31 → xW xSC 9 12 [.ref a0, .ref a1, a2, a3, a4, a5] (.int (nI y0) :: .int y1 :: st) M Q = xW xSC 9 13 [.ref a0, .ref a1, a2, a3, a4, a5] (.int (y1 - y1 / nI y0 * nI y0) :: st) M Q) ∧
  (∀ (a0 : Nat) (a1 : Nat) (a2 : Value) (a3 : Value) (a4 : Value) (a5 : Value) (y0 : Int32) (st : List Value) (M : xM) (Q : Option Value → xM → Prop), xW xSC 9 13 [.ref a0, .ref a1, a2, a3, a4, a5] (.int y0 :: .ref 24 :: st) M Q = xW xSC 9 16 [.ref a0, .ref a1, a2, a3, a4, a5] (st) (xup M 24 1 y0) Q) ∧
  (∀ (a0 : Nat) (a1 : Nat) (a2 : Value) (a3 : Value) (a4 : Value) (a5 : Value) (st : List Value) (M : xM) (Q : Option Value → xM → Prop), xW xSC 9 16 [.ref a0, .ref a1, a2, a3, a4, a5] (st) M Q = xW xSC 9 17 [.ref a0, .ref a1, a2, a3, a4, a5] (.ref a0 :: st) M Q) ∧
  (∀ (a0 : Nat) (a1 : Nat) (a2 : Value) (a3 : Value) (a4 : Value) (a5 : Value) (y0 : Nat) (st : List Value) (M : xM) (Q : Option Value → xM → Prop), xW xSC 9 17 [.ref a0, .ref a1, a2, a3, a4, a5] (.ref y0 :: st) M Q = xW xSC 9 18 [.ref a0, .ref a1, a2, a3, a4, a5] (.ref y0 :: .ref y0 :: st) M Q) ∧
  (∀ (a0 : Nat) (a1 : Nat) (a2 : Value) (a3 : Value) (a4 : Value) (a5 : Value) (st : List Value) (M : xM) (Q : Option Value → xM → Prop), xW xSC 9 18 [.ref a0, .ref a1, a2, a3, a4, a5] (.ref 24 :: st) M Q = xW xSC 9 21 [.ref a0, .ref a1, a2, a3, a4, a5] (.int (M 24 2) :: st) M Q) ∧
  (∀ (a0 : Nat) (a1 : Nat) (a2 : Value) (a3 : Value) (a4 : Value) (a5 : Value) (st : List Value) (M : xM) (Q : Option Value → xM → Prop), xW xSC 9 21 [.ref a0, .ref a1, a2, a3, a4, a5] (st) M Q = xW xSC 9 22 [.ref a0, .ref a1, a2, a3, a4, a5] (.int (nI 1) :: st) M Q) ∧
  (∀ (a0 : Nat) (a1 : Nat) (a2 : Value) (a3 : Value) (a4 : Value) (a5 : Value) (y0 : Int32) (y1 : Int32) (st : List Value) (M : xM) (Q : Option Value → xM → Prop), xW xSC 9 22 [.ref a0, .ref a1, a2, a3, a4, a5] (.int y0 :: .int y1 :: st) M Q = xW xSC 9 23 [.ref a0, .ref a1, a2, a3, a4, a5] (.int (y1 - y0) :: st) M Q) ∧
  (∀ (a0 : Nat) (a1 : Nat) (a2 : Value) (a3 : Value) (a4 : Value) (a5 : Value) (y0 : Int32) (st : List Value) (M : xM) (Q : Option Value → xM → Prop), xW xSC 9 23 [.ref a0, .ref a1, a2, a3, a4, a5] (.int y0 :: .ref 24 :: st) M Q = xW xSC 9 26 [.ref a0, .ref a1, a2, a3, a4, a5] (st) (xup M 24 2 y0) Q) ∧
  (∀ (a0 : Nat) (a1 : Nat) (a2 : Value) (a3 : Value) (a4 : Value) (a5 : Value) (st : List Value) (M : xM) (Q : Option Value → xM → Prop), xW xSC 9 26 [.ref a0, .ref a1, a2, a3, a4, a5] (st) M Q = xW xSC 9 27 [.ref a0, .ref a1, a2, a3, a4, a5] (.ref a0 :: st) M Q) ∧
  (∀ (a0 : Nat) (a1 : Nat) (a2 : Value) (a3 : Value) (a4 : Value) (a5 : Value) (st : List Value) (M : xM) (Q : Option Value → xM → Prop), xW xSC 9 27 [.ref a0, .ref a1, a2, a3, a4, a5] (.ref 24 :: st) M Q = xW xSC 9 30 [.ref a0, .ref a1, a2, a3, a4, a5] (.int (M 24 1) :: st) M Q) ∧
  (∀ (a0 : Nat) (a1 : Nat) (a2 : Value) (a3 : Value) (a4 : Value) (a5 : Value) (st : List Value) (M : xM) (Q : Option Value → xM → Prop), xW xSC 9 30 [.ref a0, .ref a1, a2, a3, a4, a5] (st) M Q = xW xSC 9 32 [.ref a0, .ref a1, a2, a3, a4, a5] (.int (nI 6) :: st) M Q) ∧
  (∀ (a0 : Nat) (a1 : Nat) (a2 : Value) (a3 : Value) (a4 : Value) (a5 : Value) (y0 : Int32) (y1 : Int32) (st : List Value) (M : xM) (Q : Option Value → xM → Prop), xW xSC 9 32 [.ref a0, .ref a1, a2, a3, a4, a5] (.int y0 :: .int y1 :: st) M Q = xW xSC 9 33 [.ref a0, .ref a1, a2, a3, a4, a5] (.int (y1 * y0) :: st) M Q) ∧
  (∀ (a0 : Nat) (a1 : Nat) (a2 : Value) (a3 : Value) (a4 : Value) (a5 : Value) (y0 : Int32) (st : List Value) (M : xM) (Q : Option Value → xM → Prop), xW xSC 9 33 [.ref a0, .ref a1, a2, a3, a4, a5] (.int y0 :: st) M Q = xW xSC 9 34 [.ref a0, .ref a1, .int y0, a3, a4, a5] (st) M Q) ∧
  (∀ (a0 : Nat) (a1 : Nat) (a2 : Int32) (a3 : Value) (a4 : Value) (a5 : Value) (st : List Value) (M : xM) (Q : Option Value → xM → Prop), xW xSC 9 34 [.ref a0, .ref a1, .int a2, a3, a4, a5] (st) M Q = xW xSC 9 35 [.ref a0, .ref a1, .int a2, a3, a4, a5] (.ref a0 :: st) M Q) ∧
  (∀ (a0 : Nat) (a1 : Nat) (a2 : Int32) (a3 : Value) (a4 : Value) (a5 : Value) (st : List Value) (M : xM) (Q : Option Value → xM → Prop), xW xSC 9 35 [.ref a0, .ref a1, .int a2, a3, a4, a5] (.ref 24 :: st) M Q = xW xSC 9 38 [.ref a0, .ref a1, .int a2, a3, a4, a5] (.ref 25 :: st) M Q) ∧
  (∀ (a0 : Nat) (a1 : Nat) (a2 : Int32) (a3 : Value) (a4 : Value) (a5 : Value) (st : List Value) (M : xM) (Q : Option Value → xM → Prop), xW xSC 9 38 [.ref a0, .ref a1, .int a2, a3, a4, a5] (st) M Q = xW xSC 9 39 [.ref a0, .ref a1, .int a2, a3, a4, a5] (.int a2 :: st) M Q) ∧
  (∀ (a0 : Nat) (a1 : Nat) (a2 : Int32) (a3 : Value) (a4 : Value) (a5 : Value) (st : List Value) (M : xM) (Q : Option Value → xM → Prop), xW xSC 9 39 [.ref a0, .ref a1, .int a2, a3, a4, a5] (st) M Q = xW xSC 9 40 [.ref a0, .ref a1, .int a2, a3, a4, a5] (.int (nI 1) :: st) M Q) ∧
  (∀ (a0 : Nat) (a1 : Nat) (a2 : Int32) (a3 : Value) (a4 : Value) (a5 : Value) (y0 : Int32) (y1 : Int32) (st : List Value) (M : xM) (Q : Option Value → xM → Prop), xW xSC 9 40 [.ref a0, .ref a1, .int a2, a3, a4, a5] (.int y0 :: .int y1 :: st) M Q = xW xSC 9 41 [.ref a0, .ref a1, .int a2, a3, a4, a5] (.int (y1 + y0) :: st) M Q) ∧
  (∀ (a0 : Nat) (a1 : Nat) (a2 : Int32) (a3 : Value) (a4 : Value) (a5 : Value) (y0 : Int32) (y1 : Nat) (M : xM) (Q : Option Value → xM → Prop), xW xSC 9 41 [.ref a0, .ref a1, .int a2, a3, a4, a5] (.int y0 :: .ref y1 :: []) M Q = xW xSC 0 0 [.ref y1, .int y0] [] M (fun v M' => xW xSC 9 44 [.ref a0, .ref a1, .int a2, a3, a4, a5] (xpush v []) M' Q)) ∧
  (∀ (a0 : Nat) (a1 : Nat) (a2 : Int32) (a3 : Value) (a4 : Value) (a5 : Value) (y0 : Int32) (st : List Value) (M : xM) (Q : Option Value → xM → Prop), xW xSC 9 44 [.ref a0, .ref a1, .int a2, a3, a4, a5] (.int y0 :: st) M Q = xW xSC 9 45 [.ref a0, .ref a1, .int a2, .int y0, a4, a5] (st) M Q) ∧
  (∀ (a0 : Nat) (a1 : Nat) (a2 : Int32) (a3 : Int32) (a4 : Value) (a5 : Value) (st : List Value) (M : xM) (Q : Option Value → xM → Prop), xW xSC 9 45 [.ref a0, .ref a1, .int a2, .int a3, a4, a5] (st) M Q = xW xSC 9 46 [.ref a0, .ref a1, .int a2, .int a3, a4, a5] (.ref a0 :: st) M Q) ∧
  (∀ (a0 : Nat) (a1 : Nat) (a2 : Int32) (a3 : Int32) (a4 : Value) (a5 : Value) (st : List Value) (M : xM) (Q : Option Value → xM → Prop), xW xSC 9 46 [.ref a0, .ref a1, .int a2, .int a3, a4, a5] (.ref 24 :: st) M Q = xW xSC 9 49 [.ref a0, .ref a1, .int a2, .int a3, a4, a5] (.ref 25 :: st) M Q) ∧
  (∀ (a0 : Nat) (a1 : Nat) (a2 : Int32) (a3 : Int32) (a4 : Value) (a5 : Value) (st : List Value) (M : xM) (Q : Option Value → xM → Prop), xW xSC 9 49 [.ref a0, .ref a1, .int a2, .int a3, a4, a5] (st) M Q = xW xSC 9 50 [.ref a0, .ref a1, .int a2, .int a3, a4, a5] (.int a2 :: st) M Q) ∧
  (∀ (a0 : Nat) (a1 : Nat) (a2 : Int32) (a3 : Int32) (a4 : Value) (a5 : Value) (st : List Value) (M : xM) (Q : Option Value → xM → Prop), xW xSC 9 50 [.ref a0, .ref a1, .int a2, .int a3, a4, a5] (st) M Q = xW xSC 9 51 [.ref a0, .ref a1, .int a2, .int a3, a4, a5] (.int (nI 2) :: st) M Q) ∧
  (∀ (a0 : Nat) (a1 : Nat) (a2 : Int32) (a3 : Int32) (a4 : Value) (a5 : Value) (y0 : Int32) (y1 : Int32) (st : List Value) (M : xM) (Q : Option Value → xM → Prop), xW xSC 9 51 [.ref a0, .ref a1, .int a2, .int a3, a4, a5] (.int y0 :: .int y1 :: st) M Q = xW xSC 9 52 [.ref a0, .ref a1, .int a2, .int a3, a4, a5] (.int (y1 + y0) :: st) M Q) ∧
  (∀ (a0 : Nat) (a1 : Nat) (a2 : Int32) (a3 : Int32) (a4 : Value) (a5 : Value) (y0 : Int32) (y1 : Nat) (M : xM) (Q : Option Value → xM → Prop), xW xSC 9 52 [.ref a0, .ref a1, .int a2, .int a3, a4, a5] (.int y0 :: .ref y1 :: []) M Q = xW xSC 0 0 [.ref y1, .int y0] [] M (fun v M' => xW xSC 9 55 [.ref a0, .ref a1, .int a2, .int a3, a4, a5] (xpush v []) M' Q)) ∧
  (∀ (a0 : Nat) (a1 : Nat) (a2 : Int32) (a3 : Int32) (a4 : Value) (a5 : Value) (y0 : Int32) (st : List Value) (M : xM) (Q : Option Value → xM → Prop), xW xSC 9 55 [.ref a0, .ref a1, .int a2, .int a3, a4, a5] (.int y0 :: st) M Q = xW xSC 9 57 [.ref a0, .ref a1, .int a2, .int a3, .int y0, a5] (st) M Q) ∧
  (∀ (a0 : Nat) (a1 : Nat) (a2 : Int32) (a3 : Int32) (a4 : Int32) (a5 : Value) (st : List Value) (M : xM) (Q : Option Value → xM → Prop), xW xSC 9 57 [.ref a0, .ref a1, .int a2, .int a3, .int a4, a5] (st) M Q = xW xSC 9 58 [.ref a0, .ref a1, .int a2, .int a3, .int a4, a5] (.ref a0 :: st) M Q) ∧
  (∀ (a0 : Nat) (a1 : Nat) (a2 : Int32) (a3 : Int32) (a4 : Int32) (a5 : Value) (st : List Value) (M : xM) (Q : Option Value → xM → Prop), xW xSC 9 58 [.ref a0, .ref a1, .int a2, .int a3, .int a4, a5] (.ref 24 :: st) M Q = xW xSC 9 61 [.ref a0, .ref a1, .int a2, .int a3, .int a4, a5] (.ref 25 :: st) M Q) ∧
  (∀ (a0 : Nat) (a1 : Nat) (a2 : Int32) (a3 : Int32) (a4 : Int32) (a5 : Value) (st : List Value) (M : xM) (Q : Option Value → xM → Prop), xW xSC 9 61 [.ref a0, .ref a1, .int a2, .int a3, .int a4, a5] (st) M Q = xW xSC 9 62 [.ref a0, .ref a1, .int a2, .int a3, .int a4, a5] (.int a2 :: st) M Q) ∧
  (∀ (a0 : Nat) (a1 : Nat) (a2 : Int32) (a3 : Int32) (a4 : Int32) (a5 : Value) (st : List Value) (M : xM) (Q : Option Value → xM → Prop), xW xSC 9 62 [.ref a0, .ref a1, .int a2, .int a3, .int a4, a5] (st) M Q = xW xSC 9 63 [.ref a0, .ref a1, .int a2, .int a3, .int a4, a5] (.int (nI 3) :: st) M Q) ∧
  (∀ (a0 : Nat) (a1 : Nat) (a2 : Int32) (a3 : Int32) (a4 : Int32) (a5 : Value) (y0 : Int32) (y1 : Int32) (st : List Value) (M : xM) (Q : Option Value → xM → Prop), xW xSC 9 63 [.ref a0, .ref a1, .int a2, .int a3, .int a4, a5] (.int y0 :: .int y1 :: st) M Q = xW xSC 9 64 [.ref a0, .ref a1, .int a2, .int a3, .int a4, a5] (.int (y1 + y0) :: st) M Q) ∧
  (∀ (a0 : Nat) (a1 : Nat) (a2 : Int32) (a3 : Int32) (a4 : Int32) (a5 : Value) (y0 : Int32) (y1 : Nat) (M : xM) (Q : Option Value → xM → Prop), xW xSC 9 64 [.ref a0, .ref a1, .int a2, .int a3, .int a4, a5] (.int y0 :: .ref y1 :: []) M Q = xW xSC 0 0 [.ref y1, .int y0] [] M (fun v M' => xW xSC 9 67 [.ref a0, .ref a1, .int a2, .int a3, .int a4, a5] (xpush v []) M' Q)) ∧
  (∀ (a0 : Nat) (a1 : Nat) (a2 : Int32) (a3 : Int32) (a4 : Int32) (a5 : Value) (y0 : Int32) (st : List Value) (M : xM) (Q : Option Value → xM → Prop), xW xSC 9 67 [.ref a0, .ref a1, .int a2, .int a3, .int a4, a5] (.int y0 :: st) M Q = xW xSC 9 69 [.ref a0, .ref a1, .int a2, .int a3, .int a4, .int y0] (st) M Q) ∧
  (∀ (a0 : Nat) (a1 : Nat) (a2 : Int32) (a3 : Int32) (a4 : Int32) (a5 : Int32) (st : List Value) (M : xM) (Q : Option Value → xM → Prop), xW xSC 9 69 [.ref a0, .ref a1, .int a2, .int a3, .int a4, .int a5] (st) M Q = xW xSC 9 70 [.ref a0, .ref a1, .int a2, .int a3, .int a4, .int a5] (.ref a0 :: st) M Q) ∧
  (∀ (a0 : Nat) (a1 : Nat) (a2 : Int32) (a3 : Int32) (a4 : Int32) (a5 : Int32) (st : List Value) (M : xM) (Q : Option Value → xM → Prop), xW xSC 9 70 [.ref a0, .ref a1, .int a2, .int a3, .int a4, .int a5] (.ref 24 :: st) M Q = xW xSC 9 73 [.ref a0, .ref a1, .int a2, .int a3, .int a4, .int a5] (.ref 25 :: st) M Q) ∧
  (∀ (a0 : Nat) (a1 : Nat) (a2 : Int32) (a3 : Int32) (a4 : Int32) (a5 : Int32) (st : List Value) (M : xM) (Q : Option Value → xM → Prop), xW xSC 9 73 [.ref a0, .ref a1, .int a2, .int a3, .int a4, .int a5] (st) M Q = xW xSC 9 74 [.ref a0, .ref a1, .int a2, .int a3, .int a4, .int a5] (.int a2 :: st) M Q) ∧
  (∀ (a0 : Nat) (a1 : Nat) (a2 : Int32) (a3 : Int32) (a4 : Int32) (a5 : Int32) (y0 : Int32) (y1 : Nat) (M : xM) (Q : Option Value → xM → Prop), xW xSC 9 74 [.ref a0, .ref a1, .int a2, .int a3, .int a4, .int a5] (.int y0 :: .ref y1 :: []) M Q = xW xSC 0 0 [.ref y1, .int y0] [] M (fun v M' => xW xSC 9 77 [.ref a0, .ref a1, .int a2, .int a3, .int a4, .int a5] (xpush v []) M' Q)) ∧
  (∀ (a0 : Nat) (a1 : Nat) (a2 : Int32) (a3 : Int32) (a4 : Int32) (a5 : Int32) (st : List Value) (M : xM) (Q : Option Value → xM → Prop), xW xSC 9 77 [.ref a0, .ref a1, .int a2, .int a3, .int a4, .int a5] (st) M Q = xW xSC 9 78 [.ref a0, .ref a1, .int a2, .int a3, .int a4, .int a5] (.int (nI 1) :: st) M Q) ∧
  (∀ (a0 : Nat) (a1 : Nat) (a2 : Int32) (a3 : Int32) (a4 : Int32) (a5 : Int32) (y0 : Int32) (y1 : Int32) (st : List Value) (M : xM) (Q : Option Value → xM → Prop), xW xSC 9 78 [.ref a0, .ref a1, .int a2, .int a3, .int a4, .int a5] (.int y0 :: .int y1 :: st) M Q = if y1 = y0 then xW xSC 9 81 [.ref a0, .ref a1, .int a2, .int a3, .int a4, .int a5] (st) M Q else xW xSC 9 91 [.ref a0, .ref a1, .int a2, .int a3, .int a4, .int a5] (st) M Q) ∧
  (∀ (a0 : Nat) (a1 : Nat) (a2 : Int32) (a3 : Int32) (a4 : Int32) (a5 : Int32) (st : List Value) (M : xM) (Q : Option Value → xM → Prop), xW xSC 9 81 [.ref a0, .ref a1, .int a2, .int a3, .int a4, .int a5] (st) M Q = xW xSC 9 82 [.ref a0, .ref a1, .int a2, .int a3, .int a4, .int a5] (.ref a1 :: st) M Q) ∧
  (∀ (a0 : Nat) (a1 : Nat) (a2 : Int32) (a3 : Int32) (a4 : Int32) (a5 : Int32) (st : List Value) (M : xM) (Q : Option Value → xM → Prop), xW xSC 9 82 [.ref a0, .ref a1, .int a2, .int a3, .int a4, .int a5] (st) M Q = xW xSC 9 83 [.ref a0, .ref a1, .int a2, .int a3, .int a4, .int a5] (.int a3 :: st) M Q) ∧
  (∀ (a0 : Nat) (a1 : Nat) (a2 : Int32) (a3 : Int32) (a4 : Int32) (a5 : Int32) (st : List Value) (M : xM) (Q : Option Value → xM → Prop), xW xSC 9 83 [.ref a0, .ref a1, .int a2, .int a3, .int a4, .int a5] (st) M Q = xW xSC 9 85 [.ref a0, .ref a1, .int a2, .int a3, .int a4, .int a5] (.int a4 :: st) M Q) ∧
  (∀ (a0 : Nat) (a1 : Nat) (a2 : Int32) (a3 : Int32) (a4 : Int32) (a5 : Int32) (st : List Value) (M : xM) (Q : Option Value → xM → Prop), xW xSC 9 85 [.ref a0, .ref a1, .int a2, .int a3, .int a4, .int a5] (st) M Q = xW xSC 9 87 [.ref a0, .ref a1, .int a2, .int a3, .int a4, .int a5] (.int a5 :: st) M Q) ∧
  (∀ (a0 : Nat) (a1 : Nat) (a2 : Int32) (a3 : Int32) (a4 : Int32) (a5 : Int32) (y0 : Int32) (y1 : Int32) (y2 : Int32) (M : xM) (Q : Option Value → xM → Prop), xW xSC 9 87 [.ref a0, .ref a1, .int a2, .int a3, .int a4, .int a5] (.int y0 :: .int y1 :: .int y2 :: .ref 9 :: []) M Q = xW xSC 29 0 [.ref 9, .int y2, .int y1, .int y0] [] M (fun v M' => xW xSC 9 90 [.ref a0, .ref a1, .int a2, .int a3, .int a4, .int a5] (xpush v []) M' Q)) ∧
  (∀ (a0 : Nat) (a1 : Nat) (a2 : Int32) (a3 : Int32) (a4 : Int32) (a5 : Int32) (M : xM) (Q : Option Value → xM → Prop), xW xSC 9 90 [.ref a0, .ref a1, .int a2, .int a3, .int a4, .int a5] ([]) M Q = Q none M) ∧
  (∀ (a0 : Nat) (a1 : Nat) (a2 : Int32) (a3 : Int32) (a4 : Int32) (a5 : Int32) (st : List Value) (M : xM) (Q : Option Value → xM → Prop), xW xSC 9 91 [.ref a0, .ref a1, .int a2, .int a3, .int a4, .int a5] (st) M Q = xW xSC 9 92 [.ref a0, .ref a1, .int a2, .int a3, .int a4, .int a5] (.ref a1 :: st) M Q) ∧
  (∀ (a0 : Nat) (a1 : Nat) (a2 : Int32) (a3 : Int32) (a4 : Int32) (a5 : Int32) (st : List Value) (M : xM) (Q : Option Value → xM → Prop), xW xSC 9 92 [.ref a0, .ref a1, .int a2, .int a3, .int a4, .int a5] (st) M Q = xW xSC 9 93 [.ref a0, .ref a1, .int a2, .int a3, .int a4, .int a5] (.int a3 :: st) M Q) ∧
  (∀ (a0 : Nat) (a1 : Nat) (a2 : Int32) (a3 : Int32) (a4 : Int32) (a5 : Int32) (st : List Value) (M : xM) (Q : Option Value → xM → Prop), xW xSC 9 93 [.ref a0, .ref a1, .int a2, .int a3, .int a4, .int a5] (st) M Q = xW xSC 9 95 [.ref a0, .ref a1, .int a2, .int a3, .int a4, .int a5] (.int a4 :: st) M Q) ∧
  (∀ (a0 : Nat) (a1 : Nat) (a2 : Int32) (a3 : Int32) (a4 : Int32) (a5 : Int32) (st : List Value) (M : xM) (Q : Option Value → xM → Prop), xW xSC 9 95 [.ref a0, .ref a1, .int a2, .int a3, .int a4, .int a5] (st) M Q = xW xSC 9 97 [.ref a0, .ref a1, .int a2, .int a3, .int a4, .int a5] (.int a5 :: st) M Q) ∧
  (∀ (a0 : Nat) (a1 : Nat) (a2 : Int32) (a3 : Int32) (a4 : Int32) (a5 : Int32) (y0 : Int32) (y1 : Int32) (y2 : Int32) (M : xM) (Q : Option Value → xM → Prop), xW xSC 9 97 [.ref a0, .ref a1, .int a2, .int a3, .int a4, .int a5] (.int y0 :: .int y1 :: .int y2 :: .ref 9 :: []) M Q = xW xSC 33 0 [.ref 9, .int y2, .int y1, .int y0] [] M (fun v M' => xW xSC 9 100 [.ref a0, .ref a1, .int a2, .int a3, .int a4, .int a5] (xpush v []) M' Q)) ∧
  (∀ (a0 : Nat) (a1 : Nat) (a2 : Int32) (a3 : Int32) (a4 : Int32) (a5 : Int32) (st : List Value) (M : xM) (Q : Option Value → xM → Prop), xW xSC 9 100 [.ref a0, .ref a1, .int a2, .int a3, .int a4, .int a5] (st) M Q = xW xSC 9 101 [.ref a0, .ref a1, .int a2, .int a3, .int a4, .int a5] (.ref a1 :: st) M Q) ∧
  (∀ (a0 : Nat) (a1 : Nat) (a2 : Int32) (a3 : Int32) (a4 : Int32) (a5 : Int32) (st : List Value) (M : xM) (Q : Option Value → xM → Prop), xW xSC 9 101 [.ref a0, .ref a1, .int a2, .int a3, .int a4, .int a5] (st) M Q = xW xSC 9 102 [.ref a0, .ref a1, .int a2, .int a3, .int a4, .int a5] (.int a3 :: st) M Q) ∧
  (∀ (a0 : Nat) (a1 : Nat) (a2 : Int32) (a3 : Int32) (a4 : Int32) (a5 : Int32) (st : List Value) (M : xM) (Q : Option Value → xM → Prop), xW xSC 9 102 [.ref a0, .ref a1, .int a2, .int a3, .int a4, .int a5] (st) M Q = xW xSC 9 103 [.ref a0, .ref a1, .int a2, .int a3, .int a4, .int a5] (.int (nI 0) :: st) M Q) ∧
  (∀ (a0 : Nat) (a1 : Nat) (a2 : Int32) (a3 : Int32) (a4 : Int32) (a5 : Int32) (st : List Value) (M : xM) (Q : Option Value → xM → Prop), xW xSC 9 103 [.ref a0, .ref a1, .int a2, .int a3, .int a4, .int a5] (st) M Q = xW xSC 9 104 [.ref a0, .ref a1, .int a2, .int a3, .int a4, .int a5] (.ref a0 :: st) M Q) ∧
  (∀ (a0 : Nat) (a1 : Nat) (a2 : Int32) (a3 : Int32) (a4 : Int32) (a5 : Int32) (st : List Value) (M : xM) (Q : Option Value → xM → Prop), xW xSC 9 104 [.ref a0, .ref a1, .int a2, .int a3, .int a4, .int a5] (.ref 24 :: st) M Q = xW xSC 9 107 [.ref a0, .ref a1, .int a2, .int a3, .int a4, .int a5] (.ref 25 :: st) M Q) ∧
  (∀ (a0 : Nat) (a1 : Nat) (a2 : Int32) (a3 : Int32) (a4 : Int32) (a5 : Int32) (st : List Value) (M : xM) (Q : Option Value → xM → Prop), xW xSC 9 107 [.ref a0, .ref a1, .int a2, .int a3, .int a4, .int a5] (st) M Q = xW xSC 9 108 [.ref a0, .ref a1, .int a2, .int a3, .int a4, .int a5] (.int a2 :: st) M Q) ∧
  (∀ (a0 : Nat) (a1 : Nat) (a2 : Int32) (a3 : Int32) (a4 : Int32) (a5 : Int32) (st : List Value) (M : xM) (Q : Option Value → xM → Prop), xW xSC 9 108 [.ref a0, .ref a1, .int a2, .int a3, .int a4, .int a5] (st) M Q = xW xSC 9 109 [.ref a0, .ref a1, .int a2, .int a3, .int a4, .int a5] (.int (nI 4) :: st) M Q) ∧
  (∀ (a0 : Nat) (a1 : Nat) (a2 : Int32) (a3 : Int32) (a4 : Int32) (a5 : Int32) (y0 : Int32) (y1 : Int32) (st : List Value) (M : xM) (Q : Option Value → xM → Prop), xW xSC 9 109 [.ref a0, .ref a1, .int a2, .int a3, .int a4, .int a5] (.int y0 :: .int y1 :: st) M Q = xW xSC 9 110 [.ref a0, .ref a1, .int a2, .int a3, .int a4, .int a5] (.int (y1 + y0) :: st) M Q) ∧
  (∀ (a0 : Nat) (a1 : Nat) (a2 : Int32) (a3 : Int32) (a4 : Int32) (a5 : Int32) (y0 : Int32) (y1 : Nat) (y2 : Int32) (y3 : Int32) (y4 : Nat) (M : xM) (Q : Option Value → xM → Prop), xW xSC 9 110 [.ref a0, .ref a1, .int a2, .int a3, .int a4, .int a5] (.int y0 :: .ref y1 :: .int y2 :: .int y3 :: .ref y4 :: []) M Q = xW xSC 0 0 [.ref y1, .int y0] [] M (fun v M' => xW xSC 9 113 [.ref a0, .ref a1, .int a2, .int a3, .int a4, .int a5] (xpush v [.int y2, .int y3, .ref y4]) M' Q)) ∧
  (∀ (a0 : Nat) (a1 : Nat) (a2 : Int32) (a3 : Int32) (a4 : Int32) (a5 : Int32) (y0 : Int32) (y1 : Int32) (y2 : Int32) (M : xM) (Q : Option Value → xM → Prop), xW xSC 9 113 [.ref a0, .ref a1, .int a2, .int a3, .int a4, .int a5] (.int y0 :: .int y1 :: .int y2 :: .ref 9 :: []) M Q = xW xSC 31 0 [.ref 9, .int y2, .int y1, .int y0] [] M (fun v M' => xW xSC 9 116 [.ref a0, .ref a1, .int a2, .int a3, .int a4, .int a5] (xpush v []) M' Q)) ∧
  (∀ (a0 : Nat) (a1 : Nat) (a2 : Int32) (a3 : Int32) (a4 : Int32) (a5 : Int32) (st : List Value) (M : xM) (Q : Option Value → xM → Prop), xW xSC 9 116 [.ref a0, .ref a1, .int a2, .int a3, .int a4, .int a5] (st) M Q = xW xSC 9 117 [.ref a0, .ref a1, .int a2, .int a3, .int a4, .int a5] (.ref a1 :: st) M Q) ∧
  (∀ (a0 : Nat) (a1 : Nat) (a2 : Int32) (a3 : Int32) (a4 : Int32) (a5 : Int32) (st : List Value) (M : xM) (Q : Option Value → xM → Prop), xW xSC 9 117 [.ref a0, .ref a1, .int a2, .int a3, .int a4, .int a5] (st) M Q = xW xSC 9 118 [.ref a0, .ref a1, .int a2, .int a3, .int a4, .int a5] (.int a3 :: st) M Q) ∧
  (∀ (a0 : Nat) (a1 : Nat) (a2 : Int32) (a3 : Int32) (a4 : Int32) (a5 : Int32) (st : List Value) (M : xM) (Q : Option Value → xM → Prop), xW xSC 9 118 [.ref a0, .ref a1, .int a2, .int a3, .int a4, .int a5] (st) M Q = xW xSC 9 119 [.ref a0, .ref a1, .int a2, .int a3, .int a4, .int a5] (.int (nI 2) :: st) M Q) ∧
  (∀ (a0 : Nat) (a1 : Nat) (a2 : Int32) (a3 : Int32) (a4 : Int32) (a5 : Int32) (st : List Value) (M : xM) (Q : Option Value → xM → Prop), xW xSC 9 119 [.ref a0, .ref a1, .int a2, .int a3, .int a4, .int a5] (st) M Q = xW xSC 9 120 [.ref a0, .ref a1, .int a2, .int a3, .int a4, .int a5] (.ref a0 :: st) M Q) ∧
  (∀ (a0 : Nat) (a1 : Nat) (a2 : Int32) (a3 : Int32) (a4 : Int32) (a5 : Int32) (st : List Value) (M : xM) (Q : Option Value → xM → Prop), xW xSC 9 120 [.ref a0, .ref a1, .int a2, .int a3, .int a4, .int a5] (.ref 24 :: st) M Q = xW xSC 9 123 [.ref a0, .ref a1, .int a2, .int a3, .int a4, .int a5] (.ref 25 :: st) M Q) ∧
  (∀ (a0 : Nat) (a1 : Nat) (a2 : Int32) (a3 : Int32) (a4 : Int32) (a5 : Int32) (st : List Value) (M : xM) (Q : Option Value → xM → Prop), xW xSC 9 123 [.ref a0, .ref a1, .int a2, .int a3, .int a4, .int a5] (st) M Q = xW xSC 9 124 [.ref a0, .ref a1, .int a2, .int a3, .int a4, .int a5] (.int a2 :: st) M Q) ∧
  (∀ (a0 : Nat) (a1 : Nat) (a2 : Int32) (a3 : Int32) (a4 : Int32) (a5 : Int32) (st : List Value) (M : xM) (Q : Option Value → xM → Prop), xW xSC 9 124 [.ref a0, .ref a1, .int a2, .int a3, .int a4, .int a5] (st) M Q = xW xSC 9 125 [.ref a0, .ref a1, .int a2, .int a3, .int a4, .int a5] (.int (nI 5) :: st) M Q) ∧
  (∀ (a0 : Nat) (a1 : Nat) (a2 : Int32) (a3 : Int32) (a4 : Int32) (a5 : Int32) (y0 : Int32) (y1 : Int32) (st : List Value) (M : xM) (Q : Option Value → xM → Prop), xW xSC 9 125 [.ref a0, .ref a1, .int a2, .int a3, .int a4, .int a5] (.int y0 :: .int y1 :: st) M Q = xW xSC 9 126 [.ref a0, .ref a1, .int a2, .int a3, .int a4, .int a5] (.int (y1 + y0) :: st) M Q) ∧
  (∀ (a0 : Nat) (a1 : Nat) (a2 : Int32) (a3 : Int32) (a4 : Int32) (a5 : Int32) (y0 : Int32) (y1 : Nat) (y2 : Int32) (y3 : Int32) (y4 : Nat) (M : xM) (Q : Option Value → xM → Prop), xW xSC 9 126 [.ref a0, .ref a1, .int a2, .int a3, .int a4, .int a5] (.int y0 :: .ref y1 :: .int y2 :: .int y3 :: .ref y4 :: []) M Q = xW xSC 0 0 [.ref y1, .int y0] [] M (fun v M' => xW xSC 9 129 [.ref a0, .ref a1, .int a2, .int a3, .int a4, .int a5] (xpush v [.int y2, .int y3, .ref y4]) M' Q)) ∧
  (∀ (a0 : Nat) (a1 : Nat) (a2 : Int32) (a3 : Int32) (a4 : Int32) (a5 : Int32) (y0 : Int32) (y1 : Int32) (y2 : Int32) (M : xM) (Q : Option Value → xM → Prop), xW xSC 9 129 [.ref a0, .ref a1, .int a2, .int a3, .int a4, .int a5] (.int y0 :: .int y1 :: .int y2 :: .ref 9 :: []) M Q = xW xSC 31 0 [.ref 9, .int y2, .int y1, .int y0] [] M (fun v M' => xW xSC 9 132 [.ref a0, .ref a1, .int a2, .int a3, .int a4, .int a5] (xpush v []) M' Q)) ∧
  (∀ (a0 : Nat) (a1 : Nat) (a2 : Int32) (a3 : Int32) (a4 : Int32) (a5 : Int32) (M : xM) (Q : Option Value → xM → Prop), xW xSC 9 132 [.ref a0, .ref a1, .int a2, .int a3, .int a4, .int a5] ([]) M Q = Q none M) :=
  ⟨fun a0 a1 a2 a3 a4 a5 st M Q => xw_s rfl rfl,
  fun a0 a1 a2 a3 a4 a5 st M Q => xw_s rfl rfl,
  fun a0 a1 a2 a3 a4 a5 st M Q => xw_s rfl rfl,
  fun a0 a1 a2 a3 a4 a5 st M Q => xw_s rfl rfl,
  fun a0 a1 a2 a3 a4 a5 y0 y1 st M Q => xw_s rfl rfl,
  fun a0 a1 a2 a3 a4 a5 st M Q => xw_s rfl rfl,
  fun a0 a1 a2 a3 a4 a5 y0 y1 st M Q => xw_s rfl rfl,
  fun a0 a1 a2 a3 a4 a5 st M Q => xw_s rfl rfl,
  fun a0 a1 a2 a3 a4 a5 y0 y1 st M Q h0 h1 => xw_div (f := fun x y => x - x / y * y) rfl rfl (nI_ne0 h0 h1),
  fun a0 a1 a2 a3 a4 a5 y0 st M Q => xw_s rfl rfl,
  fun a0 a1 a2 a3 a4 a5 st M Q => xw_s rfl rfl,
  fun a0 a1 a2 a3 a4 a5 y0 st M Q => xw_s rfl rfl,
  fun a0 a1 a2 a3 a4 a5 st M Q => xw_s rfl rfl,
  fun a0 a1 a2 a3 a4 a5 st M Q => xw_s rfl rfl,
  fun a0 a1 a2 a3 a4 a5 y0 y1 st M Q => xw_s rfl rfl,
  fun a0 a1 a2 a3 a4 a5 y0 st M Q => xw_s rfl rfl,
  fun a0 a1 a2 a3 a4 a5 st M Q => xw_s rfl rfl,
  fun a0 a1 a2 a3 a4 a5 st M Q => xw_s rfl rfl,
  fun a0 a1 a2 a3 a4 a5 st M Q => xw_s rfl rfl,
  fun a0 a1 a2 a3 a4 a5 y0 y1 st M Q => xw_s rfl rfl,
  fun a0 a1 a2 a3 a4 a5 y0 st M Q => xw_s rfl rfl,
  fun a0 a1 a2 a3 a4 a5 st M Q => xw_s rfl rfl,
  fun a0 a1 a2 a3 a4 a5 st M Q => xw_s rfl rfl,
  fun a0 a1 a2 a3 a4 a5 st M Q => xw_s rfl rfl,
  fun a0 a1 a2 a3 a4 a5 st M Q => xw_s rfl rfl,
  fun a0 a1 a2 a3 a4 a5 y0 y1 st M Q => xw_s rfl rfl,
  fun a0 a1 a2 a3 a4 a5 y0 y1 M Q => xw_call rfl rfl rfl,
  fun a0 a1 a2 a3 a4 a5 y0 st M Q => xw_s rfl rfl,
  fun a0 a1 a2 a3 a4 a5 st M Q => xw_s rfl rfl,
  fun a0 a1 a2 a3 a4 a5 st M Q => xw_s rfl rfl,
  fun a0 a1 a2 a3 a4 a5 st M Q => xw_s rfl rfl,
  fun a0 a1 a2 a3 a4 a5 st M Q => xw_s rfl rfl,
  fun a0 a1 a2 a3 a4 a5 y0 y1 st M Q => xw_s rfl rfl,
  fun a0 a1 a2 a3 a4 a5 y0 y1 M Q => xw_call rfl rfl rfl,
  fun a0 a1 a2 a3 a4 a5 y0 st M Q => xw_s rfl rfl,
  fun a0 a1 a2 a3 a4 a5 st M Q => xw_s rfl rfl,
  fun a0 a1 a2 a3 a4 a5 st M Q => xw_s rfl rfl,
  fun a0 a1 a2 a3 a4 a5 st M Q => xw_s rfl rfl,
  fun a0 a1 a2 a3 a4 a5 st M Q => xw_s rfl rfl,
  fun a0 a1 a2 a3 a4 a5 y0 y1 st M Q => xw_s rfl rfl,
  fun a0 a1 a2 a3 a4 a5 y0 y1 M Q => xw_call rfl rfl rfl,
  fun a0 a1 a2 a3 a4 a5 y0 st M Q => xw_s rfl rfl,
  fun a0 a1 a2 a3 a4 a5 st M Q => xw_s rfl rfl,
  fun a0 a1 a2 a3 a4 a5 st M Q => xw_s rfl rfl,
  fun a0 a1 a2 a3 a4 a5 st M Q => xw_s rfl rfl,
  fun a0 a1 a2 a3 a4 a5 y0 y1 M Q => xw_call rfl rfl rfl,
  fun a0 a1 a2 a3 a4 a5 st M Q => xw_s rfl rfl,
  fun a0 a1 a2 a3 a4 a5 y0 y1 st M Q => xw_brn (c0 := y1 ≠ y0) (c1 := y1 = y0) rfl rfl (Iff.rfl),
  fun a0 a1 a2 a3 a4 a5 st M Q => xw_s rfl rfl,
  fun a0 a1 a2 a3 a4 a5 st M Q => xw_s rfl rfl,
  fun a0 a1 a2 a3 a4 a5 st M Q => xw_s rfl rfl,
  fun a0 a1 a2 a3 a4 a5 st M Q => xw_s rfl rfl,
  fun a0 a1 a2 a3 a4 a5 y0 y1 y2 M Q => xw_call rfl rfl rfl,
  fun a0 a1 a2 a3 a4 a5 M Q => xw_retv rfl rfl,
  fun a0 a1 a2 a3 a4 a5 st M Q => xw_s rfl rfl,
  fun a0 a1 a2 a3 a4 a5 st M Q => xw_s rfl rfl,
  fun a0 a1 a2 a3 a4 a5 st M Q => xw_s rfl rfl,
  fun a0 a1 a2 a3 a4 a5 st M Q => xw_s rfl rfl,
  fun a0 a1 a2 a3 a4 a5 y0 y1 y2 M Q => xw_call rfl rfl rfl,
  fun a0 a1 a2 a3 a4 a5 st M Q => xw_s rfl rfl,
  fun a0 a1 a2 a3 a4 a5 st M Q => xw_s rfl rfl,
  fun a0 a1 a2 a3 a4 a5 st M Q => xw_s rfl rfl,
  fun a0 a1 a2 a3 a4 a5 st M Q => xw_s rfl rfl,
  fun a0 a1 a2 a3 a4 a5 st M Q => xw_s rfl rfl,
  fun a0 a1 a2 a3 a4 a5 st M Q => xw_s rfl rfl,
  fun a0 a1 a2 a3 a4 a5 st M Q => xw_s rfl rfl,
  fun a0 a1 a2 a3 a4 a5 y0 y1 st M Q => xw_s rfl rfl,
  fun a0 a1 a2 a3 a4 a5 y0 y1 y2 y3 y4 M Q => xw_call rfl rfl rfl,
  fun a0 a1 a2 a3 a4 a5 y0 y1 y2 M Q => xw_call rfl rfl rfl,
  fun a0 a1 a2 a3 a4 a5 st M Q => xw_s rfl rfl,
  fun a0 a1 a2 a3 a4 a5 st M Q => xw_s rfl rfl,
  fun a0 a1 a2 a3 a4 a5 st M Q => xw_s rfl rfl,
  fun a0 a1 a2 a3 a4 a5 st M Q => xw_s rfl rfl,
  fun a0 a1 a2 a3 a4 a5 st M Q => xw_s rfl rfl,
  fun a0 a1 a2 a3 a4 a5 st M Q => xw_s rfl rfl,
  fun a0 a1 a2 a3 a4 a5 st M Q => xw_s rfl rfl,
  fun a0 a1 a2 a3 a4 a5 y0 y1 st M Q => xw_s rfl rfl,
  fun a0 a1 a2 a3 a4 a5 y0 y1 y2 y3 y4 M Q => xw_call rfl rfl rfl,
  fun a0 a1 a2 a3 a4 a5 y0 y1 y2 M Q => xw_call rfl rfl rfl,
  fun a0 a1 a2 a3 a4 a5 M Q => xw_retv rfl rfl⟩
theorem j9 : True := trivial

set_option maxRecDepth 20000 in
theorem s11 :
  (∀ (a0 : Nat) (st : List Value) (M : xM) (Q : Option Value → xM → Prop), xW xSC 11 0 [.ref a0] (st) M Q = xW xSC 11 1 [.ref a0] (.ref a0 :: st) M Q) ∧
  (∀ (a0 : Nat) (st : List Value) (M : xM) (Q : Option Value → xM → Prop), xW xSC 11 1 [.ref a0] (st) M Q = xW xSC 11 2 [.ref a0] (.int (nI 0) :: st) M Q) ∧
  (∀ (a0 : Nat) (y0 : Int32) (st : List Value) (M : xM) (Q : Option Value → xM → Prop), xW xSC 11 2 [.ref a0] (.int y0 :: .ref 41 :: st) M Q = xW xSC 11 5 [.ref a0] (st) (xup M 41 3 y0) Q) ∧
  (∀ (a0 : Nat) (M : xM) (Q : Option Value → xM → Prop), xW xSC 11 5 [.ref a0] ([]) M Q = Q none M) :=
  ⟨fun a0 st M Q => xw_s rfl rfl,
  fun a0 st M Q => xw_s rfl rfl,
  fun a0 y0 st M Q => xw_s rfl rfl,
  fun a0 M Q => xw_retv rfl rfl⟩
theorem j11 : True := trivial

set_option maxRecDepth 20000 in
theorem s12 :
  (∀ (a0 : Nat) (a1 : Nat) (a2 : Nat) (a3 : Int32) (a4 : Int32) (st : List Value) (M : xM) (Q : Option Value → xM → Prop), xW xSC 12 0 [.ref a0, .ref a1, .ref a2, .int a3, .int a4] (st) M Q = xW xSC 12 2 [.ref a0, .ref a1, .ref a2, .int a3, .int a4] (.int a4 :: st) M Q) ∧
  (∀ (a0 : Nat) (a1 : Nat) (a2 : Nat) (a3 : Int32) (a4 : Int32) (y0 : Int32) (st : List Value) (M : xM) (Q : Option Value → xM → Prop), xW xSC 12 2 [.ref a0, .ref a1, .ref a2, .int a3, .int a4] (.int y0 :: st) M Q = if y0 < nI 0 then xW xSC 12 5 [.ref a0, .ref a1, .ref a2, .int a3, .int a4] (st) M Q else xW xSC 12 6 [.ref a0, .ref a1, .ref a2, .int a3, .int a4] (st) M Q) ∧
  (∀ (a0 : Nat) (a1 : Nat) (a2 : Nat) (a3 : Int32) (a4 : Int32) (M : xM) (Q : Option Value → xM → Prop), xW xSC 12 5 [.ref a0, .ref a1, .ref a2, .int a3, .int a4] ([]) M Q = Q none M) ∧
  (∀ (a0 : Nat) (a1 : Nat) (a2 : Nat) (a3 : Int32) (a4 : Int32) (st : List Value) (M : xM) (Q : Option Value → xM → Prop), xW xSC 12 6 [.ref a0, .ref a1, .ref a2, .int a3, .int a4] (st) M Q = xW xSC 12 7 [.ref a0, .ref a1, .ref a2, .int a3, .int a4] (.ref a0 :: st) M Q) ∧
  (∀ (a0 : Nat) (a1 : Nat) (a2 : Nat) (a3 : Int32) (a4 : Int32) (st : List Value) (M : xM) (Q : Option Value → xM → Prop), xW xSC 12 7 [.ref a0, .ref a1, .ref a2, .int a3, .int a4] (.ref 41 :: st) M Q = xW xSC 12 10 [.ref a0, .ref a1, .ref a2, .int a3, .int a4] (.ref 42 :: st) M Q) ∧
  (∀ (a0 : Nat) (a1 : Nat) (a2 : Nat) (a3 : Int32) (a4 : Int32) (st : List Value) (M : xM) (Q : Option Value → xM → Prop), xW xSC 12 10 [.ref a0, .ref a1, .ref a2, .int a3, .int a4] (st) M Q = xW xSC 12 11 [.ref a0, .ref a1, .ref a2, .int a3, .int a4] (.ref a0 :: st) M Q) ∧
  (∀ (a0 : Nat) (a1 : Nat) (a2 : Nat) (a3 : Int32) (a4 : Int32) (st : List Value) (M : xM) (Q : Option Value → xM → Prop), xW xSC 12 11 [.ref a0, .ref a1, .ref a2, .int a3, .int a4] (.ref 41 :: st) M Q = xW xSC 12 14 [.ref a0, .ref a1, .ref a2, .int a3, .int a4] (.int (M 41 3) :: st) M Q) ∧
  (∀ (a0 : Nat) (a1 : Nat) (a2 : Nat) (a3 : Int32) (a4 : Int32) (st : List Value) (M : xM) (Q : Option Value → xM → Prop), xW xSC 12 14 [.ref a0, .ref a1, .ref a2, .int a3, .int a4] (st) M Q = xW xSC 12 15 [.ref a0, .ref a1, .ref a2, .int a3, .int a4] (.ref a2 :: st) M Q) ∧
  (∀ (a0 : Nat) (a1 : Nat) (a2 : Nat) (a3 : Int32) (a4 : Int32) (st : List Value) (M : xM) (Q : Option Value → xM → Prop), xW xSC 12 15 [.ref a0, .ref a1, .ref a2, .int a3, .int a4] (st) M Q = xW xSC 12 16 [.ref a0, .ref a1, .ref a2, .int a3, .int a4] (.ref a1 :: st) M Q) ∧
  (∀ (a0 : Nat) (a1 : Nat) (a2 : Nat) (a3 : Int32) (a4 : Int32) (st : List Value) (M : xM) (Q : Option Value → xM → Prop), xW xSC 12 16 [.ref a0, .ref a1, .ref a2, .int a3, .int a4] (st) M Q = xW xSC 12 17 [.ref a0, .ref a1, .ref a2, .int a3, .int a4] (.int a3 :: st) M Q) ∧
  (∀ (a0 : Nat) (a1 : Nat) (a2 : Nat) (a3 : Int32) (a4 : Int32) (st : List Value) (M : xM) (Q : Option Value → xM → Prop), xW xSC 12 17 [.ref a0, .ref a1, .ref a2, .int a3, .int a4] (st) M Q = xW xSC 12 19 [.ref a0, .ref a1, .ref a2, .int a3, .int a4] (.int a4 :: st) M Q) ∧
  (∀ (a0 : Nat) (a1 : Nat) (a2 : Nat) (a3 : Int32) (a4 : Int32) (y0 : Int32) (y1 : Int32) (y2 : Nat) (y4 : Int32) (y5 : Nat) (M : xM) (Q : Option Value → xM → Prop), xW xSC 12 19 [.ref a0, .ref a1, .ref a2, .int a3, .int a4] (.int y0 :: .int y1 :: .ref y2 :: .ref 39 :: .int y4 :: .ref y5 :: []) M Q = xW xSC 61 0 [.ref 39, .ref y2, .int y1, .int y0] [] M (fun v M' => xW xSC 12 22 [.ref a0, .ref a1, .ref a2, .int a3, .int a4] (xpush v [.int y4, .ref y5]) M' Q)) ∧
  (∀ (a0 : Nat) (a1 : Nat) (a2 : Nat) (a3 : Int32) (a4 : Int32) (y0 : Int32) (st : List Value) (M : xM) (Q : Option Value → xM → Prop), xW xSC 12 22 [.ref a0, .ref a1, .ref a2, .int a3, .int a4] (.int y0 :: st) M Q = if y0 = nI 0 then xW xSC 12 29 [.ref a0, .ref a1, .ref a2, .int a3, .int a4] (st) M Q else xW xSC 12 25 [.ref a0, .ref a1, .ref a2, .int a3, .int a4] (st) M Q) ∧
  (∀ (a0 : Nat) (a1 : Nat) (a2 : Nat) (a3 : Int32) (a4 : Int32) (st : List Value) (M : xM) (Q : Option Value → xM → Prop), xW xSC 12 25 [.ref a0, .ref a1, .ref a2, .int a3, .int a4] (st) M Q = xW xSC 12 26 [.ref a0, .ref a1, .ref a2, .int a3, .int a4] (.int (nI 4) :: st) M Q) ∧
  (∀ (a0 : Nat) (a1 : Nat) (a2 : Nat) (a3 : Int32) (a4 : Int32) (st : List Value) (M : xM) (Q : Option Value → xM → Prop), xW xSC 12 26 [.ref a0, .ref a1, .ref a2, .int a3, .int a4] (st) M Q = xW xSC 12 30 [.ref a0, .ref a1, .ref a2, .int a3, .int a4] (st) M Q) ∧
  (∀ (a0 : Nat) (a1 : Nat) (a2 : Nat) (a3 : Int32) (a4 : Int32) (st : List Value) (M : xM) (Q : Option Value → xM → Prop), xW xSC 12 29 [.ref a0, .ref a1, .ref a2, .int a3, .int a4] (st) M Q = xW xSC 12 30 [.ref a0, .ref a1, .ref a2, .int a3, .int a4] (.int (nI 1) :: st) M Q) ∧
  (∀ (a0 : Nat) (a1 : Nat) (a2 : Nat) (a3 : Int32) (a4 : Int32) (st : List Value) (M : xM) (Q : Option Value → xM → Prop), xW xSC 12 33 [.ref a0, .ref a1, .ref a2, .int a3, .int a4] (st) M Q = xW xSC 12 34 [.ref a0, .ref a1, .ref a2, .int a3, .int a4] (.ref a0 :: st) M Q) ∧
  (∀ (a0 : Nat) (a1 : Nat) (a2 : Nat) (a3 : Int32) (a4 : Int32) (st : List Value) (M : xM) (Q : Option Value → xM → Prop), xW xSC 12 34 [.ref a0, .ref a1, .ref a2, .int a3, .int a4] (.ref 41 :: st) M Q = xW xSC 12 37 [.ref a0, .ref a1, .ref a2, .int a3, .int a4] (.ref 43 :: st) M Q) ∧
  (∀ (a0 : Nat) (a1 : Nat) (a2 : Nat) (a3 : Int32) (a4 : Int32) (st : List Value) (M : xM) (Q : Option Value → xM → Prop), xW xSC 12 37 [.ref a0, .ref a1, .ref a2, .int a3, .int a4] (st) M Q = xW xSC 12 38 [.ref a0, .ref a1, .ref a2, .int a3, .int a4] (.ref a0 :: st) M Q) ∧
  (∀ (a0 : Nat) (a1 : Nat) (a2 : Nat) (a3 : Int32) (a4 : Int32) (st : List Value) (M : xM) (Q : Option Value → xM → Prop), xW xSC 12 38 [.ref a0, .ref a1, .ref a2, .int a3, .int a4] (.ref 41 :: st) M Q = xW xSC 12 41 [.ref a0, .ref a1, .ref a2, .int a3, .int a4] (.int (M 41 3) :: st) M Q) ∧
  (∀ (a0 : Nat) (a1 : Nat) (a2 : Nat) (a3 : Int32) (a4 : Int32) (st : List Value) (M : xM) (Q : Option Value → xM → Prop), xW xSC 12 41 [.ref a0, .ref a1, .ref a2, .int a3, .int a4] (st) M Q = xW xSC 12 42 [.ref a0, .ref a1, .ref a2, .int a3, .int a4] (.ref a1 :: st) M Q) ∧
  (∀ (a0 : Nat) (a1 : Nat) (a2 : Nat) (a3 : Int32) (a4 : Int32) (st : List Value) (M : xM) (Q : Option Value → xM → Prop), xW xSC 12 42 [.ref a0, .ref a1, .ref a2, .int a3, .int a4] (st) M Q = xW xSC 12 43 [.ref a0, .ref a1, .ref a2, .int a3, .int a4] (.int a3 :: st) M Q) ∧
  (∀ (a0 : Nat) (a1 : Nat) (a2 : Nat) (a3 : Int32) (a4 : Int32) (st : List Value) (M : xM) (Q : Option Value → xM → Prop), xW xSC 12 43 [.ref a0, .ref a1, .ref a2, .int a3, .int a4] (st) M Q = xW xSC 12 44 [.ref a0, .ref a1, .ref a2, .int a3, .int a4] (.int (nI 3) :: st) M Q) ∧
  (∀ (a0 : Nat) (a1 : Nat) (a2 : Nat) (a3 : Int32) (a4 : Int32) (y0 : Int32) (y1 : Int32) (y3 : Int32) (y4 : Nat) (M : xM) (Q : Option Value → xM → Prop), xW xSC 12 44 [.ref a0, .ref a1, .ref a2, .int a3, .int a4] (.int y0 :: .int y1 :: .ref 9 :: .int y3 :: .ref y4 :: []) M Q = xW xSC 28 0 [.ref 9, .int y1, .int y0] [] M (fun v M' => xW xSC 12 47 [.ref a0, .ref a1, .ref a2, .int a3, .int a4] (xpush v [.int y3, .ref y4]) M' Q)) ∧
  (∀ (a0 : Nat) (a1 : Nat) (a2 : Nat) (a3 : Int32) (a4 : Int32) (y0 : Int32) (y1 : Int32) (y2 : Nat) (M : xM) (Q : Option Value → xM → Prop), xW xSC 12 47 [.ref a0, .ref a1, .ref a2, .int a3, .int a4] (.int y0 :: .int y1 :: .ref y2 :: []) M Q = xW xSC 1 0 [.ref y2, .int y1, .int y0] [] M (fun v M' => xW xSC 12 50 [.ref a0, .ref a1, .ref a2, .int a3, .int a4] (xpush v []) M' Q)) ∧
  (∀ (a0 : Nat) (a1 : Nat) (a2 : Nat) (a3 : Int32) (a4 : Int32) (st : List Value) (M : xM) (Q : Option Value → xM → Prop), xW xSC 12 50 [.ref a0, .ref a1, .ref a2, .int a3, .int a4] (st) M Q = xW xSC 12 51 [.ref a0, .ref a1, .ref a2, .int a3, .int a4] (.ref a0 :: st) M Q) ∧
  (∀ (a0 : Nat) (a1 : Nat) (a2 : Nat) (a3 : Int32) (a4 : Int32) (st : List Value) (M : xM) (Q : Option Value → xM → Prop), xW xSC 12 51 [.ref a0, .ref a1, .ref a2, .int a3, .int a4] (.ref 41 :: st) M Q = xW xSC 12 54 [.ref a0, .ref a1, .ref a2, .int a3, .int a4] (.ref 44 :: st) M Q) ∧
  (∀ (a0 : Nat) (a1 : Nat) (a2 : Nat) (a3 : Int32) (a4 : Int32) (st : List Value) (M : xM) (Q : Option Value → xM → Prop), xW xSC 12 54 [.ref a0, .ref a1, .ref a2, .int a3, .int a4] (st) M Q = xW xSC 12 55 [.ref a0, .ref a1, .ref a2, .int a3, .int a4] (.ref a0 :: st) M Q) ∧
  (∀ (a0 : Nat) (a1 : Nat) (a2 : Nat) (a3 : Int32) (a4 : Int32) (st : List Value) (M : xM) (Q : Option Value → xM → Prop), xW xSC 12 55 [.ref a0, .ref a1, .ref a2, .int a3, .int a4] (.ref 41 :: st) M Q = xW xSC 12 58 [.ref a0, .ref a1, .ref a2, .int a3, .int a4] (.int (M 41 3) :: st) M Q) ∧
  (∀ (a0 : Nat) (a1 : Nat) (a2 : Nat) (a3 : Int32) (a4 : Int32) (st : List Value) (M : xM) (Q : Option Value → xM → Prop), xW xSC 12 58 [.ref a0, .ref a1, .ref a2, .int a3, .int a4] (st) M Q = xW xSC 12 59 [.ref a0, .ref a1, .ref a2, .int a3, .int a4] (.ref a1 :: st) M Q) ∧
  (∀ (a0 : Nat) (a1 : Nat) (a2 : Nat) (a3 : Int32) (a4 : Int32) (st : List Value) (M : xM) (Q : Option Value → xM → Prop), xW xSC 12 59 [.ref a0, .ref a1, .ref a2, .int a3, .int a4] (st) M Q = xW xSC 12 60 [.ref a0, .ref a1, .ref a2, .int a3, .int a4] (.int a3 :: st) M Q) ∧
  (∀ (a0 : Nat) (a1 : Nat) (a2 : Nat) (a3 : Int32) (a4 : Int32) (st : List Value) (M : xM) (Q : Option Value → xM → Prop), xW xSC 12 60 [.ref a0, .ref a1, .ref a2, .int a3, .int a4] (st) M Q = xW xSC 12 62 [.ref a0, .ref a1, .ref a2, .int a3, .int a4] (.int a4 :: st) M Q) ∧
  (∀ (a0 : Nat) (a1 : Nat) (a2 : Nat) (a3 : Int32) (a4 : Int32) (y0 : Int32) (y1 : Int32) (y3 : Int32) (y4 : Nat) (M : xM) (Q : Option Value → xM → Prop), xW xSC 12 62 [.ref a0, .ref a1, .ref a2, .int a3, .int a4] (.int y0 :: .int y1 :: .ref 9 :: .int y3 :: .ref y4 :: []) M Q = xW xSC 37 0 [.ref 9, .int y1, .int y0] [] M (fun v M' => xW xSC 12 65 [.ref a0, .ref a1, .ref a2, .int a3, .int a4] (xpush v [.int y3, .ref y4]) M' Q)) ∧
  (∀ (a0 : Nat) (a1 : Nat) (a2 : Nat) (a3 : Int32) (a4 : Int32) (y0 : Int32) (y1 : Int32) (y2 : Nat) (M : xM) (Q : Option Value → xM → Prop), xW xSC 12 65 [.ref a0, .ref a1, .ref a2, .int a3, .int a4] (.int y0 :: .int y1 :: .ref y2 :: []) M Q = xW xSC 1 0 [.ref y2, .int y1, .int y0] [] M (fun v M' => xW xSC 12 68 [.ref a0, .ref a1, .ref a2, .int a3, .int a4] (xpush v []) M' Q)) ∧
  (∀ (a0 : Nat) (a1 : Nat) (a2 : Nat) (a3 : Int32) (a4 : Int32) (st : List Value) (M : xM) (Q : Option Value → xM → Prop), xW xSC 12 68 [.ref a0, .ref a1, .ref a2, .int a3, .int a4] (st) M Q = xW xSC 12 69 [.ref a0, .ref a1, .ref a2, .int a3, .int a4] (.ref a0 :: st) M Q) ∧
  (∀ (a0 : Nat) (a1 : Nat) (a2 : Nat) (a3 : Int32) (a4 : Int32) (y0 : Nat) (st : List Value) (M : xM) (Q : Option Value → xM → Prop), xW xSC 12 69 [.ref a0, .ref a1, .ref a2, .int a3, .int a4] (.ref y0 :: st) M Q = xW xSC 12 70 [.ref a0, .ref a1, .ref a2, .int a3, .int a4] (.ref y0 :: .ref y0 :: st) M Q) ∧
  (∀ (a0 : Nat) (a1 : Nat) (a2 : Nat) (a3 : Int32) (a4 : Int32) (st : List Value) (M : xM) (Q : Option Value → xM → Prop), xW xSC 12 70 [.ref a0, .ref a1, .ref a2, .int a3, .int a4] (.ref 41 :: st) M Q = xW xSC 12 73 [.ref a0, .ref a1, .ref a2, .int a3, .int a4] (.int (M 41 3) :: st) M Q) ∧
  (∀ (a0 : Nat) (a1 : Nat) (a2 : Nat) (a3 : Int32) (a4 : Int32) (st : List Value) (M : xM) (Q : Option Value → xM → Prop), xW xSC 12 73 [.ref a0, .ref a1, .ref a2, .int a3, .int a4] (st) M Q = xW xSC 12 74 [.ref a0, .ref a1, .ref a2, .int a3, .int a4] (.int (nI 1) :: st) M Q) ∧
  (∀ (a0 : Nat) (a1 : Nat) (a2 : Nat) (a3 : Int32) (a4 : Int32) (y0 : Int32) (y1 : Int32) (st : List Value) (M : xM) (Q : Option Value → xM → Prop), xW xSC 12 74 [.ref a0, .ref a1, .ref a2, .int a3, .int a4] (.int y0 :: .int y1 :: st) M Q = xW xSC 12 75 [.ref a0, .ref a1, .ref a2, .int a3, .int a4] (.int (y1 + y0) :: st) M Q) ∧
  (∀ (a0 : Nat) (a1 : Nat) (a2 : Nat) (a3 : Int32) (a4 : Int32) (y0 : Int32) (st : List Value) (M : xM) (Q : Option Value → xM → Prop), xW xSC 12 75 [.ref a0, .ref a1, .ref a2, .int a3, .int a4] (.int y0 :: .ref 41 :: st) M Q = xW xSC 12 78 [.ref a0, .ref a1, .ref a2, .int a3, .int a4] (st) (xup M 41 3 y0) Q) ∧
  (∀ (a0 : Nat) (a1 : Nat) (a2 : Nat) (a3 : Int32) (a4 : Int32) (M : xM) (Q : Option Value → xM → Prop), xW xSC 12 78 [.ref a0, .ref a1, .ref a2, .int a3, .int a4] ([]) M Q = Q none M) :=
  ⟨fun a0 a1 a2 a3 a4 st M Q => xw_s rfl rfl,
  fun a0 a1 a2 a3 a4 y0 st M Q => xw_brn (c0 := nI 0 ≤ y0) (c1 := y0 < nI 0) rfl rfl (xge _ _),
  fun a0 a1 a2 a3 a4 M Q => xw_retv rfl rfl,
  fun a0 a1 a2 a3 a4 st M Q => xw_s rfl rfl,
  fun a0 a1 a2 a3 a4 st M Q => xw_s rfl rfl,
  fun a0 a1 a2 a3 a4 st M Q => xw_s rfl rfl,
  fun a0 a1 a2 a3 a4 st M Q => xw_s rfl rfl,
  fun a0 a1 a2 a3 a4 st M Q => xw_s rfl rfl,
  fun a0 a1 a2 a3 a4 st M Q => xw_s rfl rfl,
  fun a0 a1 a2 a3 a4 st M Q => xw_s rfl rfl,
  fun a0 a1 a2 a3 a4 st M Q => xw_s rfl rfl,
  fun a0 a1 a2 a3 a4 y0 y1 y2 y4 y5 M Q => xw_call rfl rfl rfl,
  fun a0 a1 a2 a3 a4 y0 st M Q => xw_br (c0 := y0 = nI 0) rfl rfl,
  fun a0 a1 a2 a3 a4 st M Q => xw_s rfl rfl,
  fun a0 a1 a2 a3 a4 st M Q => xw_s rfl rfl,
  fun a0 a1 a2 a3 a4 st M Q => xw_s rfl rfl,
  fun a0 a1 a2 a3 a4 st M Q => xw_s rfl rfl,
  fun a0 a1 a2 a3 a4 st M Q => xw_s rfl rfl,
  fun a0 a1 a2 a3 a4 st M Q => xw_s rfl rfl,
  fun a0 a1 a2 a3 a4 st M Q => xw_s rfl rfl,
  fun a0 a1 a2 a3 a4 st M Q => xw_s rfl rfl,
  fun a0 a1 a2 a3 a4 st M Q => xw_s rfl rfl,
  fun a0 a1 a2 a3 a4 st M Q => xw_s rfl rfl,
  fun a0 a1 a2 a3 a4 y0 y1 y3 y4 M Q => xw_call rfl rfl rfl,
  fun a0 a1 a2 a3 a4 y0 y1 y2 M Q => xw_call rfl rfl rfl,
  fun a0 a1 a2 a3 a4 st M Q => xw_s rfl rfl,
  fun a0 a1 a2 a3 a4 st M Q => xw_s rfl rfl,
  fun a0 a1 a2 a3 a4 st M Q => xw_s rfl rfl,
  fun a0 a1 a2 a3 a4 st M Q => xw_s rfl rfl,
  fun a0 a1 a2 a3 a4 st M Q => xw_s rfl rfl,
  fun a0 a1 a2 a3 a4 st M Q => xw_s rfl rfl,
  fun a0 a1 a2 a3 a4 st M Q => xw_s rfl rfl,
  fun a0 a1 a2 a3 a4 y0 y1 y3 y4 M Q => xw_call rfl rfl rfl,
  fun a0 a1 a2 a3 a4 y0 y1 y2 M Q => xw_call rfl rfl rfl,
  fun a0 a1 a2 a3 a4 st M Q => xw_s rfl rfl,
  fun a0 a1 a2 a3 a4 y0 st M Q => xw_s rfl rfl,
  fun a0 a1 a2 a3 a4 st M Q => xw_s rfl rfl,
  fun a0 a1 a2 a3 a4 st M Q => xw_s rfl rfl,
  fun a0 a1 a2 a3 a4 y0 y1 st M Q => xw_s rfl rfl,
  fun a0 a1 a2 a3 a4 y0 st M Q => xw_s rfl rfl,
  fun a0 a1 a2 a3 a4 M Q => xw_retv rfl rfl⟩
set_option maxRecDepth 20000 in
theorem h12_30 :
  (∀ (a0 : Nat) (a1 : Nat) (a2 : Nat) (a3 : Int32) (a4 : Int32) (y0 : Int32) (y1 : Int32) (y2 : Nat) (M : xM) (Q : Option Value → xM → Prop), xW xSC 12 30 [.ref a0, .ref a1, .ref a2, .int a3, .int a4] (.int y0 :: .int y1 :: .ref y2 :: []) M Q = xW xSC 1 0 [.ref y2, .int y1, .int y0] [] M (fun v M' => xW xSC 12 33 [.ref a0, .ref a1, .ref a2, .int a3, .int a4] (xpush v []) M' Q)) :=
  fun a0 a1 a2 a3 a4 y0 y1 y2 M Q => xw_call rfl rfl rfl
set_option maxRecDepth 20000 in
theorem j12 :
  (∀ (a0 : Nat) (a1 : Nat) (a2 : Nat) (a3 : Int32) (a4 : Int32) (y0 : Int32) (y1 : Int32) (y2 : Nat) (M : xM) (Q : Option Value → xM → Prop), xW xSC 12 30 [.ref a0, .ref a1, .ref a2, .int a3, .int a4] (.int y0 :: .int y1 :: .ref y2 :: []) M Q = xW xSC 1 0 [.ref y2, .int y1, .int y0] [] M (fun v M' => xW xSC 12 33 [.ref a0, .ref a1, .ref a2, .int a3, .int a4] (xpush v []) M' Q)) :=
  fun a0 a1 a2 a3 a4 y0 y1 y2 M Q => xw_call rfl rfl rfl

set_option maxRecDepth 20000 in
theorem s13 :
  (∀ (a0 : Nat) (a1 : Int32) (a2 : Value) (a3 : Value) (a4 : Value) (st : List Value) (M : xM) (Q : Option Value → xM → Prop), xW xSC 13 0 [.ref a0, .int a1, a2, a3, a4] (st) M Q = xW xSC 13 1 [.ref a0, .int a1, a2, a3, a4] (.int (nI 1) :: st) M Q) ∧
  (∀ (a0 : Nat) (a1 : Int32) (a2 : Value) (a3 : Value) (a4 : Value) (y0 : Int32) (st : List Value) (M : xM) (Q : Option Value → xM → Prop), xW xSC 13 1 [.ref a0, .int a1, a2, a3, a4] (.int y0 :: st) M Q = xW xSC 13 2 [.ref a0, .int a1, .int y0, a3, a4] (st) M Q) ∧
  (∀ (a0 : Nat) (a1 : Int32) (a2 : Int32) (a3 : Value) (a4 : Value) (st : List Value) (M : xM) (Q : Option Value → xM → Prop), xW xSC 13 3 [.ref a0, .int a1, .int a2, a3, a4] (st) M Q = xW xSC 13 5 [.ref a0, .int a1, .int a2, a3, a4] (.int (nI 102) :: st) M Q) ∧
  (∀ (a0 : Nat) (a1 : Int32) (a2 : Int32) (a3 : Value) (a4 : Value) (y0 : Int32) (y1 : Int32) (st : List Value) (M : xM) (Q : Option Value → xM → Prop), xW xSC 13 5 [.ref a0, .int a1, .int a2, a3, a4] (.int y0 :: .int y1 :: st) M Q = if y0 < y1 then xW xSC 13 51 [.ref a0, .int a1, .int a2, a3, a4] (st) M Q else xW xSC 13 8 [.ref a0, .int a1, .int a2, a3, a4] (st) M Q) ∧
  (∀ (a0 : Nat) (a1 : Int32) (a2 : Int32) (a3 : Value) (a4 : Value) (st : List Value) (M : xM) (Q : Option Value → xM → Prop), xW xSC 13 8 [.ref a0, .int a1, .int a2, a3, a4] (st) M Q = xW xSC 13 9 [.ref a0, .int a1, .int a2, a3, a4] (.int (nI 0) :: st) M Q) ∧
  (∀ (a0 : Nat) (a1 : Int32) (a2 : Int32) (a3 : Value) (a4 : Value) (y0 : Int32) (st : List Value) (M : xM) (Q : Option Value → xM → Prop), xW xSC 13 9 [.ref a0, .int a1, .int a2, a3, a4] (.int y0 :: st) M Q = xW xSC 13 10 [.ref a0, .int a1, .int a2, .int y0, a4] (st) M Q) ∧
  (∀ (a0 : Nat) (a1 : Int32) (a2 : Int32) (a3 : Int32) (a4 : Value) (st : List Value) (M : xM) (Q : Option Value → xM → Prop), xW xSC 13 10 [.ref a0, .int a1, .int a2, .int a3, a4] (st) M Q = xW xSC 13 11 [.ref a0, .int a1, .int a2, .int a3, a4] (.int (nI 0) :: st) M Q) ∧
  (∀ (a0 : Nat) (a1 : Int32) (a2 : Int32) (a3 : Int32) (a4 : Value) (y0 : Int32) (st : List Value) (M : xM) (Q : Option Value → xM → Prop), xW xSC 13 11 [.ref a0, .int a1, .int a2, .int a3, a4] (.int y0 :: st) M Q = xW xSC 13 13 [.ref a0, .int a1, .int a2, .int a3, .int y0] (st) M Q) ∧
  (∀ (a0 : Nat) (a1 : Int32) (a2 : Int32) (a3 : Int32) (a4 : Int32) (st : List Value) (M : xM) (Q : Option Value → xM → Prop), xW xSC 13 15 [.ref a0, .int a1, .int a2, .int a3, .int a4] (st) M Q = xW xSC 13 16 [.ref a0, .int a1, .int a2, .int a3, .int a4] (.ref a0 :: st) M Q) ∧
  (∀ (a0 : Nat) (a1 : Int32) (a2 : Int32) (a3 : Int32) (a4 : Int32) (st : List Value) (M : xM) (Q : Option Value → xM → Prop), xW xSC 13 16 [.ref a0, .int a1, .int a2, .int a3, .int a4] (.ref 41 :: st) M Q = xW xSC 13 19 [.ref a0, .int a1, .int a2, .int a3, .int a4] (.int (M 41 3) :: st) M Q) ∧
  (∀ (a0 : Nat) (a1 : Int32) (a2 : Int32) (a3 : Int32) (a4 : Int32) (y0 : Int32) (y1 : Int32) (st : List Value) (M : xM) (Q : Option Value → xM → Prop), xW xSC 13 19 [.ref a0, .int a1, .int a2, .int a3, .int a4] (.int y0 :: .int y1 :: st) M Q = if y1 < y0 then xW xSC 13 22 [.ref a0, .int a1, .int a2, .int a3, .int a4] (st) M Q else xW xSC 13 38 [.ref a0, .int a1, .int a2, .int a3, .int a4] (st) M Q) ∧
  (∀ (a0 : Nat) (a1 : Int32) (a2 : Int32) (a3 : Int32) (a4 : Int32) (st : List Value) (M : xM) (Q : Option Value → xM → Prop), xW xSC 13 22 [.ref a0, .int a1, .int a2, .int a3, .int a4] (st) M Q = xW xSC 13 23 [.ref a0, .int a1, .int a2, .int a3, .int a4] (.int a3 :: st) M Q) ∧
  (∀ (a0 : Nat) (a1 : Int32) (a2 : Int32) (a3 : Int32) (a4 : Int32) (st : List Value) (M : xM) (Q : Option Value → xM → Prop), xW xSC 13 23 [.ref a0, .int a1, .int a2, .int a3, .int a4] (st) M Q = xW xSC 13 24 [.ref a0, .int a1, .int a2, .int a3, .int a4] (.ref a0 :: st) M Q) ∧
  (∀ (a0 : Nat) (a1 : Int32) (a2 : Int32) (a3 : Int32) (a4 : Int32) (st : List Value) (M : xM) (Q : Option Value → xM → Prop), xW xSC 13 24 [.ref a0, .int a1, .int a2, .int a3, .int a4] (st) M Q = xW xSC 13 26 [.ref a0, .int a1, .int a2, .int a3, .int a4] (.int a4 :: st) M Q) ∧
  (∀ (a0 : Nat) (a1 : Int32) (a2 : Int32) (a3 : Int32) (a4 : Int32) (st : List Value) (M : xM) (Q : Option Value → xM → Prop), xW xSC 13 26 [.ref a0, .int a1, .int a2, .int a3, .int a4] (st) M Q = xW xSC 13 27 [.ref a0, .int a1, .int a2, .int a3, .int a4] (.int a2 :: st) M Q) ∧
  (∀ (a0 : Nat) (a1 : Int32) (a2 : Int32) (a3 : Int32) (a4 : Int32) (y0 : Int32) (y1 : Int32) (y3 : Int32) (M : xM) (Q : Option Value → xM → Prop), xW xSC 13 27 [.ref a0, .int a1, .int a2, .int a3, .int a4] (.int y0 :: .int y1 :: .ref 41 :: .int y3 :: []) M Q = xW xSC 14 0 [.ref 41, .int y1, .int y0, .null] [] M (fun v M' => xW xSC 13 30 [.ref a0, .int a1, .int a2, .int a3, .int a4] (xpush v [.int y3]) M' Q)) ∧
  (∀ (a0 : Nat) (a1 : Int32) (a2 : Int32) (a3 : Int32) (a4 : Int32) (y0 : Int32) (y1 : Int32) (st : List Value) (M : xM) (Q : Option Value → xM → Prop), xW xSC 13 30 [.ref a0, .int a1, .int a2, .int a3, .int a4] (.int y0 :: .int y1 :: st) M Q = xW xSC 13 31 [.ref a0, .int a1, .int a2, .int a3, .int a4] (.int (y1 + y0) :: st) M Q) ∧
  (∀ (a0 : Nat) (a1 : Int32) (a2 : Int32) (a3 : Int32) (a4 : Int32) (y0 : Int32) (st : List Value) (M : xM) (Q : Option Value → xM → Prop), xW xSC 13 31 [.ref a0, .int a1, .int a2, .int a3, .int a4] (.int y0 :: st) M Q = xW xSC 13 32 [.ref a0, .int a1, .int a2, .int y0, .int a4] (st) M Q) ∧
  (∀ (a0 : Nat) (a1 : Int32) (a2 : Int32) (a3 : Int32) (a4 : Int32) (st : List Value) (M : xM) (Q : Option Value → xM → Prop), xW xSC 13 32 [.ref a0, .int a1, .int a2, .int a3, .int a4] (st) M Q = xW xSC 13 35 [.ref a0, .int a1, .int a2, .int a3, .int (a4 + nI 1)] (st) M Q) ∧
  (∀ (a0 : Nat) (a1 : Int32) (a2 : Int32) (a3 : Int32) (a4 : Int32) (st : List Value) (M : xM) (Q : Option Value → xM → Prop), xW xSC 13 35 [.ref a0, .int a1, .int a2, .int a3, .int a4] (st) M Q = xW xSC 13 13 [.ref a0, .int a1, .int a2, .int a3, .int a4] (st) M Q) ∧
  (∀ (a0 : Nat) (a1 : Int32) (a2 : Int32) (a3 : Int32) (a4 : Int32) (st : List Value) (M : xM) (Q : Option Value → xM → Prop), xW xSC 13 38 [.ref a0, .int a1, .int a2, .int a3, .int a4] (st) M Q = xW xSC 13 39 [.ref a0, .int a1, .int a2, .int a3, .int a4] (.int a3 :: st) M Q) ∧
  (∀ (a0 : Nat) (a1 : Int32) (a2 : Int32) (a3 : Int32) (a4 : Int32) (st : List Value) (M : xM) (Q : Option Value → xM → Prop), xW xSC 13 39 [.ref a0, .int a1, .int a2, .int a3, .int a4] (st) M Q = xW xSC 13 40 [.ref a0, .int a1, .int a2, .int a3, .int a4] (.int a1 :: st) M Q) ∧
  (∀ (a0 : Nat) (a1 : Int32) (a2 : Int32) (a3 : Int32) (a4 : Int32) (y0 : Int32) (y1 : Int32) (st : List Value) (M : xM) (Q : Option Value → xM → Prop), xW xSC 13 40 [.ref a0, .int a1, .int a2, .int a3, .int a4] (.int y0 :: .int y1 :: st) M Q = if y1 < y0 then xW xSC 13 45 [.ref a0, .int a1, .int a2, .int a3, .int a4] (st) M Q else xW xSC 13 43 [.ref a0, .int a1, .int a2, .int a3, .int a4] (st) M Q) ∧
  (∀ (a0 : Nat) (a1 : Int32) (a2 : Int32) (a3 : Int32) (a4 : Int32) (st : List Value) (M : xM) (Q : Option Value → xM → Prop), xW xSC 13 43 [.ref a0, .int a1, .int a2, .int a3, .int a4] (st) M Q = xW xSC 13 44 [.ref a0, .int a1, .int a2, .int a3, .int a4] (.int a2 :: st) M Q) ∧
  (∀ (a0 : Nat) (a1 : Int32) (a2 : Int32) (a3 : Int32) (a4 : Int32) (y0 : Int32) (M : xM) (Q : Option Value → xM → Prop), xW xSC 13 44 [.ref a0, .int a1, .int a2, .int a3, .int a4] ([.int y0]) M Q = Q (some (.int y0)) M) ∧
  (∀ (a0 : Nat) (a1 : Int32) (a2 : Int32) (a3 : Int32) (a4 : Int32) (st : List Value) (M : xM) (Q : Option Value → xM → Prop), xW xSC 13 45 [.ref a0, .int a1, .int a2, .int a3, .int a4] (st) M Q = xW xSC 13 48 [.ref a0, .int a1, .int (a2 + nI 1), .int a3, .int a4] (st) M Q) ∧
  (∀ (a0 : Nat) (a1 : Int32) (a2 : Int32) (a3 : Int32) (a4 : Int32) (st : List Value) (M : xM) (Q : Option Value → xM → Prop), xW xSC 13 48 [.ref a0, .int a1, .int a2, .int a3, .int a4] (st) M Q = xW xSC 13 2 [.ref a0, .int a1, .int a2, .int a3, .int a4] (st) M Q) ∧
  (∀ (a0 : Nat) (a1 : Int32) (a2 : Int32) (a3 : Value) (a4 : Value) (st : List Value) (M : xM) (Q : Option Value → xM → Prop), xW xSC 13 51 [.ref a0, .int a1, .int a2, a3, a4] (st) M Q = xW xSC 13 53 [.ref a0, .int a1, .int a2, a3, a4] (.int (-4) :: st) M Q) ∧
  (∀ (a0 : Nat) (a1 : Int32) (a2 : Int32) (a3 : Value) (a4 : Value) (y0 : Int32) (M : xM) (Q : Option Value → xM → Prop), xW xSC 13 53 [.ref a0, .int a1, .int a2, a3, a4] ([.int y0]) M Q = Q (some (.int y0)) M) :=
  ⟨fun a0 a1 a2 a3 a4 st M Q => xw_s rfl rfl,
  fun a0 a1 a2 a3 a4 y0 st M Q => xw_s rfl rfl,
  fun a0 a1 a2 a3 a4 st M Q => xw_s rfl rfl,
  fun a0 a1 a2 a3 a4 y0 y1 st M Q => xw_br (c0 := y0 < y1) rfl rfl,
  fun a0 a1 a2 a3 a4 st M Q => xw_s rfl rfl,
  fun a0 a1 a2 a3 a4 y0 st M Q => xw_s rfl rfl,
  fun a0 a1 a2 a3 a4 st M Q => xw_s rfl rfl,
  fun a0 a1 a2 a3 a4 y0 st M Q => xw_s rfl rfl,
  fun a0 a1 a2 a3 a4 st M Q => xw_s rfl rfl,
  fun a0 a1 a2 a3 a4 st M Q => xw_s rfl rfl,
  fun a0 a1 a2 a3 a4 y0 y1 st M Q => xw_brn (c0 := y0 ≤ y1) (c1 := y1 < y0) rfl rfl (xge _ _),
  fun a0 a1 a2 a3 a4 st M Q => xw_s rfl rfl,
  fun a0 a1 a2 a3 a4 st M Q => xw_s rfl rfl,
  fun a0 a1 a2 a3 a4 st M Q => xw_s rfl rfl,
  fun a0 a1 a2 a3 a4 st M Q => xw_s rfl rfl,
  fun a0 a1 a2 a3 a4 y0 y1 y3 M Q => xw_call rfl rfl rfl,
  fun a0 a1 a2 a3 a4 y0 y1 st M Q => xw_s rfl rfl,
  fun a0 a1 a2 a3 a4 y0 st M Q => xw_s rfl rfl,
  fun a0 a1 a2 a3 a4 st M Q => xw_s rfl rfl,
  fun a0 a1 a2 a3 a4 st M Q => xw_s rfl rfl,
  fun a0 a1 a2 a3 a4 st M Q => xw_s rfl rfl,
  fun a0 a1 a2 a3 a4 st M Q => xw_s rfl rfl,
  fun a0 a1 a2 a3 a4 y0 y1 st M Q => xw_br (c0 := y1 < y0) rfl rfl,
  fun a0 a1 a2 a3 a4 st M Q => xw_s rfl rfl,
  fun a0 a1 a2 a3 a4 y0 M Q => xw_ret rfl rfl,
  fun a0 a1 a2 a3 a4 st M Q => xw_s rfl rfl,
  fun a0 a1 a2 a3 a4 st M Q => xw_s rfl rfl,
  fun a0 a1 a2 a3 a4 st M Q => xw_s rfl rfl,
  fun a0 a1 a2 a3 a4 y0 M Q => xw_ret rfl rfl⟩
set_option maxRecDepth 20000 in
theorem h13_2 :
  (∀ (a0 : Nat) (a1 : Int32) (a2 : Int32) (a3 : Value) (a4 : Value) (st : List Value) (M : xM) (Q : Option Value → xM → Prop), xW xSC 13 2 [.ref a0, .int a1, .int a2, a3, a4] (st) M Q = xW xSC 13 3 [.ref a0, .int a1, .int a2, a3, a4] (.int a2 :: st) M Q) :=
  fun a0 a1 a2 a3 a4 st M Q => xw_s rfl rfl
set_option maxRecDepth 20000 in
theorem h13_13 :
  (∀ (a0 : Nat) (a1 : Int32) (a2 : Int32) (a3 : Int32) (a4 : Int32) (st : List Value) (M : xM) (Q : Option Value → xM → Prop), xW xSC 13 13 [.ref a0, .int a1, .int a2, .int a3, .int a4] (st) M Q = xW xSC 13 15 [.ref a0, .int a1, .int a2, .int a3, .int a4] (.int a4 :: st) M Q) :=
  fun a0 a1 a2 a3 a4 st M Q => xw_s rfl rfl
theorem j13 : True := trivial

set_option maxRecDepth 20000 in
theorem s14 :
  (∀ (a0 : Nat) (a1 : Int32) (a2 : Int32) (a3 : Value) (st : List Value) (M : xM) (Q : Option Value → xM → Prop), xW xSC 14 0 [.ref a0, .int a1, .int a2, a3] (st) M Q = xW xSC 14 1 [.ref a0, .int a1, .int a2, a3] (.int a2 :: st) M Q) ∧
  (∀ (a0 : Nat) (a1 : Int32) (a2 : Int32) (a3 : Value) (st : List Value) (M : xM) (Q : Option Value → xM → Prop), xW xSC 14 1 [.ref a0, .int a1, .int a2, a3] (st) M Q = xW xSC 14 2 [.ref a0, .int a1, .int a2, a3] (.ref a0 :: st) M Q) ∧
  (∀ (a0 : Nat) (a1 : Int32) (a2 : Int32) (a3 : Value) (st : List Value) (M : xM) (Q : Option Value → xM → Prop), xW xSC 14 2 [.ref a0, .int a1, .int a2, a3] (.ref 41 :: st) M Q = xW xSC 14 5 [.ref a0, .int a1, .int a2, a3] (.ref 42 :: st) M Q) ∧
  (∀ (a0 : Nat) (a1 : Int32) (a2 : Int32) (a3 : Value) (st : List Value) (M : xM) (Q : Option Value → xM → Prop), xW xSC 14 5 [.ref a0, .int a1, .int a2, a3] (st) M Q = xW xSC 14 6 [.ref a0, .int a1, .int a2, a3] (.int a1 :: st) M Q) ∧
  (∀ (a0 : Nat) (a1 : Int32) (a2 : Int32) (a3 : Value) (y0 : Int32) (y1 : Nat) (y2 : Int32) (M : xM) (Q : Option Value → xM → Prop), xW xSC 14 6 [.ref a0, .int a1, .int a2, a3] (.int y0 :: .ref y1 :: .int y2 :: []) M Q = xW xSC 0 0 [.ref y1, .int y0] [] M (fun v M' => xW xSC 14 9 [.ref a0, .int a1, .int a2, a3] (xpush v [.int y2]) M' Q)) ∧
  (∀ (a0 : Nat) (a1 : Int32) (a2 : Int32) (a3 : Value) (y0 : Int32) (y1 : Int32) (st : List Value) (M : xM) (Q : Option Value → xM → Prop), xW xSC 14 9 [.ref a0, .int a1, .int a2, a3] (.int y0 :: .int y1 :: st) M Q = xW xSC 14 10 [.ref a0, .int a1, .int a2, a3] (.int (y1 - y0) :: st) M Q) ∧
  (∀ (a0 : Nat) (a1 : Int32) (a2 : Int32) (a3 : Value) (st : List Value) (M : xM) (Q : Option Value → xM → Prop), xW xSC 14 10 [.ref a0, .int a1, .int a2, a3] (st) M Q = xW xSC 14 11 [.ref a0, .int a1, .int a2, a3] (.int (nI 1) :: st) M Q) ∧
  (∀ (a0 : Nat) (a1 : Int32) (a2 : Int32) (a3 : Value) (y0 : Int32) (y1 : Int32) (st : List Value) (M : xM) (Q : Option Value → xM → Prop), xW xSC 14 11 [.ref a0, .int a1, .int a2, a3] (.int y0 :: .int y1 :: st) M Q = xW xSC 14 12 [.ref a0, .int a1, .int a2, a3] (.int (y1 + y0) :: st) M Q) ∧
  (∀ (a0 : Nat) (a1 : Int32) (a2 : Int32) (a3 : Value) (st : List Value) (M : xM) (Q : Option Value → xM → Prop), xW xSC 14 12 [.ref a0, .int a1, .int a2, a3] (st) M Q = xW xSC 14 13 [.ref a0, .int a1, .int a2, a3] (.int (nI 0) :: st) M Q) ∧
  (∀ (a0 : Nat) (a1 : Int32) (a2 : Int32) (a3 : Value) (y0 : Int32) (y1 : Int32) (M : xM) (Q : Option Value → xM → Prop), xW xSC 14 13 [.ref a0, .int a1, .int a2, a3] (.int y0 :: .int y1 :: []) M Q = xW xSC 14 16 [.ref a0, .int a1, .int a2, a3] (.int (xmax y1 y0) :: []) M Q) ∧
  (∀ (a0 : Nat) (a1 : Int32) (a2 : Int32) (a3 : Value) (y0 : Int32) (st : List Value) (M : xM) (Q : Option Value → xM → Prop), xW xSC 14 16 [.ref a0, .int a1, .int a2, a3] (.int y0 :: st) M Q = xW xSC 14 17 [.ref a0, .int a1, .int a2, .int y0] (st) M Q) ∧
  (∀ (a0 : Nat) (a1 : Int32) (a2 : Int32) (a3 : Int32) (st : List Value) (M : xM) (Q : Option Value → xM → Prop), xW xSC 14 17 [.ref a0, .int a1, .int a2, .int a3] (st) M Q = xW xSC 14 18 [.ref a0, .int a1, .int a2, .int a3] (.int a3 :: st) M Q) ∧
  (∀ (a0 : Nat) (a1 : Int32) (a2 : Int32) (a3 : Int32) (st : List Value) (M : xM) (Q : Option Value → xM → Prop), xW xSC 14 18 [.ref a0, .int a1, .int a2, .int a3] (st) M Q = xW xSC 14 20 [.ref a0, .int a1, .int a2, .int a3] (.int (nI 10) :: st) M Q) ∧
  (∀ (a0 : Nat) (a1 : Int32) (a2 : Int32) (a3 : Int32) (y0 : Int32) (y1 : Int32) (st : List Value) (M : xM) (Q : Option Value → xM → Prop), xW xSC 14 20 [.ref a0, .int a1, .int a2, .int a3] (.int y0 :: .int y1 :: st) M Q = if y0 < y1 then xW xSC 14 23 [.ref a0, .int a1, .int a2, .int a3] (st) M Q else xW xSC 14 42 [.ref a0, .int a1, .int a2, .int a3] (st) M Q) ∧
  (∀ (a0 : Nat) (a1 : Int32) (a2 : Int32) (a3 : Int32) (st : List Value) (M : xM) (Q : Option Value → xM → Prop), xW xSC 14 23 [.ref a0, .int a1, .int a2, .int a3] (st) M Q = xW xSC 14 24 [.ref a0, .int a1, .int a2, .int a3] (.ref a0 :: st) M Q) ∧
  (∀ (a0 : Nat) (a1 : Int32) (a2 : Int32) (a3 : Int32) (st : List Value) (M : xM) (Q : Option Value → xM → Prop), xW xSC 14 24 [.ref a0, .int a1, .int a2, .int a3] (.ref 41 :: st) M Q = xW xSC 14 27 [.ref a0, .int a1, .int a2, .int a3] (.ref 43 :: st) M Q) ∧
  (∀ (a0 : Nat) (a1 : Int32) (a2 : Int32) (a3 : Int32) (st : List Value) (M : xM) (Q : Option Value → xM → Prop), xW xSC 14 27 [.ref a0, .int a1, .int a2, .int a3] (st) M Q = xW xSC 14 28 [.ref a0, .int a1, .int a2, .int a3] (.int a1 :: st) M Q) ∧
  (∀ (a0 : Nat) (a1 : Int32) (a2 : Int32) (a3 : Int32) (y0 : Int32) (y1 : Nat) (M : xM) (Q : Option Value → xM → Prop), xW xSC 14 28 [.ref a0, .int a1, .int a2, .int a3] (.int y0 :: .ref y1 :: []) M Q = xW xSC 0 0 [.ref y1, .int y0] [] M (fun v M' => xW xSC 14 31 [.ref a0, .int a1, .int a2, .int a3] (xpush v []) M' Q)) ∧
  (∀ (a0 : Nat) (a1 : Int32) (a2 : Int32) (a3 : Int32) (st : List Value) (M : xM) (Q : Option Value → xM → Prop), xW xSC 14 31 [.ref a0, .int a1, .int a2, .int a3] (st) M Q = xW xSC 14 32 [.ref a0, .int a1, .int a2, .int a3] (.int (nI 2) :: st) M Q) ∧
  (∀ (a0 : Nat) (a1 : Int32) (a2 : Int32) (a3 : Int32) (y0 : Int32) (y1 : Int32) (st : List Value) (M : xM) (Q : Option Value → xM → Prop), xW xSC 14 32 [.ref a0, .int a1, .int a2, .int a3] (.int y0 :: .int y1 :: st) M Q = if y1 = y0 then xW xSC 14 35 [.ref a0, .int a1, .int a2, .int a3] (st) M Q else xW xSC 14 42 [.ref a0, .int a1, .int a2, .int a3] (st) M Q) ∧
  (∀ (a0 : Nat) (a1 : Int32) (a2 : Int32) (a3 : Int32) (st : List Value) (M : xM) (Q : Option Value → xM → Prop), xW xSC 14 35 [.ref a0, .int a1, .int a2, .int a3] (st) M Q = xW xSC 14 36 [.ref a0, .int a1, .int a2, .int a3] (.int a3 :: st) M Q) ∧
  (∀ (a0 : Nat) (a1 : Int32) (a2 : Int32) (a3 : Int32) (st : List Value) (M : xM) (Q : Option Value → xM → Prop), xW xSC 14 36 [.ref a0, .int a1, .int a2, .int a3] (st) M Q = xW xSC 14 37 [.ref a0, .int a1, .int a2, .int a3] (.int a3 :: st) M Q) ∧
  (∀ (a0 : Nat) (a1 : Int32) (a2 : Int32) (a3 : Int32) (st : List Value) (M : xM) (Q : Option Value → xM → Prop), xW xSC 14 37 [.ref a0, .int a1, .int a2, .int a3] (st) M Q = xW xSC 14 39 [.ref a0, .int a1, .int a2, .int a3] (.int (nI 10) :: st) M Q) ∧
  (∀ (a0 : Nat) (a1 : Int32) (a2 : Int32) (a3 : Int32) (y0 : Int32) (y1 : Int32) (st : List Value) (M : xM) (Q : Option Value → xM → Prop), xW xSC 14 39 [.ref a0, .int a1, .int a2, .int a3] (.int y0 :: .int y1 :: st) M Q = xW xSC 14 40 [.ref a0, .int a1, .int a2, .int a3] (.int (y1 - y0) :: st) M Q) ∧
  (∀ (a0 : Nat) (a1 : Int32) (a2 : Int32) (a3 : Int32) (y0 : Int32) (y1 : Int32) (st : List Value) (M : xM) (Q : Option Value → xM → Prop), xW xSC 14 40 [.ref a0, .int a1, .int a2, .int a3] (.int y0 :: .int y1 :: st) M Q = xW xSC 14 41 [.ref a0, .int a1, .int a2, .int a3] (.int (y1 + y0) :: st) M Q) ∧
  (∀ (a0 : Nat) (a1 : Int32) (a2 : Int32) (a3 : Int32) (y0 : Int32) (st : List Value) (M : xM) (Q : Option Value → xM → Prop), xW xSC 14 41 [.ref a0, .int a1, .int a2, .int a3] (.int y0 :: st) M Q = xW xSC 14 42 [.ref a0, .int a1, .int a2, .int y0] (st) M Q) ∧
  (∀ (a0 : Nat) (a1 : Int32) (a2 : Int32) (a3 : Int32) (st : List Value) (M : xM) (Q : Option Value → xM → Prop), xW xSC 14 43 [.ref a0, .int a1, .int a2, .int a3] (.ref 41 :: st) M Q = xW xSC 14 46 [.ref a0, .int a1, .int a2, .int a3] (.ref 44 :: st) M Q) ∧
  (∀ (a0 : Nat) (a1 : Int32) (a2 : Int32) (a3 : Int32) (st : List Value) (M : xM) (Q : Option Value → xM → Prop), xW xSC 14 46 [.ref a0, .int a1, .int a2, .int a3] (st) M Q = xW xSC 14 47 [.ref a0, .int a1, .int a2, .int a3] (.int a1 :: st) M Q) ∧
  (∀ (a0 : Nat) (a1 : Int32) (a2 : Int32) (a3 : Int32) (y0 : Int32) (y1 : Nat) (M : xM) (Q : Option Value → xM → Prop), xW xSC 14 47 [.ref a0, .int a1, .int a2, .int a3] (.int y0 :: .ref y1 :: []) M Q = xW xSC 0 0 [.ref y1, .int y0] [] M (fun v M' => xW xSC 14 50 [.ref a0, .int a1, .int a2, .int a3] (xpush v []) M' Q)) ∧
  (∀ (a0 : Nat) (a1 : Int32) (a2 : Int32) (a3 : Int32) (st : List Value) (M : xM) (Q : Option Value → xM → Prop), xW xSC 14 50 [.ref a0, .int a1, .int a2, .int a3] (st) M Q = xW xSC 14 51 [.ref a0, .int a1, .int a2, .int a3] (.int (nI 1) :: st) M Q) ∧
  (∀ (a0 : Nat) (a1 : Int32) (a2 : Int32) (a3 : Int32) (y0 : Int32) (y1 : Int32) (st : List Value) (M : xM) (Q : Option Value → xM → Prop), xW xSC 14 51 [.ref a0, .int a1, .int a2, .int a3] (.int y0 :: .int y1 :: st) M Q = if y1 = y0 then xW xSC 14 54 [.ref a0, .int a1, .int a2, .int a3] (st) M Q else xW xSC 14 62 [.ref a0, .int a1, .int a2, .int a3] (st) M Q) ∧
  (∀ (a0 : Nat) (a1 : Int32) (a2 : Int32) (a3 : Int32) (st : List Value) (M : xM) (Q : Option Value → xM → Prop), xW xSC 14 54 [.ref a0, .int a1, .int a2, .int a3] (st) M Q = xW xSC 14 55 [.ref a0, .int a1, .int a2, .int a3] (.int a3 :: st) M Q) ∧
  (∀ (a0 : Nat) (a1 : Int32) (a2 : Int32) (a3 : Int32) (st : List Value) (M : xM) (Q : Option Value → xM → Prop), xW xSC 14 55 [.ref a0, .int a1, .int a2, .int a3] (st) M Q = xW xSC 14 56 [.ref a0, .int a1, .int a2, .int a3] (.int (nI 5) :: st) M Q) ∧
  (∀ (a0 : Nat) (a1 : Int32) (a2 : Int32) (a3 : Int32) (y0 : Int32) (y1 : Int32) (M : xM) (Q : Option Value → xM → Prop), xW xSC 14 56 [.ref a0, .int a1, .int a2, .int a3] (.int y0 :: .int y1 :: []) M Q = xW xSC 14 59 [.ref a0, .int a1, .int a2, .int a3] (.int (xmin y1 y0) :: []) M Q) ∧
  (∀ (a0 : Nat) (a1 : Int32) (a2 : Int32) (a3 : Int32) (st : List Value) (M : xM) (Q : Option Value → xM → Prop), xW xSC 14 59 [.ref a0, .int a1, .int a2, .int a3] (st) M Q = xW xSC 14 63 [.ref a0, .int a1, .int a2, .int a3] (st) M Q) ∧
  (∀ (a0 : Nat) (a1 : Int32) (a2 : Int32) (a3 : Int32) (st : List Value) (M : xM) (Q : Option Value → xM → Prop), xW xSC 14 62 [.ref a0, .int a1, .int a2, .int a3] (st) M Q = xW xSC 14 63 [.ref a0, .int a1, .int a2, .int a3] (.int a3 :: st) M Q) :=
  ⟨fun a0 a1 a2 a3 st M Q => xw_s rfl rfl,
  fun a0 a1 a2 a3 st M Q => xw_s rfl rfl,
  fun a0 a1 a2 a3 st M Q => xw_s rfl rfl,
  fun a0 a1 a2 a3 st M Q => xw_s rfl rfl,
  fun a0 a1 a2 a3 y0 y1 y2 M Q => xw_call rfl rfl rfl,
  fun a0 a1 a2 a3 y0 y1 st M Q => xw_s rfl rfl,
  fun a0 a1 a2 a3 st M Q => xw_s rfl rfl,
  fun a0 a1 a2 a3 y0 y1 st M Q => xw_s rfl rfl,
  fun a0 a1 a2 a3 st M Q => xw_s rfl rfl,
  fun a0 a1 a2 a3 y0 y1 M Q => xw_s rfl rfl,
  fun a0 a1 a2 a3 y0 st M Q => xw_s rfl rfl,
  fun a0 a1 a2 a3 st M Q => xw_s rfl rfl,
  fun a0 a1 a2 a3 st M Q => xw_s rfl rfl,
  fun a0 a1 a2 a3 y0 y1 st M Q => xw_brn (c0 := y1 ≤ y0) (c1 := y0 < y1) rfl rfl (xge _ _),
  fun a0 a1 a2 a3 st M Q => xw_s rfl rfl,
  fun a0 a1 a2 a3 st M Q => xw_s rfl rfl,
  fun a0 a1 a2 a3 st M Q => xw_s rfl rfl,
  fun a0 a1 a2 a3 y0 y1 M Q => xw_call rfl rfl rfl,
  fun a0 a1 a2 a3 st M Q => xw_s rfl rfl,
  fun a0 a1 a2 a3 y0 y1 st M Q => xw_brn (c0 := y1 ≠ y0) (c1 := y1 = y0) rfl rfl (Iff.rfl),
  fun a0 a1 a2 a3 st M Q => xw_s rfl rfl,
  fun a0 a1 a2 a3 st M Q => xw_s rfl rfl,
  fun a0 a1 a2 a3 st M Q => xw_s rfl rfl,
  fun a0 a1 a2 a3 y0 y1 st M Q => xw_s rfl rfl,
  fun a0 a1 a2 a3 y0 y1 st M Q => xw_s rfl rfl,
  fun a0 a1 a2 a3 y0 st M Q => xw_s rfl rfl,
  fun a0 a1 a2 a3 st M Q => xw_s rfl rfl,
  fun a0 a1 a2 a3 st M Q => xw_s rfl rfl,
  fun a0 a1 a2 a3 y0 y1 M Q => xw_call rfl rfl rfl,
  fun a0 a1 a2 a3 st M Q => xw_s rfl rfl,
  fun a0 a1 a2 a3 y0 y1 st M Q => xw_brn (c0 := y1 ≠ y0) (c1 := y1 = y0) rfl rfl (Iff.rfl),
  fun a0 a1 a2 a3 st M Q => xw_s rfl rfl,
  fun a0 a1 a2 a3 st M Q => xw_s rfl rfl,
  fun a0 a1 a2 a3 y0 y1 M Q => xw_s rfl rfl,
  fun a0 a1 a2 a3 st M Q => xw_s rfl rfl,
  fun a0 a1 a2 a3 st M Q => xw_s rfl rfl⟩
set_option maxRecDepth 20000 in
theorem h14_42 :
  (∀ (a0 : Nat) (a1 : Int32) (a2 : Int32) (a3 : Int32) (st : List Value) (M : xM) (Q : Option Value → xM → Prop), xW xSC 14 42 [.ref a0, .int a1, .int a2, .int a3] (st) M Q = xW xSC 14 43 [.ref a0, .int a1, .int a2, .int a3] (.ref a0 :: st) M Q) :=
  fun a0 a1 a2 a3 st M Q => xw_s rfl rfl
set_option maxRecDepth 20000 in
theorem h14_63 :
  (∀ (a0 : Nat) (a1 : Int32) (a2 : Int32) (a3 : Int32) (y0 : Int32) (M : xM) (Q : Option Value → xM → Prop), xW xSC 14 63 [.ref a0, .int a1, .int a2, .int a3] ([.int y0]) M Q = Q (some (.int y0)) M) :=
  fun a0 a1 a2 a3 y0 M Q => xw_ret rfl rfl
set_option maxRecDepth 20000 in
theorem j14 :
  (∀ (a0 : Nat) (a1 : Int32) (a2 : Int32) (a3 : Int32) (st : List Value) (M : xM) (Q : Option Value → xM → Prop), xW xSC 14 42 [.ref a0, .int a1, .int a2, .int a3] (st) M Q = xW xSC 14 43 [.ref a0, .int a1, .int a2, .int a3] (.ref a0 :: st) M Q) ∧
  (∀ (a0 : Nat) (a1 : Int32) (a2 : Int32) (a3 : Int32) (y0 : Int32) (M : xM) (Q : Option Value → xM → Prop), xW xSC 14 63 [.ref a0, .int a1, .int a2, .int a3] ([.int y0]) M Q = Q (some (.int y0)) M) :=
  ⟨fun a0 a1 a2 a3 st M Q => xw_s rfl rfl,
  fun a0 a1 a2 a3 y0 M Q => xw_ret rfl rfl⟩

set_option maxRecDepth 20000 in
theorem s16 :
  (∀ (a0 : Nat) (st : List Value) (M : xM) (Q : Option Value → xM → Prop), xW xSC 16 0 [.ref a0] (st) M Q = xW xSC 16 1 [.ref a0] (.ref a0 :: st) M Q) ∧
  (∀ (a0 : Nat) (st : List Value) (M : xM) (Q : Option Value → xM → Prop), xW xSC 16 1 [.ref a0] (st) M Q = xW xSC 16 2 [.ref a0] (.int (nI 0) :: st) M Q) ∧
  (∀ (a0 : Nat) (y0 : Int32) (st : List Value) (M : xM) (Q : Option Value → xM → Prop), xW xSC 16 2 [.ref a0] (.int y0 :: .ref 27 :: st) M Q = xW xSC 16 5 [.ref a0] (st) (xup M 27 3 y0) Q) ∧
  (∀ (a0 : Nat) (M : xM) (Q : Option Value → xM → Prop), xW xSC 16 5 [.ref a0] ([]) M Q = Q none M) :=
  ⟨fun a0 st M Q => xw_s rfl rfl,
  fun a0 st M Q => xw_s rfl rfl,
  fun a0 y0 st M Q => xw_s rfl rfl,
  fun a0 M Q => xw_retv rfl rfl⟩
theorem j16 : True := trivial

set_option maxRecDepth 20000 in
theorem s17 :
  (∀ (a0 : Nat) (a1 : Int32) (a2 : Int32) (a3 : Int32) (st : List Value) (M : xM) (Q : Option Value → xM → Prop), xW xSC 17 0 [.ref a0, .int a1, .int a2, .int a3] (st) M Q = xW xSC 17 1 [.ref a0, .int a1, .int a2, .int a3] (.ref a0 :: st) M Q) ∧
  (∀ (a0 : Nat) (a1 : Int32) (a2 : Int32) (a3 : Int32) (st : List Value) (M : xM) (Q : Option Value → xM → Prop), xW xSC 17 1 [.ref a0, .int a1, .int a2, .int a3] (.ref 27 :: st) M Q = xW xSC 17 4 [.ref a0, .int a1, .int a2, .int a3] (.ref 28 :: st) M Q) ∧
  (∀ (a0 : Nat) (a1 : Int32) (a2 : Int32) (a3 : Int32) (st : List Value) (M : xM) (Q : Option Value → xM → Prop), xW xSC 17 4 [.ref a0, .int a1, .int a2, .int a3] (st) M Q = xW xSC 17 5 [.ref a0, .int a1, .int a2, .int a3] (.ref a0 :: st) M Q) ∧
  (∀ (a0 : Nat) (a1 : Int32) (a2 : Int32) (a3 : Int32) (st : List Value) (M : xM) (Q : Option Value → xM → Prop), xW xSC 17 5 [.ref a0, .int a1, .int a2, .int a3] (.ref 27 :: st) M Q = xW xSC 17 8 [.ref a0, .int a1, .int a2, .int a3] (.int (M 27 3) :: st) M Q) ∧
  (∀ (a0 : Nat) (a1 : Int32) (a2 : Int32) (a3 : Int32) (st : List Value) (M : xM) (Q : Option Value → xM → Prop), xW xSC 17 8 [.ref a0, .int a1, .int a2, .int a3] (st) M Q = xW xSC 17 9 [.ref a0, .int a1, .int a2, .int a3] (.int a1 :: st) M Q) ∧
  (∀ (a0 : Nat) (a1 : Int32) (a2 : Int32) (a3 : Int32) (y0 : Int32) (y1 : Int32) (y2 : Nat) (M : xM) (Q : Option Value → xM → Prop), xW xSC 17 9 [.ref a0, .int a1, .int a2, .int a3] (.int y0 :: .int y1 :: .ref y2 :: []) M Q = xW xSC 1 0 [.ref y2, .int y1, .int y0] [] M (fun v M' => xW xSC 17 12 [.ref a0, .int a1, .int a2, .int a3] (xpush v []) M' Q)) ∧
  (∀ (a0 : Nat) (a1 : Int32) (a2 : Int32) (a3 : Int32) (st : List Value) (M : xM) (Q : Option Value → xM → Prop), xW xSC 17 12 [.ref a0, .int a1, .int a2, .int a3] (st) M Q = xW xSC 17 13 [.ref a0, .int a1, .int a2, .int a3] (.ref a0 :: st) M Q) ∧
  (∀ (a0 : Nat) (a1 : Int32) (a2 : Int32) (a3 : Int32) (st : List Value) (M : xM) (Q : Option Value → xM → Prop), xW xSC 17 13 [.ref a0, .int a1, .int a2, .int a3] (.ref 27 :: st) M Q = xW xSC 17 16 [.ref a0, .int a1, .int a2, .int a3] (.ref 29 :: st) M Q) ∧
  (∀ (a0 : Nat) (a1 : Int32) (a2 : Int32) (a3 : Int32) (st : List Value) (M : xM) (Q : Option Value → xM → Prop), xW xSC 17 16 [.ref a0, .int a1, .int a2, .int a3] (st) M Q = xW xSC 17 17 [.ref a0, .int a1, .int a2, .int a3] (.ref a0 :: st) M Q) ∧
  (∀ (a0 : Nat) (a1 : Int32) (a2 : Int32) (a3 : Int32) (st : List Value) (M : xM) (Q : Option Value → xM → Prop), xW xSC 17 17 [.ref a0, .int a1, .int a2, .int a3] (.ref 27 :: st) M Q = xW xSC 17 20 [.ref a0, .int a1, .int a2, .int a3] (.int (M 27 3) :: st) M Q) ∧
  (∀ (a0 : Nat) (a1 : Int32) (a2 : Int32) (a3 : Int32) (st : List Value) (M : xM) (Q : Option Value → xM → Prop), xW xSC 17 20 [.ref a0, .int a1, .int a2, .int a3] (st) M Q = xW xSC 17 21 [.ref a0, .int a1, .int a2, .int a3] (.int a2 :: st) M Q) ∧
  (∀ (a0 : Nat) (a1 : Int32) (a2 : Int32) (a3 : Int32) (y0 : Int32) (y1 : Int32) (y2 : Nat) (M : xM) (Q : Option Value → xM → Prop), xW xSC 17 21 [.ref a0, .int a1, .int a2, .int a3] (.int y0 :: .int y1 :: .ref y2 :: []) M Q = xW xSC 1 0 [.ref y2, .int y1, .int y0] [] M (fun v M' => xW xSC 17 24 [.ref a0, .int a1, .int a2, .int a3] (xpush v []) M' Q)) ∧
  (∀ (a0 : Nat) (a1 : Int32) (a2 : Int32) (a3 : Int32) (st : List Value) (M : xM) (Q : Option Value → xM → Prop), xW xSC 17 24 [.ref a0, .int a1, .int a2, .int a3] (st) M Q = xW xSC 17 25 [.ref a0, .int a1, .int a2, .int a3] (.ref a0 :: st) M Q) ∧
  (∀ (a0 : Nat) (a1 : Int32) (a2 : Int32) (a3 : Int32) (st : List Value) (M : xM) (Q : Option Value → xM → Prop), xW xSC 17 25 [.ref a0, .int a1, .int a2, .int a3] (.ref 27 :: st) M Q = xW xSC 17 28 [.ref a0, .int a1, .int a2, .int a3] (.ref 30 :: st) M Q) ∧
  (∀ (a0 : Nat) (a1 : Int32) (a2 : Int32) (a3 : Int32) (st : List Value) (M : xM) (Q : Option Value → xM → Prop), xW xSC 17 28 [.ref a0, .int a1, .int a2, .int a3] (st) M Q = xW xSC 17 29 [.ref a0, .int a1, .int a2, .int a3] (.ref a0 :: st) M Q) ∧
  (∀ (a0 : Nat) (a1 : Int32) (a2 : Int32) (a3 : Int32) (st : List Value) (M : xM) (Q : Option Value → xM → Prop), xW xSC 17 29 [.ref a0, .int a1, .int a2, .int a3] (.ref 27 :: st) M Q = xW xSC 17 32 [.ref a0, .int a1, .int a2, .int a3] (.int (M 27 3) :: st) M Q) ∧
  (∀ (a0 : Nat) (a1 : Int32) (a2 : Int32) (a3 : Int32) (st : List Value) (M : xM) (Q : Option Value → xM → Prop), xW xSC 17 32 [.ref a0, .int a1, .int a2, .int a3] (st) M Q = xW xSC 17 33 [.ref a0, .int a1, .int a2, .int a3] (.int a3 :: st) M Q) ∧
  (∀ (a0 : Nat) (a1 : Int32) (a2 : Int32) (a3 : Int32) (y0 : Int32) (y1 : Int32) (y2 : Nat) (M : xM) (Q : Option Value → xM → Prop), xW xSC 17 33 [.ref a0, .int a1, .int a2, .int a3] (.int y0 :: .int y1 :: .ref y2 :: []) M Q = xW xSC 1 0 [.ref y2, .int y1, .int y0] [] M (fun v M' => xW xSC 17 36 [.ref a0, .int a1, .int a2, .int a3] (xpush v []) M' Q)) ∧
  (∀ (a0 : Nat) (a1 : Int32) (a2 : Int32) (a3 : Int32) (st : List Value) (M : xM) (Q : Option Value → xM → Prop), xW xSC 17 36 [.ref a0, .int a1, .int a2, .int a3] (st) M Q = xW xSC 17 37 [.ref a0, .int a1, .int a2, .int a3] (.ref a0 :: st) M Q) ∧
  (∀ (a0 : Nat) (a1 : Int32) (a2 : Int32) (a3 : Int32) (y0 : Nat) (st : List Value) (M : xM) (Q : Option Value → xM → Prop), xW xSC 17 37 [.ref a0, .int a1, .int a2, .int a3] (.ref y0 :: st) M Q = xW xSC 17 38 [.ref a0, .int a1, .int a2, .int a3] (.ref y0 :: .ref y0 :: st) M Q) ∧
  (∀ (a0 : Nat) (a1 : Int32) (a2 : Int32) (a3 : Int32) (st : List Value) (M : xM) (Q : Option Value → xM → Prop), xW xSC 17 38 [.ref a0, .int a1, .int a2, .int a3] (.ref 27 :: st) M Q = xW xSC 17 41 [.ref a0, .int a1, .int a2, .int a3] (.int (M 27 3) :: st) M Q) ∧
  (∀ (a0 : Nat) (a1 : Int32) (a2 : Int32) (a3 : Int32) (st : List Value) (M : xM) (Q : Option Value → xM → Prop), xW xSC 17 41 [.ref a0, .int a1, .int a2, .int a3] (st) M Q = xW xSC 17 42 [.ref a0, .int a1, .int a2, .int a3] (.int (nI 1) :: st) M Q) ∧
  (∀ (a0 : Nat) (a1 : Int32) (a2 : Int32) (a3 : Int32) (y0 : Int32) (y1 : Int32) (st : List Value) (M : xM) (Q : Option Value → xM → Prop), xW xSC 17 42 [.ref a0, .int a1, .int a2, .int a3] (.int y0 :: .int y1 :: st) M Q = xW xSC 17 43 [.ref a0, .int a1, .int a2, .int a3] (.int (y1 + y0) :: st) M Q) ∧
  (∀ (a0 : Nat) (a1 : Int32) (a2 : Int32) (a3 : Int32) (y0 : Int32) (st : List Value) (M : xM) (Q : Option Value → xM → Prop), xW xSC 17 43 [.ref a0, .int a1, .int a2, .int a3] (.int y0 :: .ref 27 :: st) M Q = xW xSC 17 46 [.ref a0, .int a1, .int a2, .int a3] (st) (xup M 27 3 y0) Q) ∧
  (∀ (a0 : Nat) (a1 : Int32) (a2 : Int32) (a3 : Int32) (M : xM) (Q : Option Value → xM → Prop), xW xSC 17 46 [.ref a0, .int a1, .int a2, .int a3] ([]) M Q = Q none M) :=
  ⟨fun a0 a1 a2 a3 st M Q => xw_s rfl rfl,
  fun a0 a1 a2 a3 st M Q => xw_s rfl rfl,
  fun a0 a1 a2 a3 st M Q => xw_s rfl rfl,
  fun a0 a1 a2 a3 st M Q => xw_s rfl rfl,
  fun a0 a1 a2 a3 st M Q => xw_s rfl rfl,
  fun a0 a1 a2 a3 y0 y1 y2 M Q => xw_call rfl rfl rfl,
  fun a0 a1 a2 a3 st M Q => xw_s rfl rfl,
  fun a0 a1 a2 a3 st M Q => xw_s rfl rfl,
  fun a0 a1 a2 a3 st M Q => xw_s rfl rfl,
  fun a0 a1 a2 a3 st M Q => xw_s rfl rfl,
  fun a0 a1 a2 a3 st M Q => xw_s rfl rfl,
  fun a0 a1 a2 a3 y0 y1 y2 M Q => xw_call rfl rfl rfl,
  fun a0 a1 a2 a3 st M Q => xw_s rfl rfl,
  fun a0 a1 a2 a3 st M Q => xw_s rfl rfl,
  fun a0 a1 a2 a3 st M Q => xw_s rfl rfl,
  fun a0 a1 a2 a3 st M Q => xw_s rfl rfl,
  fun a0 a1 a2 a3 st M Q => xw_s rfl rfl,
  fun a0 a1 a2 a3 y0 y1 y2 M Q => xw_call rfl rfl rfl,
  fun a0 a1 a2 a3 st M Q => xw_s rfl rfl,
  fun a0 a1 a2 a3 y0 st M Q => xw_s rfl rfl,
  fun a0 a1 a2 a3 st M Q => xw_s rfl rfl,
  fun a0 a1 a2 a3 st M Q => xw_s rfl rfl,
  fun a0 a1 a2 a3 y0 y1 st M Q => xw_s rfl rfl,
  fun a0 a1 a2 a3 y0 st M Q => xw_s rfl rfl,
  fun a0 a1 a2 a3 M Q => xw_retv rfl rfl⟩
theorem j17 : True := trivial

set_option maxRecDepth 20000 in
theorem s18 :
  (∀ (a0 : Nat) (a1 : Nat) (a2 : Nat) (a3 : Int32) (a4 : Int32) (a5 : Value) (a6 : Value) (a7 : Value) (a8 : Value) (st : List Value) (M : xM) (Q : Option Value → xM → Prop), xW xSC 18 0 [.ref a0, .ref a1, .ref a2, .int a3, .int a4, a5, a6, a7, a8] (st) M Q = xW xSC 18 1 [.ref a0, .ref a1, .ref a2, .int a3, .int a4, a5, a6, a7, a8] (.int (nI 0) :: st) M Q) ∧
  (∀ (a0 : Nat) (a1 : Nat) (a2 : Nat) (a3 : Int32) (a4 : Int32) (a5 : Value) (a6 : Value) (a7 : Value) (a8 : Value) (y0 : Int32) (st : List Value) (M : xM) (Q : Option Value → xM → Prop), xW xSC 18 1 [.ref a0, .ref a1, .ref a2, .int a3, .int a4, a5, a6, a7, a8] (.int y0 :: st) M Q = xW xSC 18 3 [.ref a0, .ref a1, .ref a2, .int a3, .int a4, .int y0, a6, a7, a8] (st) M Q) ∧
  (∀ (a0 : Nat) (a1 : Nat) (a2 : Nat) (a3 : Int32) (a4 : Int32) (a5 : Int32) (a6 : Value) (a7 : Value) (a8 : Value) (st : List Value) (M : xM) (Q : Option Value → xM → Prop), xW xSC 18 5 [.ref a0, .ref a1, .ref a2, .int a3, .int a4, .int a5, a6, a7, a8] (st) M Q = xW xSC 18 6 [.ref a0, .ref a1, .ref a2, .int a3, .int a4, .int a5, a6, a7, a8] (.ref a0 :: st) M Q) ∧
  (∀ (a0 : Nat) (a1 : Nat) (a2 : Nat) (a3 : Int32) (a4 : Int32) (a5 : Int32) (a6 : Value) (a7 : Value) (a8 : Value) (st : List Value) (M : xM) (Q : Option Value → xM → Prop), xW xSC 18 6 [.ref a0, .ref a1, .ref a2, .int a3, .int a4, .int a5, a6, a7, a8] (.ref 27 :: st) M Q = xW xSC 18 9 [.ref a0, .ref a1, .ref a2, .int a3, .int a4, .int a5, a6, a7, a8] (.int (M 27 3) :: st) M Q) ∧
  (∀ (a0 : Nat) (a1 : Nat) (a2 : Nat) (a3 : Int32) (a4 : Int32) (a5 : Int32) (a6 : Value) (a7 : Value) (a8 : Value) (y0 : Int32) (y1 : Int32) (st : List Value) (M : xM) (Q : Option Value → xM → Prop), xW xSC 18 9 [.ref a0, .ref a1, .ref a2, .int a3, .int a4, .int a5, a6, a7, a8] (.int y0 :: .int y1 :: st) M Q = if y1 < y0 then xW xSC 18 12 [.ref a0, .ref a1, .ref a2, .int a3, .int a4, .int a5, a6, a7, a8] (st) M Q else xW xSC 18 79 [.ref a0, .ref a1, .ref a2, .int a3, .int a4, .int a5, a6, a7, a8] (st) M Q) ∧
  (∀ (a0 : Nat) (a1 : Nat) (a2 : Nat) (a3 : Int32) (a4 : Int32) (a5 : Int32) (a6 : Value) (a7 : Value) (a8 : Value) (st : List Value) (M : xM) (Q : Option Value → xM → Prop), xW xSC 18 12 [.ref a0, .ref a1, .ref a2, .int a3, .int a4, .int a5, a6, a7, a8] (st) M Q = xW xSC 18 13 [.ref a0, .ref a1, .ref a2, .int a3, .int a4, .int a5, a6, a7, a8] (.ref a0 :: st) M Q) ∧
  (∀ (a0 : Nat) (a1 : Nat) (a2 : Nat) (a3 : Int32) (a4 : Int32) (a5 : Int32) (a6 : Value) (a7 : Value) (a8 : Value) (st : List Value) (M : xM) (Q : Option Value → xM → Prop), xW xSC 18 13 [.ref a0, .ref a1, .ref a2, .int a3, .int a4, .int a5, a6, a7, a8] (.ref 27 :: st) M Q = xW xSC 18 16 [.ref a0, .ref a1, .ref a2, .int a3, .int a4, .int a5, a6, a7, a8] (.ref 28 :: st) M Q) ∧
  (∀ (a0 : Nat) (a1 : Nat) (a2 : Nat) (a3 : Int32) (a4 : Int32) (a5 : Int32) (a6 : Value) (a7 : Value) (a8 : Value) (st : List Value) (M : xM) (Q : Option Value → xM → Prop), xW xSC 18 16 [.ref a0, .ref a1, .ref a2, .int a3, .int a4, .int a5, a6, a7, a8] (st) M Q = xW xSC 18 18 [.ref a0, .ref a1, .ref a2, .int a3, .int a4, .int a5, a6, a7, a8] (.int a5 :: st) M Q) ∧
  (∀ (a0 : Nat) (a1 : Nat) (a2 : Nat) (a3 : Int32) (a4 : Int32) (a5 : Int32) (a6 : Value) (a7 : Value) (a8 : Value) (y0 : Int32) (y1 : Nat) (M : xM) (Q : Option Value → xM → Prop), xW xSC 18 18 [.ref a0, .ref a1, .ref a2, .int a3, .int a4, .int a5, a6, a7, a8] (.int y0 :: .ref y1 :: []) M Q = xW xSC 0 0 [.ref y1, .int y0] [] M (fun v M' => xW xSC 18 21 [.ref a0, .ref a1, .ref a2, .int a3, .int a4, .int a5, a6, a7, a8] (xpush v []) M' Q)) ∧
  (∀ (a0 : Nat) (a1 : Nat) (a2 : Nat) (a3 : Int32) (a4 : Int32) (a5 : Int32) (a6 : Value) (a7 : Value) (a8 : Value) (y0 : Int32) (st : List Value) (M : xM) (Q : Option Value → xM → Prop), xW xSC 18 21 [.ref a0, .ref a1, .ref a2, .int a3, .int a4, .int a5, a6, a7, a8] (.int y0 :: st) M Q = xW xSC 18 23 [.ref a0, .ref a1, .ref a2, .int a3, .int a4, .int a5, .int y0, a7, a8] (st) M Q) ∧
  (∀ (a0 : Nat) (a1 : Nat) (a2 : Nat) (a3 : Int32) (a4 : Int32) (a5 : Int32) (a6 : Int32) (a7 : Value) (a8 : Value) (st : List Value) (M : xM) (Q : Option Value → xM → Prop), xW xSC 18 23 [.ref a0, .ref a1, .ref a2, .int a3, .int a4, .int a5, .int a6, a7, a8] (st) M Q = xW xSC 18 24 [.ref a0, .ref a1, .ref a2, .int a3, .int a4, .int a5, .int a6, a7, a8] (.ref a0 :: st) M Q) ∧
  (∀ (a0 : Nat) (a1 : Nat) (a2 : Nat) (a3 : Int32) (a4 : Int32) (a5 : Int32) (a6 : Int32) (a7 : Value) (a8 : Value) (st : List Value) (M : xM) (Q : Option Value → xM → Prop), xW xSC 18 24 [.ref a0, .ref a1, .ref a2, .int a3, .int a4, .int a5, .int a6, a7, a8] (.ref 27 :: st) M Q = xW xSC 18 27 [.ref a0, .ref a1, .ref a2, .int a3, .int a4, .int a5, .int a6, a7, a8] (.ref 29 :: st) M Q) ∧
  (∀ (a0 : Nat) (a1 : Nat) (a2 : Nat) (a3 : Int32) (a4 : Int32) (a5 : Int32) (a6 : Int32) (a7 : Value) (a8 : Value) (st : List Value) (M : xM) (Q : Option Value → xM → Prop), xW xSC 18 27 [.ref a0, .ref a1, .ref a2, .int a3, .int a4, .int a5, .int a6, a7, a8] (st) M Q = xW xSC 18 29 [.ref a0, .ref a1, .ref a2, .int a3, .int a4, .int a5, .int a6, a7, a8] (.int a5 :: st) M Q) ∧
  (∀ (a0 : Nat) (a1 : Nat) (a2 : Nat) (a3 : Int32) (a4 : Int32) (a5 : Int32) (a6 : Int32) (a7 : Value) (a8 : Value) (y0 : Int32) (y1 : Nat) (M : xM) (Q : Option Value → xM → Prop), xW xSC 18 29 [.ref a0, .ref a1, .ref a2, .int a3, .int a4, .int a5, .int a6, a7, a8] (.int y0 :: .ref y1 :: []) M Q = xW xSC 0 0 [.ref y1, .int y0] [] M (fun v M' => xW xSC 18 32 [.ref a0, .ref a1, .ref a2, .int a3, .int a4, .int a5, .int a6, a7, a8] (xpush v []) M' Q)) ∧
  (∀ (a0 : Nat) (a1 : Nat) (a2 : Nat) (a3 : Int32) (a4 : Int32) (a5 : Int32) (a6 : Int32) (a7 : Value) (a8 : Value) (y0 : Int32) (st : List Value) (M : xM) (Q : Option Value → xM → Prop), xW xSC 18 32 [.ref a0, .ref a1, .ref a2, .int a3, .int a4, .int a5, .int a6, a7, a8] (.int y0 :: st) M Q = xW xSC 18 34 [.ref a0, .ref a1, .ref a2, .int a3, .int a4, .int a5, .int a6, .int y0, a8] (st) M Q) ∧
  (∀ (a0 : Nat) (a1 : Nat) (a2 : Nat) (a3 : Int32) (a4 : Int32) (a5 : Int32) (a6 : Int32) (a7 : Int32) (a8 : Value) (st : List Value) (M : xM) (Q : Option Value → xM → Prop), xW xSC 18 34 [.ref a0, .ref a1, .ref a2, .int a3, .int a4, .int a5, .int a6, .int a7, a8] (st) M Q = xW xSC 18 35 [.ref a0, .ref a1, .ref a2, .int a3, .int a4, .int a5, .int a6, .int a7, a8] (.ref a1 :: st) M Q) ∧
  (∀ (a0 : Nat) (a1 : Nat) (a2 : Nat) (a3 : Int32) (a4 : Int32) (a5 : Int32) (a6 : Int32) (a7 : Int32) (a8 : Value) (st : List Value) (M : xM) (Q : Option Value → xM → Prop), xW xSC 18 35 [.ref a0, .ref a1, .ref a2, .int a3, .int a4, .int a5, .int a6, .int a7, a8] (st) M Q = xW xSC 18 36 [.ref a0, .ref a1, .ref a2, .int a3, .int a4, .int a5, .int a6, .int a7, a8] (.ref a2 :: st) M Q) ∧
  (∀ (a0 : Nat) (a1 : Nat) (a2 : Nat) (a3 : Int32) (a4 : Int32) (a5 : Int32) (a6 : Int32) (a7 : Int32) (a8 : Value) (st : List Value) (M : xM) (Q : Option Value → xM → Prop), xW xSC 18 36 [.ref a0, .ref a1, .ref a2, .int a3, .int a4, .int a5, .int a6, .int a7, a8] (st) M Q = xW xSC 18 38 [.ref a0, .ref a1, .ref a2, .int a3, .int a4, .int a5, .int a6, .int a7, a8] (.int a6 :: st) M Q) ∧
  (∀ (a0 : Nat) (a1 : Nat) (a2 : Nat) (a3 : Int32) (a4 : Int32) (a5 : Int32) (a6 : Int32) (a7 : Int32) (a8 : Value) (st : List Value) (M : xM) (Q : Option Value → xM → Prop), xW xSC 18 38 [.ref a0, .ref a1, .ref a2, .int a3, .int a4, .int a5, .int a6, .int a7, a8] (st) M Q = xW xSC 18 40 [.ref a0, .ref a1, .ref a2, .int a3, .int a4, .int a5, .int a6, .int a7, a8] (.int a7 :: st) M Q) ∧
  (∀ (a0 : Nat) (a1 : Nat) (a2 : Nat) (a3 : Int32) (a4 : Int32) (a5 : Int32) (a6 : Int32) (a7 : Int32) (a8 : Value) (st : List Value) (M : xM) (Q : Option Value → xM → Prop), xW xSC 18 40 [.ref a0, .ref a1, .ref a2, .int a3, .int a4, .int a5, .int a6, .int a7, a8] (st) M Q = xW xSC 18 41 [.ref a0, .ref a1, .ref a2, .int a3, .int a4, .int a5, .int a6, .int a7, a8] (.int a3 :: st) M Q) ∧
  (∀ (a0 : Nat) (a1 : Nat) (a2 : Nat) (a3 : Int32) (a4 : Int32) (a5 : Int32) (a6 : Int32) (a7 : Int32) (a8 : Value) (y0 : Int32) (y1 : Int32) (y2 : Int32) (y3 : Nat) (y4 : Nat) (M : xM) (Q : Option Value → xM → Prop), xW xSC 18 41 [.ref a0, .ref a1, .ref a2, .int a3, .int a4, .int a5, .int a6, .int a7, a8] (.int y0 :: .int y1 :: .int y2 :: .ref y3 :: .ref y4 :: []) M Q = xW xSC 19 0 [.ref y4, .ref y3, .int y2, .int y1, .int y0, .null, .null, .null] [] M (fun v M' => xW xSC 18 44 [.ref a0, .ref a1, .ref a2, .int a3, .int a4, .int a5, .int a6, .int a7, a8] (xpush v []) M' Q)) ∧
  (∀ (a0 : Nat) (a1 : Nat) (a2 : Nat) (a3 : Int32) (a4 : Int32) (a5 : Int32) (a6 : Int32) (a7 : Int32) (a8 : Value) (st : List Value) (M : xM) (Q : Option Value → xM → Prop), xW xSC 18 44 [.ref a0, .ref a1, .ref a2, .int a3, .int a4, .int a5, .int a6, .int a7, a8] (st) M Q = xW xSC 18 45 [.ref a0, .ref a1, .ref a2, .int a3, .int a4, .int a5, .int a6, .int a7, a8] (.ref a0 :: st) M Q) ∧
  (∀ (a0 : Nat) (a1 : Nat) (a2 : Nat) (a3 : Int32) (a4 : Int32) (a5 : Int32) (a6 : Int32) (a7 : Int32) (a8 : Value) (st : List Value) (M : xM) (Q : Option Value → xM → Prop), xW xSC 18 45 [.ref a0, .ref a1, .ref a2, .int a3, .int a4, .int a5, .int a6, .int a7, a8] (.ref 27 :: st) M Q = xW xSC 18 48 [.ref a0, .ref a1, .ref a2, .int a3, .int a4, .int a5, .int a6, .int a7, a8] (.ref 30 :: st) M Q) ∧
  (∀ (a0 : Nat) (a1 : Nat) (a2 : Nat) (a3 : Int32) (a4 : Int32) (a5 : Int32) (a6 : Int32) (a7 : Int32) (a8 : Value) (st : List Value) (M : xM) (Q : Option Value → xM → Prop), xW xSC 18 48 [.ref a0, .ref a1, .ref a2, .int a3, .int a4, .int a5, .int a6, .int a7, a8] (st) M Q = xW xSC 18 50 [.ref a0, .ref a1, .ref a2, .int a3, .int a4, .int a5, .int a6, .int a7, a8] (.int a5 :: st) M Q) ∧
  (∀ (a0 : Nat) (a1 : Nat) (a2 : Nat) (a3 : Int32) (a4 : Int32) (a5 : Int32) (a6 : Int32) (a7 : Int32) (a8 : Value) (y0 : Int32) (y1 : Nat) (y2 : Int32) (M : xM) (Q : Option Value → xM → Prop), xW xSC 18 50 [.ref a0, .ref a1, .ref a2, .int a3, .int a4, .int a5, .int a6, .int a7, a8] (.int y0 :: .ref y1 :: .int y2 :: []) M Q = xW xSC 0 0 [.ref y1, .int y0] [] M (fun v M' => xW xSC 18 53 [.ref a0, .ref a1, .ref a2, .int a3, .int a4, .int a5, .int a6, .int a7, a8] (xpush v [.int y2]) M' Q)) ∧
  (∀ (a0 : Nat) (a1 : Nat) (a2 : Nat) (a3 : Int32) (a4 : Int32) (a5 : Int32) (a6 : Int32) (a7 : Int32) (a8 : Value) (y0 : Int32) (y1 : Int32) (st : List Value) (M : xM) (Q : Option Value → xM → Prop), xW xSC 18 53 [.ref a0, .ref a1, .ref a2, .int a3, .int a4, .int a5, .int a6, .int a7, a8] (.int y0 :: .int y1 :: st) M Q = xW xSC 18 54 [.ref a0, .ref a1, .ref a2, .int a3, .int a4, .int a5, .int a6, .int a7, a8] (.int (y1 - y0) :: st) M Q) ∧
  (∀ (a0 : Nat) (a1 : Nat) (a2 : Nat) (a3 : Int32) (a4 : Int32) (a5 : Int32) (a6 : Int32) (a7 : Int32) (a8 : Value) (y0 : Int32) (st : List Value) (M : xM) (Q : Option Value → xM → Prop), xW xSC 18 54 [.ref a0, .ref a1, .ref a2, .int a3, .int a4, .int a5, .int a6, .int a7, a8] (.int y0 :: st) M Q = xW xSC 18 56 [.ref a0, .ref a1, .ref a2, .int a3, .int a4, .int a5, .int a6, .int a7, .int y0] (st) M Q) ∧
  (∀ (a0 : Nat) (a1 : Nat) (a2 : Nat) (a3 : Int32) (a4 : Int32) (a5 : Int32) (a6 : Int32) (a7 : Int32) (a8 : Int32) (st : List Value) (M : xM) (Q : Option Value → xM → Prop), xW xSC 18 56 [.ref a0, .ref a1, .ref a2, .int a3, .int a4, .int a5, .int a6, .int a7, .int a8] (st) M Q = xW xSC 18 58 [.ref a0, .ref a1, .ref a2, .int a3, .int a4, .int a5, .int a6, .int a7, .int a8] (.int a8 :: st) M Q) ∧
  (∀ (a0 : Nat) (a1 : Nat) (a2 : Nat) (a3 : Int32) (a4 : Int32) (a5 : Int32) (a6 : Int32) (a7 : Int32) (a8 : Int32) (st : List Value) (M : xM) (Q : Option Value → xM → Prop), xW xSC 18 58 [.ref a0, .ref a1, .ref a2, .int a3, .int a4, .int a5, .int a6, .int a7, .int a8] (st) M Q = xW xSC 18 60 [.ref a0, .ref a1, .ref a2, .int a3, .int a4, .int a5, .int a6, .int a7, .int a8] (.int a4 :: st) M Q) ∧
  (∀ (a0 : Nat) (a1 : Nat) (a2 : Nat) (a3 : Int32) (a4 : Int32) (a5 : Int32) (a6 : Int32) (a7 : Int32) (a8 : Int32) (y0 : Int32) (y1 : Int32) (st : List Value) (M : xM) (Q : Option Value → xM → Prop), xW xSC 18 60 [.ref a0, .ref a1, .ref a2, .int a3, .int a4, .int a5, .int a6, .int a7, .int a8] (.int y0 :: .int y1 :: st) M Q = if y0 < y1 then xW xSC 18 71 [.ref a0, .ref a1, .ref a2, .int a3, .int a4, .int a5, .int a6, .int a7, .int a8] (st) M Q else xW xSC 18 63 [.ref a0, .ref a1, .ref a2, .int a3, .int a4, .int a5, .int a6, .int a7, .int a8] (st) M Q) ∧
  (∀ (a0 : Nat) (a1 : Nat) (a2 : Nat) (a3 : Int32) (a4 : Int32) (a5 : Int32) (a6 : Int32) (a7 : Int32) (a8 : Int32) (st : List Value) (M : xM) (Q : Option Value → xM → Prop), xW xSC 18 63 [.ref a0, .ref a1, .ref a2, .int a3, .int a4, .int a5, .int a6, .int a7, .int a8] (st) M Q = xW xSC 18 65 [.ref a0, .ref a1, .ref a2, .int a3, .int a4, .int a5, .int a6, .int a7, .int a8] (.int a8 :: st) M Q) ∧
  (∀ (a0 : Nat) (a1 : Nat) (a2 : Nat) (a3 : Int32) (a4 : Int32) (a5 : Int32) (a6 : Int32) (a7 : Int32) (a8 : Int32) (st : List Value) (M : xM) (Q : Option Value → xM → Prop), xW xSC 18 65 [.ref a0, .ref a1, .ref a2, .int a3, .int a4, .int a5, .int a6, .int a7, .int a8] (st) M Q = xW xSC 18 67 [.ref a0, .ref a1, .ref a2, .int a3, .int a4, .int a5, .int a6, .int a7, .int a8] (.int a4 :: st) M Q) ∧
  (∀ (a0 : Nat) (a1 : Nat) (a2 : Nat) (a3 : Int32) (a4 : Int32) (a5 : Int32) (a6 : Int32) (a7 : Int32) (a8 : Int32) (y0 : Int32) (st : List Value) (M : xM) (Q : Option Value → xM → Prop), xW xSC 18 67 [.ref a0, .ref a1, .ref a2, .int a3, .int a4, .int a5, .int a6, .int a7, .int a8] (.int y0 :: st) M Q = xW xSC 18 68 [.ref a0, .ref a1, .ref a2, .int a3, .int a4, .int a5, .int a6, .int a7, .int a8] (.int (-y0) :: st) M Q) ∧
  (∀ (a0 : Nat) (a1 : Nat) (a2 : Nat) (a3 : Int32) (a4 : Int32) (a5 : Int32) (a6 : Int32) (a7 : Int32) (a8 : Int32) (y0 : Int32) (y1 : Int32) (st : List Value) (M : xM) (Q : Option Value → xM → Prop), xW xSC 18 68 [.ref a0, .ref a1, .ref a2, .int a3, .int a4, .int a5, .int a6, .int a7, .int a8] (.int y0 :: .int y1 :: st) M Q = if y1 < y0 then xW xSC 18 71 [.ref a0, .ref a1, .ref a2, .int a3, .int a4, .int a5, .int a6, .int a7, .int a8] (st) M Q else xW xSC 18 73 [.ref a0, .ref a1, .ref a2, .int a3, .int a4, .int a5, .int a6, .int a7, .int a8] (st) M Q) ∧
  (∀ (a0 : Nat) (a1 : Nat) (a2 : Nat) (a3 : Int32) (a4 : Int32) (a5 : Int32) (a6 : Int32) (a7 : Int32) (a8 : Int32) (y0 : Int32) (M : xM) (Q : Option Value → xM → Prop), y0 = 0 ∨ y0 = 1 → xW xSC 18 72 [.ref a0, .ref a1, .ref a2, .int a3, .int a4, .int a5, .int a6, .int a7, .int a8] ([.int y0]) M Q = Q (some (.int y0)) M) ∧
  (∀ (a0 : Nat) (a1 : Nat) (a2 : Nat) (a3 : Int32) (a4 : Int32) (a5 : Int32) (a6 : Int32) (a7 : Int32) (a8 : Int32) (st : List Value) (M : xM) (Q : Option Value → xM → Prop), xW xSC 18 73 [.ref a0, .ref a1, .ref a2, .int a3, .int a4, .int a5, .int a6, .int a7, .int a8] (st) M Q = xW xSC 18 76 [.ref a0, .ref a1, .ref a2, .int a3, .int a4, .int (a5 + nI 1), .int a6, .int a7, .int a8] (st) M Q) ∧
  (∀ (a0 : Nat) (a1 : Nat) (a2 : Nat) (a3 : Int32) (a4 : Int32) (a5 : Int32) (a6 : Int32) (a7 : Int32) (a8 : Int32) (st : List Value) (M : xM) (Q : Option Value → xM → Prop), xW xSC 18 76 [.ref a0, .ref a1, .ref a2, .int a3, .int a4, .int a5, .int a6, .int a7, .int a8] (st) M Q = xW xSC 18 3 [.ref a0, .ref a1, .ref a2, .int a3, .int a4, .int a5, .int a6, .int a7, .int a8] (st) M Q) ∧
  (∀ (a0 : Nat) (a1 : Nat) (a2 : Nat) (a3 : Int32) (a4 : Int32) (a5 : Int32) (a6 : Value) (a7 : Value) (a8 : Value) (st : List Value) (M : xM) (Q : Option Value → xM → Prop), xW xSC 18 79 [.ref a0, .ref a1, .ref a2, .int a3, .int a4, .int a5, a6, a7, a8] (st) M Q = xW xSC 18 80 [.ref a0, .ref a1, .ref a2, .int a3, .int a4, .int a5, a6, a7, a8] (.int (nI 1) :: st) M Q) ∧
  (∀ (a0 : Nat) (a1 : Nat) (a2 : Nat) (a3 : Int32) (a4 : Int32) (a5 : Int32) (a6 : Value) (a7 : Value) (a8 : Value) (y0 : Int32) (M : xM) (Q : Option Value → xM → Prop), y0 = 0 ∨ y0 = 1 → xW xSC 18 80 [.ref a0, .ref a1, .ref a2, .int a3, .int a4, .int a5, a6, a7, a8] ([.int y0]) M Q = Q (some (.int y0)) M) :=
  ⟨fun a0 a1 a2 a3 a4 a5 a6 a7 a8 st M Q => xw_s rfl rfl,
  fun a0 a1 a2 a3 a4 a5 a6 a7 a8 y0 st M Q => xw_s rfl rfl,
  fun a0 a1 a2 a3 a4 a5 a6 a7 a8 st M Q => xw_s rfl rfl,
  fun a0 a1 a2 a3 a4 a5 a6 a7 a8 st M Q => xw_s rfl rfl,
  fun a0 a1 a2 a3 a4 a5 a6 a7 a8 y0 y1 st M Q => xw_brn (c0 := y0 ≤ y1) (c1 := y1 < y0) rfl rfl (xge _ _),
  fun a0 a1 a2 a3 a4 a5 a6 a7 a8 st M Q => xw_s rfl rfl,
  fun a0 a1 a2 a3 a4 a5 a6 a7 a8 st M Q => xw_s rfl rfl,
  fun a0 a1 a2 a3 a4 a5 a6 a7 a8 st M Q => xw_s rfl rfl,
  fun a0 a1 a2 a3 a4 a5 a6 a7 a8 y0 y1 M Q => xw_call rfl rfl rfl,
  fun a0 a1 a2 a3 a4 a5 a6 a7 a8 y0 st M Q => xw_s rfl rfl,
  fun a0 a1 a2 a3 a4 a5 a6 a7 a8 st M Q => xw_s rfl rfl,
  fun a0 a1 a2 a3 a4 a5 a6 a7 a8 st M Q => xw_s rfl rfl,
  fun a0 a1 a2 a3 a4 a5 a6 a7 a8 st M Q => xw_s rfl rfl,
  fun a0 a1 a2 a3 a4 a5 a6 a7 a8 y0 y1 M Q => xw_call rfl rfl rfl,
  fun a0 a1 a2 a3 a4 a5 a6 a7 a8 y0 st M Q => xw_s rfl rfl,
  fun a0 a1 a2 a3 a4 a5 a6 a7 a8 st M Q => xw_s rfl rfl,
  fun a0 a1 a2 a3 a4 a5 a6 a7 a8 st M Q => xw_s rfl rfl,
  fun a0 a1 a2 a3 a4 a5 a6 a7 a8 st M Q => xw_s rfl rfl,
  fun a0 a1 a2 a3 a4 a5 a6 a7 a8 st M Q => xw_s rfl rfl,
  fun a0 a1 a2 a3 a4 a5 a6 a7 a8 st M Q => xw_s rfl rfl,
  fun a0 a1 a2 a3 a4 a5 a6 a7 a8 y0 y1 y2 y3 y4 M Q => xw_call rfl rfl rfl,
  fun a0 a1 a2 a3 a4 a5 a6 a7 a8 st M Q => xw_s rfl rfl,
  fun a0 a1 a2 a3 a4 a5 a6 a7 a8 st M Q => xw_s rfl rfl,
  fun a0 a1 a2 a3 a4 a5 a6 a7 a8 st M Q => xw_s rfl rfl,
  fun a0 a1 a2 a3 a4 a5 a6 a7 a8 y0 y1 y2 M Q => xw_call rfl rfl rfl,
  fun a0 a1 a2 a3 a4 a5 a6 a7 a8 y0 y1 st M Q => xw_s rfl rfl,
  fun a0 a1 a2 a3 a4 a5 a6 a7 a8 y0 st M Q => xw_s rfl rfl,
  fun a0 a1 a2 a3 a4 a5 a6 a7 a8 st M Q => xw_s rfl rfl,
  fun a0 a1 a2 a3 a4 a5 a6 a7 a8 st M Q => xw_s rfl rfl,
  fun a0 a1 a2 a3 a4 a5 a6 a7 a8 y0 y1 st M Q => xw_br (c0 := y0 < y1) rfl rfl,
  fun a0 a1 a2 a3 a4 a5 a6 a7 a8 st M Q => xw_s rfl rfl,
  fun a0 a1 a2 a3 a4 a5 a6 a7 a8 st M Q => xw_s rfl rfl,
  fun a0 a1 a2 a3 a4 a5 a6 a7 a8 y0 st M Q => xw_s rfl rfl,
  fun a0 a1 a2 a3 a4 a5 a6 a7 a8 y0 y1 st M Q => xw_brn (c0 := y0 ≤ y1) (c1 := y1 < y0) rfl rfl (xge _ _),
  fun a0 a1 a2 a3 a4 a5 a6 a7 a8 y0 M Q h0 => xw_retz rfl rfl h0,
  fun a0 a1 a2 a3 a4 a5 a6 a7 a8 st M Q => xw_s rfl rfl,
  fun a0 a1 a2 a3 a4 a5 a6 a7 a8 st M Q => xw_s rfl rfl,
  fun a0 a1 a2 a3 a4 a5 a6 a7 a8 st M Q => xw_s rfl rfl,
  fun a0 a1 a2 a3 a4 a5 a6 a7 a8 y0 M Q h0 => xw_retz rfl rfl h0⟩
set_option maxRecDepth 20000 in
theorem h18_3 :
  (∀ (a0 : Nat) (a1 : Nat) (a2 : Nat) (a3 : Int32) (a4 : Int32) (a5 : Int32) (a6 : Value) (a7 : Value) (a8 : Value) (st : List Value) (M : xM) (Q : Option Value → xM → Prop), xW xSC 18 3 [.ref a0, .ref a1, .ref a2, .int a3, .int a4, .int a5, a6, a7, a8] (st) M Q = xW xSC 18 5 [.ref a0, .ref a1, .ref a2, .int a3, .int a4, .int a5, a6, a7, a8] (.int a5 :: st) M Q) :=
  fun a0 a1 a2 a3 a4 a5 a6 a7 a8 st M Q => xw_s rfl rfl
set_option maxRecDepth 20000 in
theorem h18_71 :
  (∀ (a0 : Nat) (a1 : Nat) (a2 : Nat) (a3 : Int32) (a4 : Int32) (a5 : Int32) (a6 : Int32) (a7 : Int32) (a8 : Int32) (st : List Value) (M : xM) (Q : Option Value → xM → Prop), xW xSC 18 71 [.ref a0, .ref a1, .ref a2, .int a3, .int a4, .int a5, .int a6, .int a7, .int a8] (st) M Q = xW xSC 18 72 [.ref a0, .ref a1, .ref a2, .int a3, .int a4, .int a5, .int a6, .int a7, .int a8] (.int (nI 0) :: st) M Q) :=
  fun a0 a1 a2 a3 a4 a5 a6 a7 a8 st M Q => xw_s rfl rfl
set_option maxRecDepth 20000 in
theorem j18 :
  (∀ (a0 : Nat) (a1 : Nat) (a2 : Nat) (a3 : Int32) (a4 : Int32) (a5 : Int32) (a6 : Int32) (a7 : Int32) (a8 : Int32) (st : List Value) (M : xM) (Q : Option Value → xM → Prop), xW xSC 18 71 [.ref a0, .ref a1, .ref a2, .int a3, .int a4, .int a5, .int a6, .int a7, .int a8] (st) M Q = xW xSC 18 72 [.ref a0, .ref a1, .ref a2, .int a3, .int a4, .int a5, .int a6, .int a7, .int a8] (.int (nI 0) :: st) M Q) :=
  fun a0 a1 a2 a3 a4 a5 a6 a7 a8 st M Q => xw_s rfl rfl

set_option maxRecDepth 20000 in
theorem s19 :
  (∀ (a0 : Nat) (a1 : Nat) (a2 : Int32) (a3 : Int32) (a4 : Int32) (a5 : Value) (a6 : Value) (a7 : Value) (st : List Value) (M : xM) (Q : Option Value → xM → Prop), xW xSC 19 0 [.ref a0, .ref a1, .int a2, .int a3, .int a4, a5, a6, a7] (st) M Q = xW xSC 19 1 [.ref a0, .ref a1, .int a2, .int a3, .int a4, a5, a6, a7] (.ref a0 :: st) M Q) ∧
  (∀ (a0 : Nat) (a1 : Nat) (a2 : Int32) (a3 : Int32) (a4 : Int32) (a5 : Value) (a6 : Value) (a7 : Value) (st : List Value) (M : xM) (Q : Option Value → xM → Prop), xW xSC 19 1 [.ref a0, .ref a1, .int a2, .int a3, .int a4, a5, a6, a7] (st) M Q = xW xSC 19 2 [.ref a0, .ref a1, .int a2, .int a3, .int a4, a5, a6, a7] (.int a2 :: st) M Q) ∧
  (∀ (a0 : Nat) (a1 : Nat) (a2 : Int32) (a3 : Int32) (a4 : Int32) (a5 : Value) (a6 : Value) (a7 : Value) (st : List Value) (M : xM) (Q : Option Value → xM → Prop), xW xSC 19 2 [.ref a0, .ref a1, .int a2, .int a3, .int a4, a5, a6, a7] (st) M Q = xW xSC 19 3 [.ref a0, .ref a1, .int a2, .int a3, .int a4, a5, a6, a7] (.int a3 :: st) M Q) ∧
  (∀ (a0 : Nat) (a1 : Nat) (a2 : Int32) (a3 : Int32) (a4 : Int32) (a5 : Value) (a6 : Value) (a7 : Value) (y0 : Int32) (y1 : Int32) (M : xM) (Q : Option Value → xM → Prop), xW xSC 19 3 [.ref a0, .ref a1, .int a2, .int a3, .int a4, a5, a6, a7] (.int y0 :: .int y1 :: .ref 9 :: []) M Q = xW xSC 36 0 [.ref 9, .int y1, .int y0] [] M (fun v M' => xW xSC 19 6 [.ref a0, .ref a1, .int a2, .int a3, .int a4, a5, a6, a7] (xpush v []) M' Q)) ∧
  (∀ (a0 : Nat) (a1 : Nat) (a2 : Int32) (a3 : Int32) (a4 : Int32) (a5 : Value) (a6 : Value) (a7 : Value) (y0 : Int32) (st : List Value) (M : xM) (Q : Option Value → xM → Prop), xW xSC 19 6 [.ref a0, .ref a1, .int a2, .int a3, .int a4, a5, a6, a7] (.int y0 :: st) M Q = xW xSC 19 8 [.ref a0, .ref a1, .int a2, .int a3, .int a4, .int y0, a6, a7] (st) M Q) ∧
  (∀ (a0 : Nat) (a1 : Nat) (a2 : Int32) (a3 : Int32) (a4 : Int32) (a5 : Int32) (a6 : Value) (a7 : Value) (st : List Value) (M : xM) (Q : Option Value → xM → Prop), xW xSC 19 8 [.ref a0, .ref a1, .int a2, .int a3, .int a4, .int a5, a6, a7] (st) M Q = xW xSC 19 9 [.ref a0, .ref a1, .int a2, .int a3, .int a4, .int a5, a6, a7] (.ref a1 :: st) M Q) ∧
  (∀ (a0 : Nat) (a1 : Nat) (a2 : Int32) (a3 : Int32) (a4 : Int32) (a5 : Int32) (a6 : Value) (a7 : Value) (st : List Value) (M : xM) (Q : Option Value → xM → Prop), xW xSC 19 9 [.ref a0, .ref a1, .int a2, .int a3, .int a4, .int a5, a6, a7] (st) M Q = xW xSC 19 10 [.ref a0, .ref a1, .int a2, .int a3, .int a4, .int a5, a6, a7] (.ref a0 :: st) M Q) ∧
  (∀ (a0 : Nat) (a1 : Nat) (a2 : Int32) (a3 : Int32) (a4 : Int32) (a5 : Int32) (a6 : Value) (a7 : Value) (st : List Value) (M : xM) (Q : Option Value → xM → Prop), xW xSC 19 10 [.ref a0, .ref a1, .int a2, .int a3, .int a4, .int a5, a6, a7] (st) M Q = xW xSC 19 11 [.ref a0, .ref a1, .int a2, .int a3, .int a4, .int a5, a6, a7] (.ref a0 :: st) M Q) ∧
  (∀ (a0 : Nat) (a1 : Nat) (a2 : Int32) (a3 : Int32) (a4 : Int32) (a5 : Int32) (a6 : Value) (a7 : Value) (st : List Value) (M : xM) (Q : Option Value → xM → Prop), xW xSC 19 11 [.ref a0, .ref a1, .int a2, .int a3, .int a4, .int a5, a6, a7] (st) M Q = xW xSC 19 12 [.ref a0, .ref a1, .int a2, .int a3, .int a4, .int a5, a6, a7] (.int a2 :: st) M Q) ∧
  (∀ (a0 : Nat) (a1 : Nat) (a2 : Int32) (a3 : Int32) (a4 : Int32) (a5 : Int32) (a6 : Value) (a7 : Value) (st : List Value) (M : xM) (Q : Option Value → xM → Prop), xW xSC 19 12 [.ref a0, .ref a1, .int a2, .int a3, .int a4, .int a5, a6, a7] (st) M Q = xW xSC 19 13 [.ref a0, .ref a1, .int a2, .int a3, .int a4, .int a5, a6, a7] (.int a3 :: st) M Q) ∧
  (∀ (a0 : Nat) (a1 : Nat) (a2 : Int32) (a3 : Int32) (a4 : Int32) (a5 : Int32) (a6 : Value) (a7 : Value) (y0 : Int32) (y1 : Int32) (y3 : Nat) (y4 : Nat) (M : xM) (Q : Option Value → xM → Prop), xW xSC 19 13 [.ref a0, .ref a1, .int a2, .int a3, .int a4, .int a5, a6, a7] (.int y0 :: .int y1 :: .ref 9 :: .ref y3 :: .ref y4 :: []) M Q = xW xSC 37 0 [.ref 9, .int y1, .int y0] [] M (fun v M' => xW xSC 19 16 [.ref a0, .ref a1, .int a2, .int a3, .int a4, .int a5, a6, a7] (xpush v [.ref y3, .ref y4]) M' Q)) ∧
  (∀ (a0 : Nat) (a1 : Nat) (a2 : Int32) (a3 : Int32) (a4 : Int32) (a5 : Int32) (a6 : Value) (a7 : Value) (st : List Value) (M : xM) (Q : Option Value → xM → Prop), xW xSC 19 16 [.ref a0, .ref a1, .int a2, .int a3, .int a4, .int a5, a6, a7] (st) M Q = xW xSC 19 18 [.ref a0, .ref a1, .int a2, .int a3, .int a4, .int a5, a6, a7] (.int a5 :: st) M Q) ∧
  (∀ (a0 : Nat) (a1 : Nat) (a2 : Int32) (a3 : Int32) (a4 : Int32) (a5 : Int32) (a6 : Value) (a7 : Value) (st : List Value) (M : xM) (Q : Option Value → xM → Prop), xW xSC 19 18 [.ref a0, .ref a1, .int a2, .int a3, .int a4, .int a5, a6, a7] (st) M Q = xW xSC 19 20 [.ref a0, .ref a1, .int a2, .int a3, .int a4, .int a5, a6, a7] (.int (-2) :: st) M Q) ∧
  (∀ (a0 : Nat) (a1 : Nat) (a2 : Int32) (a3 : Int32) (a4 : Int32) (a5 : Int32) (a6 : Value) (a7 : Value) (y0 : Int32) (y1 : Int32) (st : List Value) (M : xM) (Q : Option Value → xM → Prop), xW xSC 19 20 [.ref a0, .ref a1, .int a2, .int a3, .int a4, .int a5, a6, a7] (.int y0 :: .int y1 :: st) M Q = xW xSC 19 21 [.ref a0, .ref a1, .int a2, .int a3, .int a4, .int a5, a6, a7] (.int (y1 &&& y0) :: st) M Q) ∧
  (∀ (a0 : Nat) (a1 : Nat) (a2 : Int32) (a3 : Int32) (a4 : Int32) (a5 : Int32) (a6 : Value) (a7 : Value) (st : List Value) (M : xM) (Q : Option Value → xM → Prop), xW xSC 19 21 [.ref a0, .ref a1, .int a2, .int a3, .int a4, .int a5, a6, a7] (st) M Q = xW xSC 19 22 [.ref a0, .ref a1, .int a2, .int a3, .int a4, .int a5, a6, a7] (.ref a0 :: st) M Q) ∧
  (∀ (a0 : Nat) (a1 : Nat) (a2 : Int32) (a3 : Int32) (a4 : Int32) (a5 : Int32) (a6 : Value) (a7 : Value) (st : List Value) (M : xM) (Q : Option Value → xM → Prop), xW xSC 19 22 [.ref a0, .ref a1, .int a2, .int a3, .int a4, .int a5, a6, a7] (st) M Q = xW xSC 19 23 [.ref a0, .ref a1, .int a2, .int a3, .int a4, .int a5, a6, a7] (.int a2 :: st) M Q) ∧
  (∀ (a0 : Nat) (a1 : Nat) (a2 : Int32) (a3 : Int32) (a4 : Int32) (a5 : Int32) (a6 : Value) (a7 : Value) (st : List Value) (M : xM) (Q : Option Value → xM → Prop), xW xSC 19 23 [.ref a0, .ref a1, .int a2, .int a3, .int a4, .int a5, a6, a7] (st) M Q = xW xSC 19 24 [.ref a0, .ref a1, .int a2, .int a3, .int a4, .int a5, a6, a7] (.int (nI 1) :: st) M Q) ∧
  (∀ (a0 : Nat) (a1 : Nat) (a2 : Int32) (a3 : Int32) (a4 : Int32) (a5 : Int32) (a6 : Value) (a7 : Value) (st : List Value) (M : xM) (Q : Option Value → xM → Prop), xW xSC 19 24 [.ref a0, .ref a1, .int a2, .int a3, .int a4, .int a5, a6, a7] (st) M Q = xW xSC 19 25 [.ref a0, .ref a1, .int a2, .int a3, .int a4, .int a5, a6, a7] (.int a3 :: st) M Q) ∧
  (∀ (a0 : Nat) (a1 : Nat) (a2 : Int32) (a3 : Int32) (a4 : Int32) (a5 : Int32) (a6 : Value) (a7 : Value) (y0 : Int32) (y1 : Int32) (st : List Value) (M : xM) (Q : Option Value → xM → Prop), xW xSC 19 25 [.ref a0, .ref a1, .int a2, .int a3, .int a4, .int a5, a6, a7] (.int y0 :: .int y1 :: st) M Q = xW xSC 19 26 [.ref a0, .ref a1, .int a2, .int a3, .int a4, .int a5, a6, a7] (.int (y1 - y0) :: st) M Q) ∧
  (∀ (a0 : Nat) (a1 : Nat) (a2 : Int32) (a3 : Int32) (a4 : Int32) (a5 : Int32) (a6 : Value) (a7 : Value) (y0 : Int32) (y1 : Int32) (y3 : Int32) (y4 : Int32) (y5 : Nat) (y6 : Nat) (M : xM) (Q : Option Value → xM → Prop), xW xSC 19 26 [.ref a0, .ref a1, .int a2, .int a3, .int a4, .int a5, a6, a7] (.int y0 :: .int y1 :: .ref 9 :: .int y3 :: .int y4 :: .ref y5 :: .ref y6 :: []) M Q = xW xSC 36 0 [.ref 9, .int y1, .int y0] [] M (fun v M' => xW xSC 19 29 [.ref a0, .ref a1, .int a2, .int a3, .int a4, .int a5, a6, a7] (xpush v [.int y3, .int y4, .ref y5, .ref y6]) M' Q)) ∧
  (∀ (a0 : Nat) (a1 : Nat) (a2 : Int32) (a3 : Int32) (a4 : Int32) (a5 : Int32) (a6 : Value) (a7 : Value) (y0 : Int32) (y1 : Int32) (y2 : Int32) (y3 : Nat) (M : xM) (Q : Option Value → xM → Prop), xW xSC 19 29 [.ref a0, .ref a1, .int a2, .int a3, .int a4, .int a5, a6, a7] (.int y0 :: .int y1 :: .int y2 :: .ref y3 :: .ref 33 :: []) M Q = xW xSC 45 0 [.ref 33, .ref y3, .int y2, .int y1, .int y0, .null] [] M (fun v M' => xW xSC 19 32 [.ref a0, .ref a1, .int a2, .int a3, .int a4, .int a5, a6, a7] (xpush v []) M' Q)) ∧
  (∀ (a0 : Nat) (a1 : Nat) (a2 : Int32) (a3 : Int32) (a4 : Int32) (a5 : Int32) (a6 : Value) (a7 : Value) (st : List Value) (M : xM) (Q : Option Value → xM → Prop), xW xSC 19 32 [.ref a0, .ref a1, .int a2, .int a3, .int a4, .int a5, a6, a7] (st) M Q = xW xSC 19 33 [.ref a0, .ref a1, .int a2, .int a3, .int a4, .int a5, a6, a7] (.ref a1 :: st) M Q) ∧
  (∀ (a0 : Nat) (a1 : Nat) (a2 : Int32) (a3 : Int32) (a4 : Int32) (a5 : Int32) (a6 : Value) (a7 : Value) (st : List Value) (M : xM) (Q : Option Value → xM → Prop), xW xSC 19 33 [.ref a0, .ref a1, .int a2, .int a3, .int a4, .int a5, a6, a7] (.ref 33 :: st) M Q = xW xSC 19 36 [.ref a0, .ref a1, .int a2, .int a3, .int a4, .int a5, a6, a7] (.int (M 33 1) :: st) M Q) ∧
  (∀ (a0 : Nat) (a1 : Nat) (a2 : Int32) (a3 : Int32) (a4 : Int32) (a5 : Int32) (a6 : Value) (a7 : Value) (st : List Value) (M : xM) (Q : Option Value → xM → Prop), xW xSC 19 36 [.ref a0, .ref a1, .int a2, .int a3, .int a4, .int a5, a6, a7] (st) M Q = xW xSC 19 38 [.ref a0, .ref a1, .int a2, .int a3, .int a4, .int a5, a6, a7] (.int a5 :: st) M Q) ∧
  (∀ (a0 : Nat) (a1 : Nat) (a2 : Int32) (a3 : Int32) (a4 : Int32) (a5 : Int32) (a6 : Value) (a7 : Value) (st : List Value) (M : xM) (Q : Option Value → xM → Prop), xW xSC 19 38 [.ref a0, .ref a1, .int a2, .int a3, .int a4, .int a5, a6, a7] (st) M Q = xW xSC 19 39 [.ref a0, .ref a1, .int a2, .int a3, .int a4, .int a5, a6, a7] (.int (nI 1) :: st) M Q) ∧
  (∀ (a0 : Nat) (a1 : Nat) (a2 : Int32) (a3 : Int32) (a4 : Int32) (a5 : Int32) (a6 : Value) (a7 : Value) (y0 : Int32) (y1 : Int32) (st : List Value) (M : xM) (Q : Option Value → xM → Prop), xW xSC 19 39 [.ref a0, .ref a1, .int a2, .int a3, .int a4, .int a5, a6, a7] (.int y0 :: .int y1 :: st) M Q = xW xSC 19 40 [.ref a0, .ref a1, .int a2, .int a3, .int a4, .int a5, a6, a7] (.int (y1 &&& y0) :: st) M Q) ∧
  (∀ (a0 : Nat) (a1 : Nat) (a2 : Int32) (a3 : Int32) (a4 : Int32) (a5 : Int32) (a6 : Value) (a7 : Value) (y0 : Int32) (st : List Value) (M : xM) (Q : Option Value → xM → Prop), xW xSC 19 40 [.ref a0, .ref a1, .int a2, .int a3, .int a4, .int a5, a6, a7] (.int y0 :: st) M Q = if y0 = nI 0 then xW xSC 19 48 [.ref a0, .ref a1, .int a2, .int a3, .int a4, .int a5, a6, a7] (st) M Q else xW xSC 19 43 [.ref a0, .ref a1, .int a2, .int a3, .int a4, .int a5, a6, a7] (st) M Q) ∧
  (∀ (a0 : Nat) (a1 : Nat) (a2 : Int32) (a3 : Int32) (a4 : Int32) (a5 : Int32) (a6 : Value) (a7 : Value) (st : List Value) (M : xM) (Q : Option Value → xM → Prop), xW xSC 19 43 [.ref a0, .ref a1, .int a2, .int a3, .int a4, .int a5, a6, a7] (st) M Q = xW xSC 19 45 [.ref a0, .ref a1, .int a2, .int a3, .int a4, .int a5, a6, a7] (.int a4 :: st) M Q) ∧
  (∀ (a0 : Nat) (a1 : Nat) (a2 : Int32) (a3 : Int32) (a4 : Int32) (a5 : Int32) (a6 : Value) (a7 : Value) (st : List Value) (M : xM) (Q : Option Value → xM → Prop), xW xSC 19 45 [.ref a0, .ref a1, .int a2, .int a3, .int a4, .int a5, a6, a7] (st) M Q = xW xSC 19 49 [.ref a0, .ref a1, .int a2, .int a3, .int a4, .int a5, a6, a7] (st) M Q) ∧
  (∀ (a0 : Nat) (a1 : Nat) (a2 : Int32) (a3 : Int32) (a4 : Int32) (a5 : Int32) (a6 : Value) (a7 : Value) (st : List Value) (M : xM) (Q : Option Value → xM → Prop), xW xSC 19 48 [.ref a0, .ref a1, .int a2, .int a3, .int a4, .int a5, a6, a7] (st) M Q = xW xSC 19 49 [.ref a0, .ref a1, .int a2, .int a3, .int a4, .int a5, a6, a7] (.int (nI 0) :: st) M Q) ∧
  (∀ (a0 : Nat) (a1 : Nat) (a2 : Int32) (a3 : Int32) (a4 : Int32) (a5 : Int32) (a6 : Value) (a7 : Value) (y0 : Int32) (st : List Value) (M : xM) (Q : Option Value → xM → Prop), xW xSC 19 50 [.ref a0, .ref a1, .int a2, .int a3, .int a4, .int a5, a6, a7] (.int y0 :: st) M Q = xW xSC 19 52 [.ref a0, .ref a1, .int a2, .int a3, .int a4, .int a5, .int y0, a7] (st) M Q) ∧
  (∀ (a0 : Nat) (a1 : Nat) (a2 : Int32) (a3 : Int32) (a4 : Int32) (a5 : Int32) (a6 : Int32) (a7 : Value) (st : List Value) (M : xM) (Q : Option Value → xM → Prop), xW xSC 19 52 [.ref a0, .ref a1, .int a2, .int a3, .int a4, .int a5, .int a6, a7] (st) M Q = xW xSC 19 53 [.ref a0, .ref a1, .int a2, .int a3, .int a4, .int a5, .int a6, a7] (.ref a1 :: st) M Q) ∧
  (∀ (a0 : Nat) (a1 : Nat) (a2 : Int32) (a3 : Int32) (a4 : Int32) (a5 : Int32) (a6 : Int32) (a7 : Value) (st : List Value) (M : xM) (Q : Option Value → xM → Prop), xW xSC 19 53 [.ref a0, .ref a1, .int a2, .int a3, .int a4, .int a5, .int a6, a7] (.ref 33 :: st) M Q = xW xSC 19 56 [.ref a0, .ref a1, .int a2, .int a3, .int a4, .int a5, .int a6, a7] (.int (M 33 0) :: st) M Q) ∧
  (∀ (a0 : Nat) (a1 : Nat) (a2 : Int32) (a3 : Int32) (a4 : Int32) (a5 : Int32) (a6 : Int32) (a7 : Value) (st : List Value) (M : xM) (Q : Option Value → xM → Prop), xW xSC 19 56 [.ref a0, .ref a1, .int a2, .int a3, .int a4, .int a5, .int a6, a7] (st) M Q = xW xSC 19 58 [.ref a0, .ref a1, .int a2, .int a3, .int a4, .int a5, .int a6, a7] (.int a6 :: st) M Q) ∧
  (∀ (a0 : Nat) (a1 : Nat) (a2 : Int32) (a3 : Int32) (a4 : Int32) (a5 : Int32) (a6 : Int32) (a7 : Value) (y0 : Int32) (y1 : Int32) (st : List Value) (M : xM) (Q : Option Value → xM → Prop), xW xSC 19 58 [.ref a0, .ref a1, .int a2, .int a3, .int a4, .int a5, .int a6, a7] (.int y0 :: .int y1 :: st) M Q = xW xSC 19 59 [.ref a0, .ref a1, .int a2, .int a3, .int a4, .int a5, .int a6, a7] (.int (y1 + y0) :: st) M Q) ∧
  (∀ (a0 : Nat) (a1 : Nat) (a2 : Int32) (a3 : Int32) (a4 : Int32) (a5 : Int32) (a6 : Int32) (a7 : Value) (y0 : Int32) (st : List Value) (M : xM) (Q : Option Value → xM → Prop), xW xSC 19 59 [.ref a0, .ref a1, .int a2, .int a3, .int a4, .int a5, .int a6, a7] (.int y0 :: st) M Q = xW xSC 19 61 [.ref a0, .ref a1, .int a2, .int a3, .int a4, .int a5, .int a6, .int y0] (st) M Q) ∧
  (∀ (a0 : Nat) (a1 : Nat) (a2 : Int32) (a3 : Int32) (a4 : Int32) (a5 : Int32) (a6 : Int32) (a7 : Int32) (st : List Value) (M : xM) (Q : Option Value → xM → Prop), xW xSC 19 61 [.ref a0, .ref a1, .int a2, .int a3, .int a4, .int a5, .int a6, .int a7] (st) M Q = xW xSC 19 63 [.ref a0, .ref a1, .int a2, .int a3, .int a4, .int a5, .int a6, .int a7] (.int a7 :: st) M Q) ∧
  (∀ (a0 : Nat) (a1 : Nat) (a2 : Int32) (a3 : Int32) (a4 : Int32) (a5 : Int32) (a6 : Int32) (a7 : Int32) (y0 : Int32) (st : List Value) (M : xM) (Q : Option Value → xM → Prop), xW xSC 19 63 [.ref a0, .ref a1, .int a2, .int a3, .int a4, .int a5, .int a6, .int a7] (.int y0 :: st) M Q = if nI 0 < y0 then xW xSC 19 66 [.ref a0, .ref a1, .int a2, .int a3, .int a4, .int a5, .int a6, .int a7] (st) M Q else xW xSC 19 77 [.ref a0, .ref a1, .int a2, .int a3, .int a4, .int a5, .int a6, .int a7] (st) M Q) ∧
  (∀ (a0 : Nat) (a1 : Nat) (a2 : Int32) (a3 : Int32) (a4 : Int32) (a5 : Int32) (a6 : Int32) (a7 : Int32) (st : List Value) (M : xM) (Q : Option Value → xM → Prop), xW xSC 19 66 [.ref a0, .ref a1, .int a2, .int a3, .int a4, .int a5, .int a6, .int a7] (st) M Q = xW xSC 19 68 [.ref a0, .ref a1, .int a2, .int a3, .int a4, .int a5, .int a6, .int a7] (.int a6 :: st) M Q) ∧
  (∀ (a0 : Nat) (a1 : Nat) (a2 : Int32) (a3 : Int32) (a4 : Int32) (a5 : Int32) (a6 : Int32) (a7 : Int32) (st : List Value) (M : xM) (Q : Option Value → xM → Prop), xW xSC 19 68 [.ref a0, .ref a1, .int a2, .int a3, .int a4, .int a5, .int a6, .int a7] (st) M Q = xW xSC 19 70 [.ref a0, .ref a1, .int a2, .int a3, .int a4, .int a5, .int a6, .int a7] (.int (nI 100) :: st) M Q) ∧
  (∀ (a0 : Nat) (a1 : Nat) (a2 : Int32) (a3 : Int32) (a4 : Int32) (a5 : Int32) (a6 : Int32) (a7 : Int32) (y0 : Int32) (y1 : Int32) (st : List Value) (M : xM) (Q : Option Value → xM → Prop), xW xSC 19 70 [.ref a0, .ref a1, .int a2, .int a3, .int a4, .int a5, .int a6, .int a7] (.int y0 :: .int y1 :: st) M Q = xW xSC 19 71 [.ref a0, .ref a1, .int a2, .int a3, .int a4, .int a5, .int a6, .int a7] (.int (y1 * y0) :: st) M Q) ∧
  (∀ (a0 : Nat) (a1 : Nat) (a2 : Int32) (a3 : Int32) (a4 : Int32) (a5 : Int32) (a6 : Int32) (a7 : Int32) (st : List Value) (M : xM) (Q : Option Value → xM → Prop), xW xSC 19 71 [.ref a0, .ref a1, .int a2, .int a3, .int a4, .int a5, .int a6, .int a7] (st) M Q = xW xSC 19 73 [.ref a0, .ref a1, .int a2, .int a3, .int a4, .int a5, .int a6, .int a7] (.int a7 :: st) M Q) ∧
  (∀ (a0 : Nat) (a1 : Nat) (a2 : Int32) (a3 : Int32) (a4 : Int32) (a5 : Int32) (a6 : Int32) (a7 : Int32) (y0 : Nat) (y1 : Int32) (st : List Value) (M : xM) (Q : Option Value → xM → Prop), 0 < y0 → y0 < 2 ^ 31 → xW xSC 19 73 [.ref a0, .ref a1, .int a2, .int a3, .int a4, .int a5, .int a6, .int a7] (.int (nI y0) :: .int y1 :: st) M Q = xW xSC 19 74 [.ref a0, .ref a1, .int a2, .int a3, .int a4, .int a5, .int a6, .int a7] (.int (y1 / nI y0) :: st) M Q) ∧
  (∀ (a0 : Nat) (a1 : Nat) (a2 : Int32) (a3 : Int32) (a4 : Int32) (a5 : Int32) (a6 : Int32) (a7 : Int32) (st : List Value) (M : xM) (Q : Option Value → xM → Prop), xW xSC 19 74 [.ref a0, .ref a1, .int a2, .int a3, .int a4, .int a5, .int a6, .int a7] (st) M Q = xW xSC 19 78 [.ref a0, .ref a1, .int a2, .int a3, .int a4, .int a5, .int a6, .int a7] (st) M Q) ∧
  (∀ (a0 : Nat) (a1 : Nat) (a2 : Int32) (a3 : Int32) (a4 : Int32) (a5 : Int32) (a6 : Int32) (a7 : Int32) (st : List Value) (M : xM) (Q : Option Value → xM → Prop), xW xSC 19 77 [.ref a0, .ref a1, .int a2, .int a3, .int a4, .int a5, .int a6, .int a7] (st) M Q = xW xSC 19 78 [.ref a0, .ref a1, .int a2, .int a3, .int a4, .int a5, .int a6, .int a7] (.int (nI 0) :: st) M Q) :=
  ⟨fun a0 a1 a2 a3 a4 a5 a6 a7 st M Q => xw_s rfl rfl,
  fun a0 a1 a2 a3 a4 a5 a6 a7 st M Q => xw_s rfl rfl,
  fun a0 a1 a2 a3 a4 a5 a6 a7 st M Q => xw_s rfl rfl,
  fun a0 a1 a2 a3 a4 a5 a6 a7 y0 y1 M Q => xw_call rfl rfl rfl,
  fun a0 a1 a2 a3 a4 a5 a6 a7 y0 st M Q => xw_s rfl rfl,
  fun a0 a1 a2 a3 a4 a5 a6 a7 st M Q => xw_s rfl rfl,
  fun a0 a1 a2 a3 a4 a5 a6 a7 st M Q => xw_s rfl rfl,
  fun a0 a1 a2 a3 a4 a5 a6 a7 st M Q => xw_s rfl rfl,
  fun a0 a1 a2 a3 a4 a5 a6 a7 st M Q => xw_s rfl rfl,
  fun a0 a1 a2 a3 a4 a5 a6 a7 st M Q => xw_s rfl rfl,
  fun a0 a1 a2 a3 a4 a5 a6 a7 y0 y1 y3 y4 M Q => xw_call rfl rfl rfl,
  fun a0 a1 a2 a3 a4 a5 a6 a7 st M Q => xw_s rfl rfl,
  fun a0 a1 a2 a3 a4 a5 a6 a7 st M Q => xw_s rfl rfl,
  fun a0 a1 a2 a3 a4 a5 a6 a7 y0 y1 st M Q => xw_s rfl rfl,
  fun a0 a1 a2 a3 a4 a5 a6 a7 st M Q => xw_s rfl rfl,
  fun a0 a1 a2 a3 a4 a5 a6 a7 st M Q => xw_s rfl rfl,
  fun a0 a1 a2 a3 a4 a5 a6 a7 st M Q => xw_s rfl rfl,
  fun a0 a1 a2 a3 a4 a5 a6 a7 st M Q => xw_s rfl rfl,
  fun a0 a1 a2 a3 a4 a5 a6 a7 y0 y1 st M Q => xw_s rfl rfl,
  fun a0 a1 a2 a3 a4 a5 a6 a7 y0 y1 y3 y4 y5 y6 M Q => xw_call rfl rfl rfl,
  fun a0 a1 a2 a3 a4 a5 a6 a7 y0 y1 y2 y3 M Q => xw_call rfl rfl rfl,
  fun a0 a1 a2 a3 a4 a5 a6 a7 st M Q => xw_s rfl rfl,
  fun a0 a1 a2 a3 a4 a5 a6 a7 st M Q => xw_s rfl rfl,
  fun a0 a1 a2 a3 a4 a5 a6 a7 st M Q => xw_s rfl rfl,
  fun a0 a1 a2 a3 a4 a5 a6 a7 st M Q => xw_s rfl rfl,
  fun a0 a1 a2 a3 a4 a5 a6 a7 y0 y1 st M Q => xw_s rfl rfl,
  fun a0 a1 a2 a3 a4 a5 a6 a7 y0 st M Q => xw_br (c0 := y0 = nI 0) rfl rfl,
  fun a0 a1 a2 a3 a4 a5 a6 a7 st M Q => xw_s rfl rfl,
  fun a0 a1 a2 a3 a4 a5 a6 a7 st M Q => xw_s rfl rfl,
  fun a0 a1 a2 a3 a4 a5 a6 a7 st M Q => xw_s rfl rfl,
  fun a0 a1 a2 a3 a4 a5 a6 a7 y0 st M Q => xw_s rfl rfl,
  fun a0 a1 a2 a3 a4 a5 a6 a7 st M Q => xw_s rfl rfl,
  fun a0 a1 a2 a3 a4 a5 a6 a7 st M Q => xw_s rfl rfl,
  fun a0 a1 a2 a3 a4 a5 a6 a7 st M Q => xw_s rfl rfl,
  fun a0 a1 a2 a3 a4 a5 a6 a7 y0 y1 st M Q => xw_s rfl rfl,
  fun a0 a1 a2 a3 a4 a5 a6 a7 y0 st M Q => xw_s rfl rfl,
  fun a0 a1 a2 a3 a4 a5 a6 a7 st M Q => xw_s rfl rfl,
  fun a0 a1 a2 a3 a4 a5 a6 a7 y0 st M Q => xw_brn (c0 := y0 ≤ nI 0) (c1 := nI 0 < y0) rfl rfl (xge _ _),
  fun a0 a1 a2 a3 a4 a5 a6 a7 st M Q => xw_s rfl rfl,
  fun a0 a1 a2 a3 a4 a5 a6 a7 st M Q => xw_s rfl rfl,
  fun a0 a1 a2 a3 a4 a5 a6 a7 y0 y1 st M Q => xw_s rfl rfl,
  fun a0 a1 a2 a3 a4 a5 a6 a7 st M Q => xw_s rfl rfl,
  fun a0 a1 a2 a3 a4 a5 a6 a7 y0 y1 st M Q h0 h1 => xw_div (f := fun x y => x / y) rfl rfl (nI_ne0 h0 h1),
  fun a0 a1 a2 a3 a4 a5 a6 a7 st M Q => xw_s rfl rfl,
  fun a0 a1 a2 a3 a4 a5 a6 a7 st M Q => xw_s rfl rfl⟩
set_option maxRecDepth 20000 in
theorem h19_49 :
  (∀ (a0 : Nat) (a1 : Nat) (a2 : Int32) (a3 : Int32) (a4 : Int32) (a5 : Int32) (a6 : Value) (a7 : Value) (y0 : Int32) (y1 : Int32) (st : List Value) (M : xM) (Q : Option Value → xM → Prop), xW xSC 19 49 [.ref a0, .ref a1, .int a2, .int a3, .int a4, .int a5, a6, a7] (.int y0 :: .int y1 :: st) M Q = xW xSC 19 50 [.ref a0, .ref a1, .int a2, .int a3, .int a4, .int a5, a6, a7] (.int (y1 + y0) :: st) M Q) :=
  fun a0 a1 a2 a3 a4 a5 a6 a7 y0 y1 st M Q => xw_s rfl rfl
set_option maxRecDepth 20000 in
theorem h19_78 :
  (∀ (a0 : Nat) (a1 : Nat) (a2 : Int32) (a3 : Int32) (a4 : Int32) (a5 : Int32) (a6 : Int32) (a7 : Int32) (y0 : Int32) (M : xM) (Q : Option Value → xM → Prop), xW xSC 19 78 [.ref a0, .ref a1, .int a2, .int a3, .int a4, .int a5, .int a6, .int a7] ([.int y0]) M Q = Q (some (.int y0)) M) :=
  fun a0 a1 a2 a3 a4 a5 a6 a7 y0 M Q => xw_ret rfl rfl
set_option maxRecDepth 20000 in
theorem j19 :
  (∀ (a0 : Nat) (a1 : Nat) (a2 : Int32) (a3 : Int32) (a4 : Int32) (a5 : Int32) (a6 : Value) (a7 : Value) (y0 : Int32) (y1 : Int32) (st : List Value) (M : xM) (Q : Option Value → xM → Prop), xW xSC 19 49 [.ref a0, .ref a1, .int a2, .int a3, .int a4, .int a5, a6, a7] (.int y0 :: .int y1 :: st) M Q = xW xSC 19 50 [.ref a0, .ref a1, .int a2, .int a3, .int a4, .int a5, a6, a7] (.int (y1 + y0) :: st) M Q) ∧
  (∀ (a0 : Nat) (a1 : Nat) (a2 : Int32) (a3 : Int32) (a4 : Int32) (a5 : Int32) (a6 : Int32) (a7 : Int32) (y0 : Int32) (M : xM) (Q : Option Value → xM → Prop), xW xSC 19 78 [.ref a0, .ref a1, .int a2, .int a3, .int a4, .int a5, .int a6, .int a7] ([.int y0]) M Q = Q (some (.int y0)) M) :=
  ⟨fun a0 a1 a2 a3 a4 a5 a6 a7 y0 y1 st M Q => xw_s rfl rfl,
  fun a0 a1 a2 a3 a4 a5 a6 a7 y0 M Q => xw_ret rfl rfl⟩

set_option maxRecDepth 20000 in
theorem s21 :
  (∀ (a0 : Nat) (a1 : Value) (st : List Value) (M : xM) (Q : Option Value → xM → Prop), xW xSC 21 0 [.ref a0, a1] (st) M Q = xW xSC 21 1 [.ref a0, a1] (.ref a0 :: st) M Q) ∧
  (∀ (a0 : Nat) (a1 : Value) (st : List Value) (M : xM) (Q : Option Value → xM → Prop), xW xSC 21 1 [.ref a0, a1] (st) M Q = xW xSC 21 2 [.ref a0, a1] (.int (nI 3) :: st) M Q) ∧
  (∀ (a0 : Nat) (a1 : Value) (y0 : Int32) (st : List Value) (M : xM) (Q : Option Value → xM → Prop), xW xSC 21 2 [.ref a0, a1] (.int y0 :: .ref 4 :: st) M Q = xW xSC 21 5 [.ref a0, a1] (st) (xup M 4 0 y0) Q) ∧
  (∀ (a0 : Nat) (a1 : Value) (st : List Value) (M : xM) (Q : Option Value → xM → Prop), xW xSC 21 5 [.ref a0, a1] (st) M Q = xW xSC 21 6 [.ref a0, a1] (.ref a0 :: st) M Q) ∧
  (∀ (a0 : Nat) (a1 : Value) (st : List Value) (M : xM) (Q : Option Value → xM → Prop), xW xSC 21 6 [.ref a0, a1] (st) M Q = xW xSC 21 7 [.ref a0, a1] (.int (nI 0) :: st) M Q) ∧
  (∀ (a0 : Nat) (a1 : Value) (y0 : Int32) (st : List Value) (M : xM) (Q : Option Value → xM → Prop), xW xSC 21 7 [.ref a0, a1] (.int y0 :: .ref 4 :: st) M Q = xW xSC 21 10 [.ref a0, a1] (st) (xup M 4 1 y0) Q) ∧
  (∀ (a0 : Nat) (a1 : Value) (st : List Value) (M : xM) (Q : Option Value → xM → Prop), xW xSC 21 10 [.ref a0, a1] (st) M Q = xW xSC 21 11 [.ref a0, a1] (.ref a0 :: st) M Q) ∧
  (∀ (a0 : Nat) (a1 : Value) (st : List Value) (M : xM) (Q : Option Value → xM → Prop), xW xSC 21 11 [.ref a0, a1] (st) M Q = xW xSC 21 12 [.ref a0, a1] (.int (nI 0) :: st) M Q) ∧
  (∀ (a0 : Nat) (a1 : Value) (y0 : Int32) (st : List Value) (M : xM) (Q : Option Value → xM → Prop), xW xSC 21 12 [.ref a0, a1] (.int y0 :: .ref 4 :: st) M Q = xW xSC 21 15 [.ref a0, a1] (st) (xup M 4 2 y0) Q) ∧
  (∀ (a0 : Nat) (a1 : Value) (st : List Value) (M : xM) (Q : Option Value → xM → Prop), xW xSC 21 15 [.ref a0, a1] (st) M Q = xW xSC 21 16 [.ref a0, a1] (.ref a0 :: st) M Q) ∧
  (∀ (a0 : Nat) (a1 : Value) (st : List Value) (M : xM) (Q : Option Value → xM → Prop), xW xSC 21 16 [.ref a0, a1] (st) M Q = xW xSC 21 17 [.ref a0, a1] (.int (nI 0) :: st) M Q) ∧
  (∀ (a0 : Nat) (a1 : Value) (st : List Value) (M : xM) (Q : Option Value → xM → Prop), xW xSC 21 17 [.ref a0, a1] (st) M Q = xW xSC 21 19 [.ref a0, a1] (.int (nI 6) :: st) M Q) ∧
  (∀ (a0 : Nat) (a1 : Value) (y0 : Int32) (y1 : Int32) (M : xM) (Q : Option Value → xM → Prop), xW xSC 21 19 [.ref a0, a1] (.int y0 :: .int y1 :: .ref 4 :: []) M Q = xW xSC 35 0 [.ref 4, .int y1, .int y0] [] M (fun v M' => xW xSC 21 22 [.ref a0, a1] (xpush v []) M' Q)) ∧
  (∀ (a0 : Nat) (a1 : Value) (st : List Value) (M : xM) (Q : Option Value → xM → Prop), xW xSC 21 22 [.ref a0, a1] (st) M Q = xW xSC 21 23 [.ref a0, a1] (.ref a0 :: st) M Q) ∧
  (∀ (a0 : Nat) (a1 : Value) (st : List Value) (M : xM) (Q : Option Value → xM → Prop), xW xSC 21 23 [.ref a0, a1] (st) M Q = xW xSC 21 24 [.ref a0, a1] (.int (nI 1) :: st) M Q) ∧
  (∀ (a0 : Nat) (a1 : Value) (st : List Value) (M : xM) (Q : Option Value → xM → Prop), xW xSC 21 24 [.ref a0, a1] (st) M Q = xW xSC 21 26 [.ref a0, a1] (.int (nI 6) :: st) M Q) ∧
  (∀ (a0 : Nat) (a1 : Value) (y0 : Int32) (y1 : Int32) (M : xM) (Q : Option Value → xM → Prop), xW xSC 21 26 [.ref a0, a1] (.int y0 :: .int y1 :: .ref 4 :: []) M Q = xW xSC 35 0 [.ref 4, .int y1, .int y0] [] M (fun v M' => xW xSC 21 29 [.ref a0, a1] (xpush v []) M' Q)) ∧
  (∀ (a0 : Nat) (a1 : Value) (st : List Value) (M : xM) (Q : Option Value → xM → Prop), xW xSC 21 29 [.ref a0, a1] (st) M Q = xW xSC 21 30 [.ref a0, a1] (.ref a0 :: st) M Q) ∧
  (∀ (a0 : Nat) (a1 : Value) (st : List Value) (M : xM) (Q : Option Value → xM → Prop), xW xSC 21 30 [.ref a0, a1] (st) M Q = xW xSC 21 31 [.ref a0, a1] (.int (nI 2) :: st) M Q) ∧
  (∀ (a0 : Nat) (a1 : Value) (st : List Value) (M : xM) (Q : Option Value → xM → Prop), xW xSC 21 31 [.ref a0, a1] (st) M Q = xW xSC 21 32 [.ref a0, a1] (.int (nI 4) :: st) M Q) ∧
  (∀ (a0 : Nat) (a1 : Value) (y0 : Int32) (y1 : Int32) (M : xM) (Q : Option Value → xM → Prop), xW xSC 21 32 [.ref a0, a1] (.int y0 :: .int y1 :: .ref 4 :: []) M Q = xW xSC 35 0 [.ref 4, .int y1, .int y0] [] M (fun v M' => xW xSC 21 35 [.ref a0, a1] (xpush v []) M' Q)) ∧
  (∀ (a0 : Nat) (a1 : Value) (st : List Value) (M : xM) (Q : Option Value → xM → Prop), xW xSC 21 35 [.ref a0, a1] (st) M Q = xW xSC 21 36 [.ref a0, a1] (.ref a0 :: st) M Q) ∧
  (∀ (a0 : Nat) (a1 : Value) (st : List Value) (M : xM) (Q : Option Value → xM → Prop), xW xSC 21 36 [.ref a0, a1] (st) M Q = xW xSC 21 37 [.ref a0, a1] (.int (nI 3) :: st) M Q) ∧
  (∀ (a0 : Nat) (a1 : Value) (st : List Value) (M : xM) (Q : Option Value → xM → Prop), xW xSC 21 37 [.ref a0, a1] (st) M Q = xW xSC 21 38 [.ref a0, a1] (.int (nI 3) :: st) M Q) ∧
  (∀ (a0 : Nat) (a1 : Value) (y0 : Int32) (y1 : Int32) (M : xM) (Q : Option Value → xM → Prop), xW xSC 21 38 [.ref a0, a1] (.int y0 :: .int y1 :: .ref 4 :: []) M Q = xW xSC 35 0 [.ref 4, .int y1, .int y0] [] M (fun v M' => xW xSC 21 41 [.ref a0, a1] (xpush v []) M' Q)) ∧
  (∀ (a0 : Nat) (a1 : Value) (st : List Value) (M : xM) (Q : Option Value → xM → Prop), xW xSC 21 41 [.ref a0, a1] (st) M Q = xW xSC 21 42 [.ref a0, a1] (.ref a0 :: st) M Q) ∧
  (∀ (a0 : Nat) (a1 : Value) (st : List Value) (M : xM) (Q : Option Value → xM → Prop), xW xSC 21 42 [.ref a0, a1] (st) M Q = xW xSC 21 43 [.ref a0, a1] (.int (nI 4) :: st) M Q) ∧
  (∀ (a0 : Nat) (a1 : Value) (st : List Value) (M : xM) (Q : Option Value → xM → Prop), xW xSC 21 43 [.ref a0, a1] (st) M Q = xW xSC 21 44 [.ref a0, a1] (.int (nI 2) :: st) M Q) ∧
  (∀ (a0 : Nat) (a1 : Value) (y0 : Int32) (y1 : Int32) (M : xM) (Q : Option Value → xM → Prop), xW xSC 21 44 [.ref a0, a1] (.int y0 :: .int y1 :: .ref 4 :: []) M Q = xW xSC 35 0 [.ref 4, .int y1, .int y0] [] M (fun v M' => xW xSC 21 47 [.ref a0, a1] (xpush v []) M' Q)) ∧
  (∀ (a0 : Nat) (a1 : Value) (st : List Value) (M : xM) (Q : Option Value → xM → Prop), xW xSC 21 47 [.ref a0, a1] (st) M Q = xW xSC 21 48 [.ref a0, a1] (.ref a0 :: st) M Q) ∧
  (∀ (a0 : Nat) (a1 : Value) (st : List Value) (M : xM) (Q : Option Value → xM → Prop), xW xSC 21 48 [.ref a0, a1] (st) M Q = xW xSC 21 49 [.ref a0, a1] (.int (nI 5) :: st) M Q) ∧
  (∀ (a0 : Nat) (a1 : Value) (st : List Value) (M : xM) (Q : Option Value → xM → Prop), xW xSC 21 49 [.ref a0, a1] (st) M Q = xW xSC 21 50 [.ref a0, a1] (.int (nI 2) :: st) M Q) ∧
  (∀ (a0 : Nat) (a1 : Value) (y0 : Int32) (y1 : Int32) (M : xM) (Q : Option Value → xM → Prop), xW xSC 21 50 [.ref a0, a1] (.int y0 :: .int y1 :: .ref 4 :: []) M Q = xW xSC 35 0 [.ref 4, .int y1, .int y0] [] M (fun v M' => xW xSC 21 53 [.ref a0, a1] (xpush v []) M' Q)) ∧
  (∀ (a0 : Nat) (a1 : Value) (st : List Value) (M : xM) (Q : Option Value → xM → Prop), xW xSC 21 53 [.ref a0, a1] (st) M Q = xW xSC 21 55 [.ref a0, a1] (.int (nI 6) :: st) M Q) ∧
  (∀ (a0 : Nat) (a1 : Value) (y0 : Int32) (st : List Value) (M : xM) (Q : Option Value → xM → Prop), xW xSC 21 55 [.ref a0, a1] (.int y0 :: st) M Q = xW xSC 21 56 [.ref a0, .int y0] (st) M Q) ∧
  (∀ (a0 : Nat) (a1 : Int32) (st : List Value) (M : xM) (Q : Option Value → xM → Prop), xW xSC 21 57 [.ref a0, .int a1] (st) M Q = xW xSC 21 59 [.ref a0, .int a1] (.int (nI 10) :: st) M Q) ∧
  (∀ (a0 : Nat) (a1 : Int32) (y0 : Int32) (y1 : Int32) (st : List Value) (M : xM) (Q : Option Value → xM → Prop), xW xSC 21 59 [.ref a0, .int a1] (.int y0 :: .int y1 :: st) M Q = if y1 < y0 then xW xSC 21 62 [.ref a0, .int a1] (st) M Q else xW xSC 21 74 [.ref a0, .int a1] (st) M Q) ∧
  (∀ (a0 : Nat) (a1 : Int32) (st : List Value) (M : xM) (Q : Option Value → xM → Prop), xW xSC 21 62 [.ref a0, .int a1] (st) M Q = xW xSC 21 63 [.ref a0, .int a1] (.ref a0 :: st) M Q) ∧
  (∀ (a0 : Nat) (a1 : Int32) (st : List Value) (M : xM) (Q : Option Value → xM → Prop), xW xSC 21 63 [.ref a0, .int a1] (st) M Q = xW xSC 21 64 [.ref a0, .int a1] (.int a1 :: st) M Q) ∧
  (∀ (a0 : Nat) (a1 : Int32) (st : List Value) (M : xM) (Q : Option Value → xM → Prop), xW xSC 21 64 [.ref a0, .int a1] (st) M Q = xW xSC 21 65 [.ref a0, .int a1] (.int (nI 3) :: st) M Q) ∧
  (∀ (a0 : Nat) (a1 : Int32) (y0 : Int32) (y1 : Int32) (M : xM) (Q : Option Value → xM → Prop), xW xSC 21 65 [.ref a0, .int a1] (.int y0 :: .int y1 :: .ref 4 :: []) M Q = xW xSC 35 0 [.ref 4, .int y1, .int y0] [] M (fun v M' => xW xSC 21 68 [.ref a0, .int a1] (xpush v []) M' Q)) ∧
  (∀ (a0 : Nat) (a1 : Int32) (st : List Value) (M : xM) (Q : Option Value → xM → Prop), xW xSC 21 68 [.ref a0, .int a1] (st) M Q = xW xSC 21 71 [.ref a0, .int (a1 + nI 1)] (st) M Q) ∧
  (∀ (a0 : Nat) (a1 : Int32) (st : List Value) (M : xM) (Q : Option Value → xM → Prop), xW xSC 21 71 [.ref a0, .int a1] (st) M Q = xW xSC 21 56 [.ref a0, .int a1] (st) M Q) ∧
  (∀ (a0 : Nat) (a1 : Int32) (st : List Value) (M : xM) (Q : Option Value → xM → Prop), xW xSC 21 74 [.ref a0, .int a1] (st) M Q = xW xSC 21 75 [.ref a0, .int a1] (.ref a0 :: st) M Q) ∧
  (∀ (a0 : Nat) (a1 : Int32) (st : List Value) (M : xM) (Q : Option Value → xM → Prop), xW xSC 21 75 [.ref a0, .int a1] (.ref 4 :: st) M Q = xW xSC 21 78 [.ref a0, .int a1] (.ref 5 :: st) M Q) ∧
  (∀ (a0 : Nat) (a1 : Int32) (st : List Value) (M : xM) (Q : Option Value → xM → Prop), xW xSC 21 78 [.ref a0, .int a1] (st) M Q = xW xSC 21 79 [.ref a0, .int a1] (.int (nI 0) :: st) M Q) ∧
  (∀ (a0 : Nat) (a1 : Int32) (y0 : Int32) (y1 : Nat) (M : xM) (Q : Option Value → xM → Prop), xW xSC 21 79 [.ref a0, .int a1] (.int y0 :: .ref y1 :: []) M Q = xW xSC 3 0 [.ref y1, .int y0, .null] [] M (fun v M' => xW xSC 21 82 [.ref a0, .int a1] (xpush v []) M' Q)) ∧
  (∀ (a0 : Nat) (a1 : Int32) (st : List Value) (M : xM) (Q : Option Value → xM → Prop), xW xSC 21 82 [.ref a0, .int a1] (st) M Q = xW xSC 21 83 [.ref a0, .int a1] (.ref a0 :: st) M Q) ∧
  (∀ (a0 : Nat) (a1 : Int32) (st : List Value) (M : xM) (Q : Option Value → xM → Prop), xW xSC 21 83 [.ref a0, .int a1] (.ref 4 :: st) M Q = xW xSC 21 86 [.ref a0, .int a1] (.ref 6 :: st) M Q) ∧
  (∀ (a0 : Nat) (a1 : Int32) (st : List Value) (M : xM) (Q : Option Value → xM → Prop), xW xSC 21 86 [.ref a0, .int a1] (st) M Q = xW xSC 21 87 [.ref a0, .int a1] (.int (nI 0) :: st) M Q) ∧
  (∀ (a0 : Nat) (a1 : Int32) (y0 : Int32) (y1 : Nat) (M : xM) (Q : Option Value → xM → Prop), xW xSC 21 87 [.ref a0, .int a1] (.int y0 :: .ref y1 :: []) M Q = xW xSC 3 0 [.ref y1, .int y0, .null] [] M (fun v M' => xW xSC 21 90 [.ref a0, .int a1] (xpush v []) M' Q)) ∧
  (∀ (a0 : Nat) (a1 : Int32) (st : List Value) (M : xM) (Q : Option Value → xM → Prop), xW xSC 21 90 [.ref a0, .int a1] (st) M Q = xW xSC 21 91 [.ref a0, .int a1] (.ref a0 :: st) M Q) ∧
  (∀ (a0 : Nat) (a1 : Int32) (st : List Value) (M : xM) (Q : Option Value → xM → Prop), xW xSC 21 91 [.ref a0, .int a1] (.ref 4 :: st) M Q = xW xSC 21 94 [.ref a0, .int a1] (.ref 7 :: st) M Q) ∧
  (∀ (a0 : Nat) (a1 : Int32) (st : List Value) (M : xM) (Q : Option Value → xM → Prop), xW xSC 21 94 [.ref a0, .int a1] (st) M Q = xW xSC 21 95 [.ref a0, .int a1] (.int (nI 0) :: st) M Q) ∧
  (∀ (a0 : Nat) (a1 : Int32) (y0 : Int32) (y1 : Nat) (M : xM) (Q : Option Value → xM → Prop), xW xSC 21 95 [.ref a0, .int a1] (.int y0 :: .ref y1 :: []) M Q = xW xSC 3 0 [.ref y1, .int y0, .null] [] M (fun v M' => xW xSC 21 98 [.ref a0, .int a1] (xpush v []) M' Q)) ∧
  (∀ (a0 : Nat) (a1 : Int32) (M : xM) (Q : Option Value → xM → Prop), xW xSC 21 98 [.ref a0, .int a1] ([]) M Q = Q none M) ∧
  (∀ (a0 : Nat) (a1 : Value) (y0 : Int32) (st : List Value) (M : xM) (Q : Option Value → xM → Prop), xW xSC 21 2 [.ref a0, a1] (.int y0 :: .ref 9 :: st) M Q = xW xSC 21 5 [.ref a0, a1] (st) (xup M 9 0 y0) Q) ∧
  (∀ (a0 : Nat) (a1 : Value) (y0 : Int32) (st : List Value) (M : xM) (Q : Option Value → xM → Prop), xW xSC 21 7 [.ref a0, a1] (.int y0 :: .ref 9 :: st) M Q = xW xSC 21 10 [.ref a0, a1] (st) (xup M 9 1 y0) Q) ∧
  (∀ (a0 : Nat) (a1 : Value) (y0 : Int32) (st : List Value) (M : xM) (Q : Option Value → xM → Prop), xW xSC 21 12 [.ref a0, a1] (.int y0 :: .ref 9 :: st) M Q = xW xSC 21 15 [.ref a0, a1] (st) (xup M 9 2 y0) Q) ∧
  (∀ (a0 : Nat) (a1 : Value) (y0 : Int32) (y1 : Int32) (M : xM) (Q : Option Value → xM → Prop), xW xSC 21 19 [.ref a0, a1] (.int y0 :: .int y1 :: .ref 9 :: []) M Q = xW xSC 35 0 [.ref 9, .int y1, .int y0] [] M (fun v M' => xW xSC 21 22 [.ref a0, a1] (xpush v []) M' Q)) ∧
  (∀ (a0 : Nat) (a1 : Value) (y0 : Int32) (y1 : Int32) (M : xM) (Q : Option Value → xM → Prop), xW xSC 21 26 [.ref a0, a1] (.int y0 :: .int y1 :: .ref 9 :: []) M Q = xW xSC 35 0 [.ref 9, .int y1, .int y0] [] M (fun v M' => xW xSC 21 29 [.ref a0, a1] (xpush v []) M' Q)) ∧
  (∀ (a0 : Nat) (a1 : Value) (y0 : Int32) (y1 : Int32) (M : xM) (Q : Option Value → xM → Prop), xW xSC 21 32 [.ref a0, a1] (.int y0 :: .int y1 :: .ref 9 :: []) M Q = xW xSC 35 0 [.ref 9, .int y1, .int y0] [] M (fun v M' => xW xSC 21 35 [.ref a0, a1] (xpush v []) M' Q)) ∧
  (∀ (a0 : Nat) (a1 : Value) (y0 : Int32) (y1 : Int32) (M : xM) (Q : Option Value → xM → Prop), xW xSC 21 38 [.ref a0, a1] (.int y0 :: .int y1 :: .ref 9 :: []) M Q = xW xSC 35 0 [.ref 9, .int y1, .int y0] [] M (fun v M' => xW xSC 21 41 [.ref a0, a1] (xpush v []) M' Q)) ∧
  (∀ (a0 : Nat) (a1 : Value) (y0 : Int32) (y1 : Int32) (M : xM) (Q : Option Value → xM → Prop), xW xSC 21 44 [.ref a0, a1] (.int y0 :: .int y1 :: .ref 9 :: []) M Q = xW xSC 35 0 [.ref 9, .int y1, .int y0] [] M (fun v M' => xW xSC 21 47 [.ref a0, a1] (xpush v []) M' Q)) ∧
  (∀ (a0 : Nat) (a1 : Value) (y0 : Int32) (y1 : Int32) (M : xM) (Q : Option Value → xM → Prop), xW xSC 21 50 [.ref a0, a1] (.int y0 :: .int y1 :: .ref 9 :: []) M Q = xW xSC 35 0 [.ref 9, .int y1, .int y0] [] M (fun v M' => xW xSC 21 53 [.ref a0, a1] (xpush v []) M' Q)) ∧
  (∀ (a0 : Nat) (a1 : Int32) (y0 : Int32) (y1 : Int32) (M : xM) (Q : Option Value → xM → Prop), xW xSC 21 65 [.ref a0, .int a1] (.int y0 :: .int y1 :: .ref 9 :: []) M Q = xW xSC 35 0 [.ref 9, .int y1, .int y0] [] M (fun v M' => xW xSC 21 68 [.ref a0, .int a1] (xpush v []) M' Q)) ∧
  (∀ (a0 : Nat) (a1 : Int32) (st : List Value) (M : xM) (Q : Option Value → xM → Prop), xW xSC 21 75 [.ref a0, .int a1] (.ref 9 :: st) M Q = xW xSC 21 78 [.ref a0, .int a1] (.ref 10 :: st) M Q) ∧
  (∀ (a0 : Nat) (a1 : Int32) (st : List Value) (M : xM) (Q : Option Value → xM → Prop), xW xSC 21 83 [.ref a0, .int a1] (.ref 9 :: st) M Q = xW xSC 21 86 [.ref a0, .int a1] (.ref 11 :: st) M Q) ∧
  (∀ (a0 : Nat) (a1 : Int32) (st : List Value) (M : xM) (Q : Option Value → xM → Prop), xW xSC 21 91 [.ref a0, .int a1] (.ref 9 :: st) M Q = xW xSC 21 94 [.ref a0, .int a1] (.ref 12 :: st) M Q) :=
  ⟨fun a0 a1 st M Q => xw_s rfl rfl,
  fun a0 a1 st M Q => xw_s rfl rfl,
  fun a0 a1 y0 st M Q => xw_s rfl rfl,
  fun a0 a1 st M Q => xw_s rfl rfl,
  fun a0 a1 st M Q => xw_s rfl rfl,
  fun a0 a1 y0 st M Q => xw_s rfl rfl,
  fun a0 a1 st M Q => xw_s rfl rfl,
  fun a0 a1 st M Q => xw_s rfl rfl,
  fun a0 a1 y0 st M Q => xw_s rfl rfl,
  fun a0 a1 st M Q => xw_s rfl rfl,
  fun a0 a1 st M Q => xw_s rfl rfl,
  fun a0 a1 st M Q => xw_s rfl rfl,
  fun a0 a1 y0 y1 M Q => xw_call rfl rfl rfl,
  fun a0 a1 st M Q => xw_s rfl rfl,
  fun a0 a1 st M Q => xw_s rfl rfl,
  fun a0 a1 st M Q => xw_s rfl rfl,
  fun a0 a1 y0 y1 M Q => xw_call rfl rfl rfl,
  fun a0 a1 st M Q => xw_s rfl rfl,
  fun a0 a1 st M Q => xw_s rfl rfl,
  fun a0 a1 st M Q => xw_s rfl rfl,
  fun a0 a1 y0 y1 M Q => xw_call rfl rfl rfl,
  fun a0 a1 st M Q => xw_s rfl rfl,
  fun a0 a1 st M Q => xw_s rfl rfl,
  fun a0 a1 st M Q => xw_s rfl rfl,
  fun a0 a1 y0 y1 M Q => xw_call rfl rfl rfl,
  fun a0 a1 st M Q => xw_s rfl rfl,
  fun a0 a1 st M Q => xw_s rfl rfl,
  fun a0 a1 st M Q => xw_s rfl rfl,
  fun a0 a1 y0 y1 M Q => xw_call rfl rfl rfl,
  fun a0 a1 st M Q => xw_s rfl rfl,
  fun a0 a1 st M Q => xw_s rfl rfl,
  fun a0 a1 st M Q => xw_s rfl rfl,
  fun a0 a1 y0 y1 M Q => xw_call rfl rfl rfl,
  fun a0 a1 st M Q => xw_s rfl rfl,
  fun a0 a1 y0 st M Q => xw_s rfl rfl,
  fun a0 a1 st M Q => xw_s rfl rfl,
  fun a0 a1 y0 y1 st M Q => xw_brn (c0 := y0 ≤ y1) (c1 := y1 < y0) rfl rfl (xge _ _),
  fun a0 a1 st M Q => xw_s rfl rfl,
  fun a0 a1 st M Q => xw_s rfl rfl,
  fun a0 a1 st M Q => xw_s rfl rfl,
  fun a0 a1 y0 y1 M Q => xw_call rfl rfl rfl,
  fun a0 a1 st M Q => xw_s rfl rfl,
  fun a0 a1 st M Q => xw_s rfl rfl,
  fun a0 a1 st M Q => xw_s rfl rfl,
  fun a0 a1 st M Q => xw_s rfl rfl,
  fun a0 a1 st M Q => xw_s rfl rfl,
  fun a0 a1 y0 y1 M Q => xw_call rfl rfl rfl,
  fun a0 a1 st M Q => xw_s rfl rfl,
  fun a0 a1 st M Q => xw_s rfl rfl,
  fun a0 a1 st M Q => xw_s rfl rfl,
  fun a0 a1 y0 y1 M Q => xw_call rfl rfl rfl,
  fun a0 a1 st M Q => xw_s rfl rfl,
  fun a0 a1 st M Q => xw_s rfl rfl,
  fun a0 a1 st M Q => xw_s rfl rfl,
  fun a0 a1 y0 y1 M Q => xw_call rfl rfl rfl,
  fun a0 a1 M Q => xw_retv rfl rfl,
  fun a0 a1 y0 st M Q => xw_s rfl rfl,
  fun a0 a1 y0 st M Q => xw_s rfl rfl,
  fun a0 a1 y0 st M Q => xw_s rfl rfl,
  fun a0 a1 y0 y1 M Q => xw_call rfl rfl rfl,
  fun a0 a1 y0 y1 M Q => xw_call rfl rfl rfl,
  fun a0 a1 y0 y1 M Q => xw_call rfl rfl rfl,
  fun a0 a1 y0 y1 M Q => xw_call rfl rfl rfl,
  fun a0 a1 y0 y1 M Q => xw_call rfl rfl rfl,
  fun a0 a1 y0 y1 M Q => xw_call rfl rfl rfl,
  fun a0 a1 y0 y1 M Q => xw_call rfl rfl rfl,
  fun a0 a1 st M Q => xw_s rfl rfl,
  fun a0 a1 st M Q => xw_s rfl rfl,
  fun a0 a1 st M Q => xw_s rfl rfl⟩
set_option maxRecDepth 20000 in
theorem h21_56 :
  (∀ (a0 : Nat) (a1 : Int32) (st : List Value) (M : xM) (Q : Option Value → xM → Prop), xW xSC 21 56 [.ref a0, .int a1] (st) M Q = xW xSC 21 57 [.ref a0, .int a1] (.int a1 :: st) M Q) :=
  fun a0 a1 st M Q => xw_s rfl rfl
theorem j21 : True := trivial

set_option maxRecDepth 20000 in
theorem s22 :
  (∀ (a0 : Nat) (a1 : Nat) (st : List Value) (M : xM) (Q : Option Value → xM → Prop), xW xSC 22 0 [.ref a0, .ref a1] (st) M Q = xW xSC 22 1 [.ref a0, .ref a1] (.ref a0 :: st) M Q) ∧
  (∀ (a0 : Nat) (a1 : Nat) (st : List Value) (M : xM) (Q : Option Value → xM → Prop), xW xSC 22 1 [.ref a0, .ref a1] (st) M Q = xW xSC 22 2 [.ref a0, .ref a1] (.ref a1 :: st) M Q) ∧
  (∀ (a0 : Nat) (a1 : Nat) (st : List Value) (M : xM) (Q : Option Value → xM → Prop), xW xSC 22 2 [.ref a0, .ref a1] (.ref 4 :: st) M Q = xW xSC 22 5 [.ref a0, .ref a1] (.int (M 4 0) :: st) M Q) ∧
  (∀ (a0 : Nat) (a1 : Nat) (y0 : Int32) (st : List Value) (M : xM) (Q : Option Value → xM → Prop), xW xSC 22 5 [.ref a0, .ref a1] (.int y0 :: .ref 9 :: st) M Q = xW xSC 22 8 [.ref a0, .ref a1] (st) (xup M 9 0 y0) Q) ∧
  (∀ (a0 : Nat) (a1 : Nat) (st : List Value) (M : xM) (Q : Option Value → xM → Prop), xW xSC 22 8 [.ref a0, .ref a1] (st) M Q = xW xSC 22 9 [.ref a0, .ref a1] (.ref a0 :: st) M Q) ∧
  (∀ (a0 : Nat) (a1 : Nat) (st : List Value) (M : xM) (Q : Option Value → xM → Prop), xW xSC 22 9 [.ref a0, .ref a1] (st) M Q = xW xSC 22 10 [.ref a0, .ref a1] (.ref a1 :: st) M Q) ∧
  (∀ (a0 : Nat) (a1 : Nat) (st : List Value) (M : xM) (Q : Option Value → xM → Prop), xW xSC 22 10 [.ref a0, .ref a1] (.ref 4 :: st) M Q = xW xSC 22 13 [.ref a0, .ref a1] (.int (M 4 1) :: st) M Q) ∧
  (∀ (a0 : Nat) (a1 : Nat) (y0 : Int32) (st : List Value) (M : xM) (Q : Option Value → xM → Prop), xW xSC 22 13 [.ref a0, .ref a1] (.int y0 :: .ref 9 :: st) M Q = xW xSC 22 16 [.ref a0, .ref a1] (st) (xup M 9 1 y0) Q) ∧
  (∀ (a0 : Nat) (a1 : Nat) (st : List Value) (M : xM) (Q : Option Value → xM → Prop), xW xSC 22 16 [.ref a0, .ref a1] (st) M Q = xW xSC 22 17 [.ref a0, .ref a1] (.ref a0 :: st) M Q) ∧
  (∀ (a0 : Nat) (a1 : Nat) (st : List Value) (M : xM) (Q : Option Value → xM → Prop), xW xSC 22 17 [.ref a0, .ref a1] (st) M Q = xW xSC 22 18 [.ref a0, .ref a1] (.ref a1 :: st) M Q) ∧
  (∀ (a0 : Nat) (a1 : Nat) (st : List Value) (M : xM) (Q : Option Value → xM → Prop), xW xSC 22 18 [.ref a0, .ref a1] (.ref 4 :: st) M Q = xW xSC 22 21 [.ref a0, .ref a1] (.int (M 4 2) :: st) M Q) ∧
  (∀ (a0 : Nat) (a1 : Nat) (y0 : Int32) (st : List Value) (M : xM) (Q : Option Value → xM → Prop), xW xSC 22 21 [.ref a0, .ref a1] (.int y0 :: .ref 9 :: st) M Q = xW xSC 22 24 [.ref a0, .ref a1] (st) (xup M 9 2 y0) Q) ∧
  (∀ (a0 : Nat) (a1 : Nat) (st : List Value) (M : xM) (Q : Option Value → xM → Prop), xW xSC 22 24 [.ref a0, .ref a1] (st) M Q = xW xSC 22 25 [.ref a0, .ref a1] (.ref a1 :: st) M Q) ∧
  (∀ (a0 : Nat) (a1 : Nat) (st : List Value) (M : xM) (Q : Option Value → xM → Prop), xW xSC 22 25 [.ref a0, .ref a1] (.ref 4 :: st) M Q = xW xSC 22 28 [.ref a0, .ref a1] (.ref 5 :: st) M Q) ∧
  (∀ (a0 : Nat) (a1 : Nat) (st : List Value) (M : xM) (Q : Option Value → xM → Prop), xW xSC 22 28 [.ref a0, .ref a1] (st) M Q = xW xSC 22 29 [.ref a0, .ref a1] (.ref a0 :: st) M Q) ∧
  (∀ (a0 : Nat) (a1 : Nat) (st : List Value) (M : xM) (Q : Option Value → xM → Prop), xW xSC 22 29 [.ref a0, .ref a1] (.ref 9 :: st) M Q = xW xSC 22 32 [.ref a0, .ref a1] (.ref 10 :: st) M Q) ∧
  (∀ (a0 : Nat) (a1 : Nat) (y0 : Nat) (y1 : Nat) (M : xM) (Q : Option Value → xM → Prop), xW xSC 22 32 [.ref a0, .ref a1] (.ref y0 :: .ref y1 :: []) M Q = xW xSC 2 0 [.ref y1, .ref y0] [] M (fun v M' => xW xSC 22 35 [.ref a0, .ref a1] (xpush v []) M' Q)) ∧
  (∀ (a0 : Nat) (a1 : Nat) (st : List Value) (M : xM) (Q : Option Value → xM → Prop), xW xSC 22 35 [.ref a0, .ref a1] (st) M Q = xW xSC 22 36 [.ref a0, .ref a1] (.ref a1 :: st) M Q) ∧
  (∀ (a0 : Nat) (a1 : Nat) (st : List Value) (M : xM) (Q : Option Value → xM → Prop), xW xSC 22 36 [.ref a0, .ref a1] (.ref 4 :: st) M Q = xW xSC 22 39 [.ref a0, .ref a1] (.ref 6 :: st) M Q) ∧
  (∀ (a0 : Nat) (a1 : Nat) (st : List Value) (M : xM) (Q : Option Value → xM → Prop), xW xSC 22 39 [.ref a0, .ref a1] (st) M Q = xW xSC 22 40 [.ref a0, .ref a1] (.ref a0 :: st) M Q) ∧
  (∀ (a0 : Nat) (a1 : Nat) (st : List Value) (M : xM) (Q : Option Value → xM → Prop), xW xSC 22 40 [.ref a0, .ref a1] (.ref 9 :: st) M Q = xW xSC 22 43 [.ref a0, .ref a1] (.ref 11 :: st) M Q) ∧
  (∀ (a0 : Nat) (a1 : Nat) (y0 : Nat) (y1 : Nat) (M : xM) (Q : Option Value → xM → Prop), xW xSC 22 43 [.ref a0, .ref a1] (.ref y0 :: .ref y1 :: []) M Q = xW xSC 2 0 [.ref y1, .ref y0] [] M (fun v M' => xW xSC 22 46 [.ref a0, .ref a1] (xpush v []) M' Q)) ∧
  (∀ (a0 : Nat) (a1 : Nat) (st : List Value) (M : xM) (Q : Option Value → xM → Prop), xW xSC 22 46 [.ref a0, .ref a1] (st) M Q = xW xSC 22 47 [.ref a0, .ref a1] (.ref a1 :: st) M Q) ∧
  (∀ (a0 : Nat) (a1 : Nat) (st : List Value) (M : xM) (Q : Option Value → xM → Prop), xW xSC 22 47 [.ref a0, .ref a1] (.ref 4 :: st) M Q = xW xSC 22 50 [.ref a0, .ref a1] (.ref 7 :: st) M Q) ∧
  (∀ (a0 : Nat) (a1 : Nat) (st : List Value) (M : xM) (Q : Option Value → xM → Prop), xW xSC 22 50 [.ref a0, .ref a1] (st) M Q = xW xSC 22 51 [.ref a0, .ref a1] (.ref a0 :: st) M Q) ∧
  (∀ (a0 : Nat) (a1 : Nat) (st : List Value) (M : xM) (Q : Option Value → xM → Prop), xW xSC 22 51 [.ref a0, .ref a1] (.ref 9 :: st) M Q = xW xSC 22 54 [.ref a0, .ref a1] (.ref 12 :: st) M Q) ∧
  (∀ (a0 : Nat) (a1 : Nat) (y0 : Nat) (y1 : Nat) (M : xM) (Q : Option Value → xM → Prop), xW xSC 22 54 [.ref a0, .ref a1] (.ref y0 :: .ref y1 :: []) M Q = xW xSC 2 0 [.ref y1, .ref y0] [] M (fun v M' => xW xSC 22 57 [.ref a0, .ref a1] (xpush v []) M' Q)) ∧
  (∀ (a0 : Nat) (a1 : Nat) (st : List Value) (M : xM) (Q : Option Value → xM → Prop), xW xSC 22 57 [.ref a0, .ref a1] (st) M Q = xW xSC 22 58 [.ref a0, .ref a1] (.ref a1 :: st) M Q) ∧
  (∀ (a0 : Nat) (a1 : Nat) (st : List Value) (M : xM) (Q : Option Value → xM → Prop), xW xSC 22 58 [.ref a0, .ref a1] (.ref 4 :: st) M Q = xW xSC 22 61 [.ref a0, .ref a1] (.ref 8 :: st) M Q) ∧
  (∀ (a0 : Nat) (a1 : Nat) (st : List Value) (M : xM) (Q : Option Value → xM → Prop), xW xSC 22 61 [.ref a0, .ref a1] (st) M Q = xW xSC 22 62 [.ref a0, .ref a1] (.ref a0 :: st) M Q) ∧
  (∀ (a0 : Nat) (a1 : Nat) (st : List Value) (M : xM) (Q : Option Value → xM → Prop), xW xSC 22 62 [.ref a0, .ref a1] (.ref 9 :: st) M Q = xW xSC 22 65 [.ref a0, .ref a1] (.ref 13 :: st) M Q) ∧
  (∀ (a0 : Nat) (a1 : Nat) (y0 : Nat) (y1 : Nat) (M : xM) (Q : Option Value → xM → Prop), xW xSC 22 65 [.ref a0, .ref a1] (.ref y0 :: .ref y1 :: []) M Q = xW xSC 2 0 [.ref y1, .ref y0] [] M (fun v M' => xW xSC 22 68 [.ref a0, .ref a1] (xpush v []) M' Q)) ∧
  (∀ (a0 : Nat) (a1 : Nat) (M : xM) (Q : Option Value → xM → Prop), xW xSC 22 68 [.ref a0, .ref a1] ([]) M Q = Q none M) ∧
  (∀ (a0 : Nat) (a1 : Nat) (st : List Value) (M : xM) (Q : Option Value → xM → Prop), xW xSC 22 2 [.ref a0, .ref a1] (.ref 9 :: st) M Q = xW xSC 22 5 [.ref a0, .ref a1] (.int (M 9 0) :: st) M Q) ∧
  (∀ (a0 : Nat) (a1 : Nat) (y0 : Int32) (st : List Value) (M : xM) (Q : Option Value → xM → Prop), xW xSC 22 5 [.ref a0, .ref a1] (.int y0 :: .ref 14 :: st) M Q = xW xSC 22 8 [.ref a0, .ref a1] (st) (xup M 14 0 y0) Q) ∧
  (∀ (a0 : Nat) (a1 : Nat) (st : List Value) (M : xM) (Q : Option Value → xM → Prop), xW xSC 22 10 [.ref a0, .ref a1] (.ref 9 :: st) M Q = xW xSC 22 13 [.ref a0, .ref a1] (.int (M 9 1) :: st) M Q) ∧
  (∀ (a0 : Nat) (a1 : Nat) (y0 : Int32) (st : List Value) (M : xM) (Q : Option Value → xM → Prop), xW xSC 22 13 [.ref a0, .ref a1] (.int y0 :: .ref 14 :: st) M Q = xW xSC 22 16 [.ref a0, .ref a1] (st) (xup M 14 1 y0) Q) ∧
  (∀ (a0 : Nat) (a1 : Nat) (st : List Value) (M : xM) (Q : Option Value → xM → Prop), xW xSC 22 18 [.ref a0, .ref a1] (.ref 9 :: st) M Q = xW xSC 22 21 [.ref a0, .ref a1] (.int (M 9 2) :: st) M Q) ∧
  (∀ (a0 : Nat) (a1 : Nat) (y0 : Int32) (st : List Value) (M : xM) (Q : Option Value → xM → Prop), xW xSC 22 21 [.ref a0, .ref a1] (.int y0 :: .ref 14 :: st) M Q = xW xSC 22 24 [.ref a0, .ref a1] (st) (xup M 14 2 y0) Q) ∧
  (∀ (a0 : Nat) (a1 : Nat) (st : List Value) (M : xM) (Q : Option Value → xM → Prop), xW xSC 22 25 [.ref a0, .ref a1] (.ref 9 :: st) M Q = xW xSC 22 28 [.ref a0, .ref a1] (.ref 10 :: st) M Q) ∧
  (∀ (a0 : Nat) (a1 : Nat) (st : List Value) (M : xM) (Q : Option Value → xM → Prop), xW xSC 22 29 [.ref a0, .ref a1] (.ref 14 :: st) M Q = xW xSC 22 32 [.ref a0, .ref a1] (.ref 15 :: st) M Q) ∧
  (∀ (a0 : Nat) (a1 : Nat) (st : List Value) (M : xM) (Q : Option Value → xM → Prop), xW xSC 22 36 [.ref a0, .ref a1] (.ref 9 :: st) M Q = xW xSC 22 39 [.ref a0, .ref a1] (.ref 11 :: st) M Q) ∧
  (∀ (a0 : Nat) (a1 : Nat) (st : List Value) (M : xM) (Q : Option Value → xM → Prop), xW xSC 22 40 [.ref a0, .ref a1] (.ref 14 :: st) M Q = xW xSC 22 43 [.ref a0, .ref a1] (.ref 16 :: st) M Q) ∧
  (∀ (a0 : Nat) (a1 : Nat) (st : List Value) (M : xM) (Q : Option Value → xM → Prop), xW xSC 22 47 [.ref a0, .ref a1] (.ref 9 :: st) M Q = xW xSC 22 50 [.ref a0, .ref a1] (.ref 12 :: st) M Q) ∧
  (∀ (a0 : Nat) (a1 : Nat) (st : List Value) (M : xM) (Q : Option Value → xM → Prop), xW xSC 22 51 [.ref a0, .ref a1] (.ref 14 :: st) M Q = xW xSC 22 54 [.ref a0, .ref a1] (.ref 17 :: st) M Q) ∧
  (∀ (a0 : Nat) (a1 : Nat) (st : List Value) (M : xM) (Q : Option Value → xM → Prop), xW xSC 22 58 [.ref a0, .ref a1] (.ref 9 :: st) M Q = xW xSC 22 61 [.ref a0, .ref a1] (.ref 13 :: st) M Q) ∧
  (∀ (a0 : Nat) (a1 : Nat) (st : List Value) (M : xM) (Q : Option Value → xM → Prop), xW xSC 22 62 [.ref a0, .ref a1] (.ref 14 :: st) M Q = xW xSC 22 65 [.ref a0, .ref a1] (.ref 18 :: st) M Q) ∧
  (∀ (a0 : Nat) (a1 : Nat) (y0 : Int32) (st : List Value) (M : xM) (Q : Option Value → xM → Prop), xW xSC 22 5 [.ref a0, .ref a1] (.int y0 :: .ref 19 :: st) M Q = xW xSC 22 8 [.ref a0, .ref a1] (st) (xup M 19 0 y0) Q) ∧
  (∀ (a0 : Nat) (a1 : Nat) (y0 : Int32) (st : List Value) (M : xM) (Q : Option Value → xM → Prop), xW xSC 22 13 [.ref a0, .ref a1] (.int y0 :: .ref 19 :: st) M Q = xW xSC 22 16 [.ref a0, .ref a1] (st) (xup M 19 1 y0) Q) ∧
  (∀ (a0 : Nat) (a1 : Nat) (y0 : Int32) (st : List Value) (M : xM) (Q : Option Value → xM → Prop), xW xSC 22 21 [.ref a0, .ref a1] (.int y0 :: .ref 19 :: st) M Q = xW xSC 22 24 [.ref a0, .ref a1] (st) (xup M 19 2 y0) Q) ∧
  (∀ (a0 : Nat) (a1 : Nat) (st : List Value) (M : xM) (Q : Option Value → xM → Prop), xW xSC 22 29 [.ref a0, .ref a1] (.ref 19 :: st) M Q = xW xSC 22 32 [.ref a0, .ref a1] (.ref 20 :: st) M Q) ∧
  (∀ (a0 : Nat) (a1 : Nat) (st : List Value) (M : xM) (Q : Option Value → xM → Prop), xW xSC 22 40 [.ref a0, .ref a1] (.ref 19 :: st) M Q = xW xSC 22 43 [.ref a0, .ref a1] (.ref 21 :: st) M Q) ∧
  (∀ (a0 : Nat) (a1 : Nat) (st : List Value) (M : xM) (Q : Option Value → xM → Prop), xW xSC 22 51 [.ref a0, .ref a1] (.ref 19 :: st) M Q = xW xSC 22 54 [.ref a0, .ref a1] (.ref 22 :: st) M Q) ∧
  (∀ (a0 : Nat) (a1 : Nat) (st : List Value) (M : xM) (Q : Option Value → xM → Prop), xW xSC 22 62 [.ref a0, .ref a1] (.ref 19 :: st) M Q = xW xSC 22 65 [.ref a0, .ref a1] (.ref 23 :: st) M Q) ∧
  (∀ (a0 : Nat) (a1 : Nat) (st : List Value) (M : xM) (Q : Option Value → xM → Prop), xW xSC 22 2 [.ref a0, .ref a1] (.ref 14 :: st) M Q = xW xSC 22 5 [.ref a0, .ref a1] (.int (M 14 0) :: st) M Q) ∧
  (∀ (a0 : Nat) (a1 : Nat) (st : List Value) (M : xM) (Q : Option Value → xM → Prop), xW xSC 22 10 [.ref a0, .ref a1] (.ref 14 :: st) M Q = xW xSC 22 13 [.ref a0, .ref a1] (.int (M 14 1) :: st) M Q) ∧
  (∀ (a0 : Nat) (a1 : Nat) (st : List Value) (M : xM) (Q : Option Value → xM → Prop), xW xSC 22 18 [.ref a0, .ref a1] (.ref 14 :: st) M Q = xW xSC 22 21 [.ref a0, .ref a1] (.int (M 14 2) :: st) M Q) ∧
  (∀ (a0 : Nat) (a1 : Nat) (st : List Value) (M : xM) (Q : Option Value → xM → Prop), xW xSC 22 25 [.ref a0, .ref a1] (.ref 14 :: st) M Q = xW xSC 22 28 [.ref a0, .ref a1] (.ref 15 :: st) M Q) ∧
  (∀ (a0 : Nat) (a1 : Nat) (st : List Value) (M : xM) (Q : Option Value → xM → Prop), xW xSC 22 36 [.ref a0, .ref a1] (.ref 14 :: st) M Q = xW xSC 22 39 [.ref a0, .ref a1] (.ref 16 :: st) M Q) ∧
  (∀ (a0 : Nat) (a1 : Nat) (st : List Value) (M : xM) (Q : Option Value → xM → Prop), xW xSC 22 47 [.ref a0, .ref a1] (.ref 14 :: st) M Q = xW xSC 22 50 [.ref a0, .ref a1] (.ref 17 :: st) M Q) ∧
  (∀ (a0 : Nat) (a1 : Nat) (st : List Value) (M : xM) (Q : Option Value → xM → Prop), xW xSC 22 58 [.ref a0, .ref a1] (.ref 14 :: st) M Q = xW xSC 22 61 [.ref a0, .ref a1] (.ref 18 :: st) M Q) ∧
  (∀ (a0 : Nat) (a1 : Nat) (st : List Value) (M : xM) (Q : Option Value → xM → Prop), xW xSC 22 2 [.ref a0, .ref a1] (.ref 19 :: st) M Q = xW xSC 22 5 [.ref a0, .ref a1] (.int (M 19 0) :: st) M Q) ∧
  (∀ (a0 : Nat) (a1 : Nat) (st : List Value) (M : xM) (Q : Option Value → xM → Prop), xW xSC 22 10 [.ref a0, .ref a1] (.ref 19 :: st) M Q = xW xSC 22 13 [.ref a0, .ref a1] (.int (M 19 1) :: st) M Q) ∧
  (∀ (a0 : Nat) (a1 : Nat) (st : List Value) (M : xM) (Q : Option Value → xM → Prop), xW xSC 22 18 [.ref a0, .ref a1] (.ref 19 :: st) M Q = xW xSC 22 21 [.ref a0, .ref a1] (.int (M 19 2) :: st) M Q) ∧
  (∀ (a0 : Nat) (a1 : Nat) (st : List Value) (M : xM) (Q : Option Value → xM → Prop), xW xSC 22 25 [.ref a0, .ref a1] (.ref 19 :: st) M Q = xW xSC 22 28 [.ref a0, .ref a1] (.ref 20 :: st) M Q) ∧
  (∀ (a0 : Nat) (a1 : Nat) (st : List Value) (M : xM) (Q : Option Value → xM → Prop), xW xSC 22 36 [.ref a0, .ref a1] (.ref 19 :: st) M Q = xW xSC 22 39 [.ref a0, .ref a1] (.ref 21 :: st) M Q) ∧
  (∀ (a0 : Nat) (a1 : Nat) (st : List Value) (M : xM) (Q : Option Value → xM → Prop), xW xSC 22 47 [.ref a0, .ref a1] (.ref 19 :: st) M Q = xW xSC 22 50 [.ref a0, .ref a1] (.ref 22 :: st) M Q) ∧
  (∀ (a0 : Nat) (a1 : Nat) (st : List Value) (M : xM) (Q : Option Value → xM → Prop), xW xSC 22 58 [.ref a0, .ref a1] (.ref 19 :: st) M Q = xW xSC 22 61 [.ref a0, .ref a1] (.ref 23 :: st) M Q) :=
  ⟨fun a0 a1 st M Q => xw_s rfl rfl,
  fun a0 a1 st M Q => xw_s rfl rfl,
  fun a0 a1 st M Q => xw_s rfl rfl,
  fun a0 a1 y0 st M Q => xw_s rfl rfl,
  fun a0 a1 st M Q => xw_s rfl rfl,
  fun a0 a1 st M Q => xw_s rfl rfl,
  fun a0 a1 st M Q => xw_s rfl rfl,
  fun a0 a1 y0 st M Q => xw_s rfl rfl,
  fun a0 a1 st M Q => xw_s rfl rfl,
  fun a0 a1 st M Q => xw_s rfl rfl,
  fun a0 a1 st M Q => xw_s rfl rfl,
  fun a0 a1 y0 st M Q => xw_s rfl rfl,
  fun a0 a1 st M Q => xw_s rfl rfl,
  fun a0 a1 st M Q => xw_s rfl rfl,
  fun a0 a1 st M Q => xw_s rfl rfl,
  fun a0 a1 st M Q => xw_s rfl rfl,
  fun a0 a1 y0 y1 M Q => xw_call rfl rfl rfl,
  fun a0 a1 st M Q => xw_s rfl rfl,
  fun a0 a1 st M Q => xw_s rfl rfl,
  fun a0 a1 st M Q => xw_s rfl rfl,
  fun a0 a1 st M Q => xw_s rfl rfl,
  fun a0 a1 y0 y1 M Q => xw_call rfl rfl rfl,
  fun a0 a1 st M Q => xw_s rfl rfl,
  fun a0 a1 st M Q => xw_s rfl rfl,
  fun a0 a1 st M Q => xw_s rfl rfl,
  fun a0 a1 st M Q => xw_s rfl rfl,
  fun a0 a1 y0 y1 M Q => xw_call rfl rfl rfl,
  fun a0 a1 st M Q => xw_s rfl rfl,
  fun a0 a1 st M Q => xw_s rfl rfl,
  fun a0 a1 st M Q => xw_s rfl rfl,
  fun a0 a1 st M Q => xw_s rfl rfl,
  fun a0 a1 y0 y1 M Q => xw_call rfl rfl rfl,
  fun a0 a1 M Q => xw_retv rfl rfl,
  fun a0 a1 st M Q => xw_s rfl rfl,
  fun a0 a1 y0 st M Q => xw_s rfl rfl,
  fun a0 a1 st M Q => xw_s rfl rfl,
  fun a0 a1 y0 st M Q => xw_s rfl rfl,
  fun a0 a1 st M Q => xw_s rfl rfl,
  fun a0 a1 y0 st M Q => xw_s rfl rfl,
  fun a0 a1 st M Q => xw_s rfl rfl,
  fun a0 a1 st M Q => xw_s rfl rfl,
  fun a0 a1 st M Q => xw_s rfl rfl,
  fun a0 a1 st M Q => xw_s rfl rfl,
  fun a0 a1 st M Q => xw_s rfl rfl,
  fun a0 a1 st M Q => xw_s rfl rfl,
  fun a0 a1 st M Q => xw_s rfl rfl,
  fun a0 a1 st M Q => xw_s rfl rfl,
  fun a0 a1 y0 st M Q => xw_s rfl rfl,
  fun a0 a1 y0 st M Q => xw_s rfl rfl,
  fun a0 a1 y0 st M Q => xw_s rfl rfl,
  fun a0 a1 st M Q => xw_s rfl rfl,
  fun a0 a1 st M Q => xw_s rfl rfl,
  fun a0 a1 st M Q => xw_s rfl rfl,
  fun a0 a1 st M Q => xw_s rfl rfl,
  fun a0 a1 st M Q => xw_s rfl rfl,
  fun a0 a1 st M Q => xw_s rfl rfl,
  fun a0 a1 st M Q => xw_s rfl rfl,
  fun a0 a1 st M Q => xw_s rfl rfl,
  fun a0 a1 st M Q => xw_s rfl rfl,
  fun a0 a1 st M Q => xw_s rfl rfl,
  fun a0 a1 st M Q => xw_s rfl rfl,
  fun a0 a1 st M Q => xw_s rfl rfl,
  fun a0 a1 st M Q => xw_s rfl rfl,
  fun a0 a1 st M Q => xw_s rfl rfl,
  fun a0 a1 st M Q => xw_s rfl rfl,
  fun a0 a1 st M Q => xw_s rfl rfl,
  fun a0 a1 st M Q => xw_s rfl rfl,
  fun a0 a1 st M Q => xw_s rfl rfl⟩
theorem j22 : True := trivial

set_option maxRecDepth 20000 in
theorem s23 :
  (∀ (a0 : Nat) (a1 : Int32) (st : List Value) (M : xM) (Q : Option Value → xM → Prop), xW xSC 23 0 [.ref a0, .int a1] (st) M Q = xW xSC 23 1 [.ref a0, .int a1] (.int a1 :: st) M Q) ∧
  (∀ (a0 : Nat) (a1 : Int32) (y0 : Int32) (st : List Value) (M : xM) (Q : Option Value → xM → Prop), xW xSC 23 1 [.ref a0, .int a1] (.int y0 :: st) M Q = if y0 < nI 0 then xW xSC 23 16 [.ref a0, .int a1] (st) M Q else xW xSC 23 4 [.ref a0, .int a1] (st) M Q) ∧
  (∀ (a0 : Nat) (a1 : Int32) (st : List Value) (M : xM) (Q : Option Value → xM → Prop), xW xSC 23 4 [.ref a0, .int a1] (st) M Q = xW xSC 23 5 [.ref a0, .int a1] (.int a1 :: st) M Q) ∧
  (∀ (a0 : Nat) (a1 : Int32) (st : List Value) (M : xM) (Q : Option Value → xM → Prop), xW xSC 23 5 [.ref a0, .int a1] (st) M Q = xW xSC 23 6 [.ref a0, .int a1] (.ref a0 :: st) M Q) ∧
  (∀ (a0 : Nat) (a1 : Int32) (st : List Value) (M : xM) (Q : Option Value → xM → Prop), xW xSC 23 6 [.ref a0, .int a1] (.ref 4 :: st) M Q = xW xSC 23 9 [.ref a0, .int a1] (.int (M 4 0) :: st) M Q) ∧
  (∀ (a0 : Nat) (a1 : Int32) (y0 : Int32) (y1 : Int32) (st : List Value) (M : xM) (Q : Option Value → xM → Prop), xW xSC 23 9 [.ref a0, .int a1] (.int y0 :: .int y1 :: st) M Q = if y1 < y0 then xW xSC 23 12 [.ref a0, .int a1] (st) M Q else xW xSC 23 16 [.ref a0, .int a1] (st) M Q) ∧
  (∀ (a0 : Nat) (a1 : Int32) (st : List Value) (M : xM) (Q : Option Value → xM → Prop), xW xSC 23 12 [.ref a0, .int a1] (st) M Q = xW xSC 23 13 [.ref a0, .int a1] (.int (nI 1) :: st) M Q) ∧
  (∀ (a0 : Nat) (a1 : Int32) (st : List Value) (M : xM) (Q : Option Value → xM → Prop), xW xSC 23 13 [.ref a0, .int a1] (st) M Q = xW xSC 23 17 [.ref a0, .int a1] (st) M Q) ∧
  (∀ (a0 : Nat) (a1 : Int32) (st : List Value) (M : xM) (Q : Option Value → xM → Prop), xW xSC 23 6 [.ref a0, .int a1] (.ref 9 :: st) M Q = xW xSC 23 9 [.ref a0, .int a1] (.int (M 9 0) :: st) M Q) :=
  ⟨fun a0 a1 st M Q => xw_s rfl rfl,
  fun a0 a1 y0 st M Q => xw_br (c0 := y0 < nI 0) rfl rfl,
  fun a0 a1 st M Q => xw_s rfl rfl,
  fun a0 a1 st M Q => xw_s rfl rfl,
  fun a0 a1 st M Q => xw_s rfl rfl,
  fun a0 a1 y0 y1 st M Q => xw_brn (c0 := y0 ≤ y1) (c1 := y1 < y0) rfl rfl (xge _ _),
  fun a0 a1 st M Q => xw_s rfl rfl,
  fun a0 a1 st M Q => xw_s rfl rfl,
  fun a0 a1 st M Q => xw_s rfl rfl⟩
set_option maxRecDepth 20000 in
theorem h23_16 :
  (∀ (a0 : Nat) (a1 : Int32) (st : List Value) (M : xM) (Q : Option Value → xM → Prop), xW xSC 23 16 [.ref a0, .int a1] (st) M Q = xW xSC 23 17 [.ref a0, .int a1] (.int (nI 0) :: st) M Q) :=
  fun a0 a1 st M Q => xw_s rfl rfl
set_option maxRecDepth 20000 in
theorem h23_17 :
  (∀ (a0 : Nat) (a1 : Int32) (y0 : Int32) (M : xM) (Q : Option Value → xM → Prop), y0 = 0 ∨ y0 = 1 → xW xSC 23 17 [.ref a0, .int a1] ([.int y0]) M Q = Q (some (.int y0)) M) :=
  fun a0 a1 y0 M Q h0 => xw_retz rfl rfl h0
set_option maxRecDepth 20000 in
theorem j23 :
  (∀ (a0 : Nat) (a1 : Int32) (st : List Value) (M : xM) (Q : Option Value → xM → Prop), xW xSC 23 16 [.ref a0, .int a1] (st) M Q = xW xSC 23 17 [.ref a0, .int a1] (.int (nI 0) :: st) M Q) ∧
  (∀ (a0 : Nat) (a1 : Int32) (y0 : Int32) (M : xM) (Q : Option Value → xM → Prop), y0 = 0 ∨ y0 = 1 → xW xSC 23 17 [.ref a0, .int a1] ([.int y0]) M Q = Q (some (.int y0)) M) :=
  ⟨fun a0 a1 st M Q => xw_s rfl rfl,
  fun a0 a1 y0 M Q h0 => xw_retz rfl rfl h0⟩

set_option maxRecDepth 20000 in
theorem s24 :
  (∀ (a0 : Nat) (a1 : Int32) (st : List Value) (M : xM) (Q : Option Value → xM → Prop), xW xSC 24 0 [.ref a0, .int a1] (st) M Q = xW xSC 24 1 [.ref a0, .int a1] (.int a1 :: st) M Q) ∧
  (∀ (a0 : Nat) (a1 : Int32) (y0 : Int32) (st : List Value) (M : xM) (Q : Option Value → xM → Prop), xW xSC 24 1 [.ref a0, .int a1] (.int y0 :: st) M Q = if y0 < nI 0 then xW xSC 24 16 [.ref a0, .int a1] (st) M Q else xW xSC 24 4 [.ref a0, .int a1] (st) M Q) ∧
  (∀ (a0 : Nat) (a1 : Int32) (st : List Value) (M : xM) (Q : Option Value → xM → Prop), xW xSC 24 4 [.ref a0, .int a1] (st) M Q = xW xSC 24 5 [.ref a0, .int a1] (.int a1 :: st) M Q) ∧
  (∀ (a0 : Nat) (a1 : Int32) (st : List Value) (M : xM) (Q : Option Value → xM → Prop), xW xSC 24 5 [.ref a0, .int a1] (st) M Q = xW xSC 24 6 [.ref a0, .int a1] (.ref a0 :: st) M Q) ∧
  (∀ (a0 : Nat) (a1 : Int32) (st : List Value) (M : xM) (Q : Option Value → xM → Prop), xW xSC 24 6 [.ref a0, .int a1] (.ref 4 :: st) M Q = xW xSC 24 9 [.ref a0, .int a1] (.int (M 4 1) :: st) M Q) ∧
  (∀ (a0 : Nat) (a1 : Int32) (y0 : Int32) (y1 : Int32) (st : List Value) (M : xM) (Q : Option Value → xM → Prop), xW xSC 24 9 [.ref a0, .int a1] (.int y0 :: .int y1 :: st) M Q = if y1 < y0 then xW xSC 24 12 [.ref a0, .int a1] (st) M Q else xW xSC 24 16 [.ref a0, .int a1] (st) M Q) ∧
  (∀ (a0 : Nat) (a1 : Int32) (st : List Value) (M : xM) (Q : Option Value → xM → Prop), xW xSC 24 12 [.ref a0, .int a1] (st) M Q = xW xSC 24 13 [.ref a0, .int a1] (.int (nI 1) :: st) M Q) ∧
  (∀ (a0 : Nat) (a1 : Int32) (st : List Value) (M : xM) (Q : Option Value → xM → Prop), xW xSC 24 13 [.ref a0, .int a1] (st) M Q = xW xSC 24 17 [.ref a0, .int a1] (st) M Q) ∧
  (∀ (a0 : Nat) (a1 : Int32) (st : List Value) (M : xM) (Q : Option Value → xM → Prop), xW xSC 24 6 [.ref a0, .int a1] (.ref 9 :: st) M Q = xW xSC 24 9 [.ref a0, .int a1] (.int (M 9 1) :: st) M Q) :=
  ⟨fun a0 a1 st M Q => xw_s rfl rfl,
  fun a0 a1 y0 st M Q => xw_br (c0 := y0 < nI 0) rfl rfl,
  fun a0 a1 st M Q => xw_s rfl rfl,
  fun a0 a1 st M Q => xw_s rfl rfl,
  fun a0 a1 st M Q => xw_s rfl rfl,
  fun a0 a1 y0 y1 st M Q => xw_brn (c0 := y0 ≤ y1) (c1 := y1 < y0) rfl rfl (xge _ _),
  fun a0 a1 st M Q => xw_s rfl rfl,
  fun a0 a1 st M Q => xw_s rfl rfl,
  fun a0 a1 st M Q => xw_s rfl rfl⟩
set_option maxRecDepth 20000 in
theorem h24_16 :
  (∀ (a0 : Nat) (a1 : Int32) (st : List Value) (M : xM) (Q : Option Value → xM → Prop), xW xSC 24 16 [.ref a0, .int a1] (st) M Q = xW xSC 24 17 [.ref a0, .int a1] (.int (nI 0) :: st) M Q) :=
  fun a0 a1 st M Q => xw_s rfl rfl
set_option maxRecDepth 20000 in
theorem h24_17 :
  (∀ (a0 : Nat) (a1 : Int32) (y0 : Int32) (M : xM) (Q : Option Value → xM → Prop), y0 = 0 ∨ y0 = 1 → xW xSC 24 17 [.ref a0, .int a1] ([.int y0]) M Q = Q (some (.int y0)) M) :=
  fun a0 a1 y0 M Q h0 => xw_retz rfl rfl h0
set_option maxRecDepth 20000 in
theorem j24 :
  (∀ (a0 : Nat) (a1 : Int32) (st : List Value) (M : xM) (Q : Option Value → xM → Prop), xW xSC 24 16 [.ref a0, .int a1] (st) M Q = xW xSC 24 17 [.ref a0, .int a1] (.int (nI 0) :: st) M Q) ∧
  (∀ (a0 : Nat) (a1 : Int32) (y0 : Int32) (M : xM) (Q : Option Value → xM → Prop), y0 = 0 ∨ y0 = 1 → xW xSC 24 17 [.ref a0, .int a1] ([.int y0]) M Q = Q (some (.int y0)) M) :=
  ⟨fun a0 a1 st M Q => xw_s rfl rfl,
  fun a0 a1 y0 M Q h0 => xw_retz rfl rfl h0⟩

set_option maxRecDepth 20000 in
theorem s25 :
  (∀ (a0 : Nat) (a1 : Int32) (st : List Value) (M : xM) (Q : Option Value → xM → Prop), xW xSC 25 0 [.ref a0, .int a1] (st) M Q = xW xSC 25 1 [.ref a0, .int a1] (.int a1 :: st) M Q) ∧
  (∀ (a0 : Nat) (a1 : Int32) (y0 : Int32) (st : List Value) (M : xM) (Q : Option Value → xM → Prop), xW xSC 25 1 [.ref a0, .int a1] (.int y0 :: st) M Q = if y0 < nI 0 then xW xSC 25 16 [.ref a0, .int a1] (st) M Q else xW xSC 25 4 [.ref a0, .int a1] (st) M Q) ∧
  (∀ (a0 : Nat) (a1 : Int32) (st : List Value) (M : xM) (Q : Option Value → xM → Prop), xW xSC 25 4 [.ref a0, .int a1] (st) M Q = xW xSC 25 5 [.ref a0, .int a1] (.int a1 :: st) M Q) ∧
  (∀ (a0 : Nat) (a1 : Int32) (st : List Value) (M : xM) (Q : Option Value → xM → Prop), xW xSC 25 5 [.ref a0, .int a1] (st) M Q = xW xSC 25 6 [.ref a0, .int a1] (.ref a0 :: st) M Q) ∧
  (∀ (a0 : Nat) (a1 : Int32) (st : List Value) (M : xM) (Q : Option Value → xM → Prop), xW xSC 25 6 [.ref a0, .int a1] (.ref 4 :: st) M Q = xW xSC 25 9 [.ref a0, .int a1] (.int (M 4 2) :: st) M Q) ∧
  (∀ (a0 : Nat) (a1 : Int32) (y0 : Int32) (y1 : Int32) (st : List Value) (M : xM) (Q : Option Value → xM → Prop), xW xSC 25 9 [.ref a0, .int a1] (.int y0 :: .int y1 :: st) M Q = if y1 < y0 then xW xSC 25 12 [.ref a0, .int a1] (st) M Q else xW xSC 25 16 [.ref a0, .int a1] (st) M Q) ∧
  (∀ (a0 : Nat) (a1 : Int32) (st : List Value) (M : xM) (Q : Option Value → xM → Prop), xW xSC 25 12 [.ref a0, .int a1] (st) M Q = xW xSC 25 13 [.ref a0, .int a1] (.int (nI 1) :: st) M Q) ∧
  (∀ (a0 : Nat) (a1 : Int32) (st : List Value) (M : xM) (Q : Option Value → xM → Prop), xW xSC 25 13 [.ref a0, .int a1] (st) M Q = xW xSC 25 17 [.ref a0, .int a1] (st) M Q) ∧
  (∀ (a0 : Nat) (a1 : Int32) (st : List Value) (M : xM) (Q : Option Value → xM → Prop), xW xSC 25 6 [.ref a0, .int a1] (.ref 9 :: st) M Q = xW xSC 25 9 [.ref a0, .int a1] (.int (M 9 2) :: st) M Q) :=
  ⟨fun a0 a1 st M Q => xw_s rfl rfl,
  fun a0 a1 y0 st M Q => xw_br (c0 := y0 < nI 0) rfl rfl,
  fun a0 a1 st M Q => xw_s rfl rfl,
  fun a0 a1 st M Q => xw_s rfl rfl,
  fun a0 a1 st M Q => xw_s rfl rfl,
  fun a0 a1 y0 y1 st M Q => xw_brn (c0 := y0 ≤ y1) (c1 := y1 < y0) rfl rfl (xge _ _),
  fun a0 a1 st M Q => xw_s rfl rfl,
  fun a0 a1 st M Q => xw_s rfl rfl,
  fun a0 a1 st M Q => xw_s rfl rfl⟩
set_option maxRecDepth 20000 in
theorem h25_16 :
  (∀ (a0 : Nat) (a1 : Int32) (st : List Value) (M : xM) (Q : Option Value → xM → Prop), xW xSC 25 16 [.ref a0, .int a1] (st) M Q = xW xSC 25 17 [.ref a0, .int a1] (.int (nI 0) :: st) M Q) :=
  fun a0 a1 st M Q => xw_s rfl rfl
set_option maxRecDepth 20000 in
theorem h25_17 :
  (∀ (a0 : Nat) (a1 : Int32) (y0 : Int32) (M : xM) (Q : Option Value → xM → Prop), y0 = 0 ∨ y0 = 1 → xW xSC 25 17 [.ref a0, .int a1] ([.int y0]) M Q = Q (some (.int y0)) M) :=
  fun a0 a1 y0 M Q h0 => xw_retz rfl rfl h0
set_option maxRecDepth 20000 in
theorem j25 :
  (∀ (a0 : Nat) (a1 : Int32) (st : List Value) (M : xM) (Q : Option Value → xM → Prop), xW xSC 25 16 [.ref a0, .int a1] (st) M Q = xW xSC 25 17 [.ref a0, .int a1] (.int (nI 0) :: st) M Q) ∧
  (∀ (a0 : Nat) (a1 : Int32) (y0 : Int32) (M : xM) (Q : Option Value → xM → Prop), y0 = 0 ∨ y0 = 1 → xW xSC 25 17 [.ref a0, .int a1] ([.int y0]) M Q = Q (some (.int y0)) M) :=
  ⟨fun a0 a1 st M Q => xw_s rfl rfl,
  fun a0 a1 y0 M Q h0 => xw_retz rfl rfl h0⟩

set_option maxRecDepth 20000 in
theorem s26 :
  (∀ (a0 : Nat) (a1 : Int32) (a2 : Int32) (a3 : Int32) (a4 : Int32) (st : List Value) (M : xM) (Q : Option Value → xM → Prop), xW xSC 26 0 [.ref a0, .int a1, .int a2, .int a3, .int a4] (st) M Q = xW xSC 26 1 [.ref a0, .int a1, .int a2, .int a3, .int a4] (.ref a0 :: st) M Q) ∧
  (∀ (a0 : Nat) (a1 : Int32) (a2 : Int32) (a3 : Int32) (a4 : Int32) (st : List Value) (M : xM) (Q : Option Value → xM → Prop), xW xSC 26 1 [.ref a0, .int a1, .int a2, .int a3, .int a4] (st) M Q = xW xSC 26 2 [.ref a0, .int a1, .int a2, .int a3, .int a4] (.ref a0 :: st) M Q) ∧
  (∀ (a0 : Nat) (a1 : Int32) (a2 : Int32) (a3 : Int32) (a4 : Int32) (st : List Value) (M : xM) (Q : Option Value → xM → Prop), xW xSC 26 2 [.ref a0, .int a1, .int a2, .int a3, .int a4] (.ref 4 :: st) M Q = xW xSC 26 5 [.ref a0, .int a1, .int a2, .int a3, .int a4] (.int (M 4 1) :: st) M Q) ∧
  (∀ (a0 : Nat) (a1 : Int32) (a2 : Int32) (a3 : Int32) (a4 : Int32) (st : List Value) (M : xM) (Q : Option Value → xM → Prop), xW xSC 26 5 [.ref a0, .int a1, .int a2, .int a3, .int a4] (st) M Q = xW xSC 26 6 [.ref a0, .int a1, .int a2, .int a3, .int a4] (.int (nI 0) :: st) M Q) ∧
  (∀ (a0 : Nat) (a1 : Int32) (a2 : Int32) (a3 : Int32) (a4 : Int32) (st : List Value) (M : xM) (Q : Option Value → xM → Prop), xW xSC 26 6 [.ref a0, .int a1, .int a2, .int a3, .int a4] (st) M Q = xW xSC 26 7 [.ref a0, .int a1, .int a2, .int a3, .int a4] (.int a1 :: st) M Q) ∧
  (∀ (a0 : Nat) (a1 : Int32) (a2 : Int32) (a3 : Int32) (a4 : Int32) (y0 : Int32) (y1 : Int32) (y2 : Int32) (M : xM) (Q : Option Value → xM → Prop), xW xSC 26 7 [.ref a0, .int a1, .int a2, .int a3, .int a4] (.int y0 :: .int y1 :: .int y2 :: .ref 4 :: []) M Q = xW xSC 29 0 [.ref 4, .int y2, .int y1, .int y0] [] M (fun v M' => xW xSC 26 10 [.ref a0, .int a1, .int a2, .int a3, .int a4] (xpush v []) M' Q)) ∧
  (∀ (a0 : Nat) (a1 : Int32) (a2 : Int32) (a3 : Int32) (a4 : Int32) (st : List Value) (M : xM) (Q : Option Value → xM → Prop), xW xSC 26 10 [.ref a0, .int a1, .int a2, .int a3, .int a4] (st) M Q = xW xSC 26 11 [.ref a0, .int a1, .int a2, .int a3, .int a4] (.ref a0 :: st) M Q) ∧
  (∀ (a0 : Nat) (a1 : Int32) (a2 : Int32) (a3 : Int32) (a4 : Int32) (st : List Value) (M : xM) (Q : Option Value → xM → Prop), xW xSC 26 11 [.ref a0, .int a1, .int a2, .int a3, .int a4] (st) M Q = xW xSC 26 12 [.ref a0, .int a1, .int a2, .int a3, .int a4] (.ref a0 :: st) M Q) ∧
  (∀ (a0 : Nat) (a1 : Int32) (a2 : Int32) (a3 : Int32) (a4 : Int32) (st : List Value) (M : xM) (Q : Option Value → xM → Prop), xW xSC 26 12 [.ref a0, .int a1, .int a2, .int a3, .int a4] (.ref 4 :: st) M Q = xW xSC 26 15 [.ref a0, .int a1, .int a2, .int a3, .int a4] (.int (M 4 1) :: st) M Q) ∧
  (∀ (a0 : Nat) (a1 : Int32) (a2 : Int32) (a3 : Int32) (a4 : Int32) (st : List Value) (M : xM) (Q : Option Value → xM → Prop), xW xSC 26 15 [.ref a0, .int a1, .int a2, .int a3, .int a4] (st) M Q = xW xSC 26 16 [.ref a0, .int a1, .int a2, .int a3, .int a4] (.int (nI 1) :: st) M Q) ∧
  (∀ (a0 : Nat) (a1 : Int32) (a2 : Int32) (a3 : Int32) (a4 : Int32) (st : List Value) (M : xM) (Q : Option Value → xM → Prop), xW xSC 26 16 [.ref a0, .int a1, .int a2, .int a3, .int a4] (st) M Q = xW xSC 26 17 [.ref a0, .int a1, .int a2, .int a3, .int a4] (.int a2 :: st) M Q) ∧
  (∀ (a0 : Nat) (a1 : Int32) (a2 : Int32) (a3 : Int32) (a4 : Int32) (y0 : Int32) (y1 : Int32) (y2 : Int32) (M : xM) (Q : Option Value → xM → Prop), xW xSC 26 17 [.ref a0, .int a1, .int a2, .int a3, .int a4] (.int y0 :: .int y1 :: .int y2 :: .ref 4 :: []) M Q = xW xSC 29 0 [.ref 4, .int y2, .int y1, .int y0] [] M (fun v M' => xW xSC 26 20 [.ref a0, .int a1, .int a2, .int a3, .int a4] (xpush v []) M' Q)) ∧
  (∀ (a0 : Nat) (a1 : Int32) (a2 : Int32) (a3 : Int32) (a4 : Int32) (st : List Value) (M : xM) (Q : Option Value → xM → Prop), xW xSC 26 20 [.ref a0, .int a1, .int a2, .int a3, .int a4] (st) M Q = xW xSC 26 21 [.ref a0, .int a1, .int a2, .int a3, .int a4] (.ref a0 :: st) M Q) ∧
  (∀ (a0 : Nat) (a1 : Int32) (a2 : Int32) (a3 : Int32) (a4 : Int32) (st : List Value) (M : xM) (Q : Option Value → xM → Prop), xW xSC 26 21 [.ref a0, .int a1, .int a2, .int a3, .int a4] (st) M Q = xW xSC 26 22 [.ref a0, .int a1, .int a2, .int a3, .int a4] (.ref a0 :: st) M Q) ∧
  (∀ (a0 : Nat) (a1 : Int32) (a2 : Int32) (a3 : Int32) (a4 : Int32) (st : List Value) (M : xM) (Q : Option Value → xM → Prop), xW xSC 26 22 [.ref a0, .int a1, .int a2, .int a3, .int a4] (.ref 4 :: st) M Q = xW xSC 26 25 [.ref a0, .int a1, .int a2, .int a3, .int a4] (.int (M 4 1) :: st) M Q) ∧
  (∀ (a0 : Nat) (a1 : Int32) (a2 : Int32) (a3 : Int32) (a4 : Int32) (st : List Value) (M : xM) (Q : Option Value → xM → Prop), xW xSC 26 25 [.ref a0, .int a1, .int a2, .int a3, .int a4] (st) M Q = xW xSC 26 26 [.ref a0, .int a1, .int a2, .int a3, .int a4] (.int (nI 2) :: st) M Q) ∧
  (∀ (a0 : Nat) (a1 : Int32) (a2 : Int32) (a3 : Int32) (a4 : Int32) (st : List Value) (M : xM) (Q : Option Value → xM → Prop), xW xSC 26 26 [.ref a0, .int a1, .int a2, .int a3, .int a4] (st) M Q = xW xSC 26 27 [.ref a0, .int a1, .int a2, .int a3, .int a4] (.int a3 :: st) M Q) ∧
  (∀ (a0 : Nat) (a1 : Int32) (a2 : Int32) (a3 : Int32) (a4 : Int32) (y0 : Int32) (y1 : Int32) (y2 : Int32) (M : xM) (Q : Option Value → xM → Prop), xW xSC 26 27 [.ref a0, .int a1, .int a2, .int a3, .int a4] (.int y0 :: .int y1 :: .int y2 :: .ref 4 :: []) M Q = xW xSC 29 0 [.ref 4, .int y2, .int y1, .int y0] [] M (fun v M' => xW xSC 26 30 [.ref a0, .int a1, .int a2, .int a3, .int a4] (xpush v []) M' Q)) ∧
  (∀ (a0 : Nat) (a1 : Int32) (a2 : Int32) (a3 : Int32) (a4 : Int32) (st : List Value) (M : xM) (Q : Option Value → xM → Prop), xW xSC 26 30 [.ref a0, .int a1, .int a2, .int a3, .int a4] (st) M Q = xW xSC 26 31 [.ref a0, .int a1, .int a2, .int a3, .int a4] (.ref a0 :: st) M Q) ∧
  (∀ (a0 : Nat) (a1 : Int32) (a2 : Int32) (a3 : Int32) (a4 : Int32) (st : List Value) (M : xM) (Q : Option Value → xM → Prop), xW xSC 26 31 [.ref a0, .int a1, .int a2, .int a3, .int a4] (st) M Q = xW xSC 26 32 [.ref a0, .int a1, .int a2, .int a3, .int a4] (.ref a0 :: st) M Q) ∧
  (∀ (a0 : Nat) (a1 : Int32) (a2 : Int32) (a3 : Int32) (a4 : Int32) (st : List Value) (M : xM) (Q : Option Value → xM → Prop), xW xSC 26 32 [.ref a0, .int a1, .int a2, .int a3, .int a4] (.ref 4 :: st) M Q = xW xSC 26 35 [.ref a0, .int a1, .int a2, .int a3, .int a4] (.int (M 4 1) :: st) M Q) ∧
  (∀ (a0 : Nat) (a1 : Int32) (a2 : Int32) (a3 : Int32) (a4 : Int32) (st : List Value) (M : xM) (Q : Option Value → xM → Prop), xW xSC 26 35 [.ref a0, .int a1, .int a2, .int a3, .int a4] (st) M Q = xW xSC 26 36 [.ref a0, .int a1, .int a2, .int a3, .int a4] (.int (nI 3) :: st) M Q) ∧
  (∀ (a0 : Nat) (a1 : Int32) (a2 : Int32) (a3 : Int32) (a4 : Int32) (st : List Value) (M : xM) (Q : Option Value → xM → Prop), xW xSC 26 36 [.ref a0, .int a1, .int a2, .int a3, .int a4] (st) M Q = xW xSC 26 38 [.ref a0, .int a1, .int a2, .int a3, .int a4] (.int a4 :: st) M Q) ∧
  (∀ (a0 : Nat) (a1 : Int32) (a2 : Int32) (a3 : Int32) (a4 : Int32) (y0 : Int32) (y1 : Int32) (y2 : Int32) (M : xM) (Q : Option Value → xM → Prop), xW xSC 26 38 [.ref a0, .int a1, .int a2, .int a3, .int a4] (.int y0 :: .int y1 :: .int y2 :: .ref 4 :: []) M Q = xW xSC 29 0 [.ref 4, .int y2, .int y1, .int y0] [] M (fun v M' => xW xSC 26 41 [.ref a0, .int a1, .int a2, .int a3, .int a4] (xpush v []) M' Q)) ∧
  (∀ (a0 : Nat) (a1 : Int32) (a2 : Int32) (a3 : Int32) (a4 : Int32) (st : List Value) (M : xM) (Q : Option Value → xM → Prop), xW xSC 26 41 [.ref a0, .int a1, .int a2, .int a3, .int a4] (st) M Q = xW xSC 26 42 [.ref a0, .int a1, .int a2, .int a3, .int a4] (.ref a0 :: st) M Q) ∧
  (∀ (a0 : Nat) (a1 : Int32) (a2 : Int32) (a3 : Int32) (a4 : Int32) (y0 : Nat) (st : List Value) (M : xM) (Q : Option Value → xM → Prop), xW xSC 26 42 [.ref a0, .int a1, .int a2, .int a3, .int a4] (.ref y0 :: st) M Q = xW xSC 26 43 [.ref a0, .int a1, .int a2, .int a3, .int a4] (.ref y0 :: .ref y0 :: st) M Q) ∧
  (∀ (a0 : Nat) (a1 : Int32) (a2 : Int32) (a3 : Int32) (a4 : Int32) (st : List Value) (M : xM) (Q : Option Value → xM → Prop), xW xSC 26 43 [.ref a0, .int a1, .int a2, .int a3, .int a4] (.ref 4 :: st) M Q = xW xSC 26 46 [.ref a0, .int a1, .int a2, .int a3, .int a4] (.int (M 4 1) :: st) M Q) ∧
  (∀ (a0 : Nat) (a1 : Int32) (a2 : Int32) (a3 : Int32) (a4 : Int32) (st : List Value) (M : xM) (Q : Option Value → xM → Prop), xW xSC 26 46 [.ref a0, .int a1, .int a2, .int a3, .int a4] (st) M Q = xW xSC 26 47 [.ref a0, .int a1, .int a2, .int a3, .int a4] (.int (nI 1) :: st) M Q) ∧
  (∀ (a0 : Nat) (a1 : Int32) (a2 : Int32) (a3 : Int32) (a4 : Int32) (y0 : Int32) (y1 : Int32) (st : List Value) (M : xM) (Q : Option Value → xM → Prop), xW xSC 26 47 [.ref a0, .int a1, .int a2, .int a3, .int a4] (.int y0 :: .int y1 :: st) M Q = xW xSC 26 48 [.ref a0, .int a1, .int a2, .int a3, .int a4] (.int (y1 + y0) :: st) M Q) ∧
  (∀ (a0 : Nat) (a1 : Int32) (a2 : Int32) (a3 : Int32) (a4 : Int32) (y0 : Int32) (st : List Value) (M : xM) (Q : Option Value → xM → Prop), xW xSC 26 48 [.ref a0, .int a1, .int a2, .int a3, .int a4] (.int y0 :: .ref 4 :: st) M Q = xW xSC 26 51 [.ref a0, .int a1, .int a2, .int a3, .int a4] (st) (xup M 4 1 y0) Q) ∧
  (∀ (a0 : Nat) (a1 : Int32) (a2 : Int32) (a3 : Int32) (a4 : Int32) (M : xM) (Q : Option Value → xM → Prop), xW xSC 26 51 [.ref a0, .int a1, .int a2, .int a3, .int a4] ([]) M Q = Q none M) ∧
  (∀ (a0 : Nat) (a1 : Int32) (a2 : Int32) (a3 : Int32) (a4 : Int32) (st : List Value) (M : xM) (Q : Option Value → xM → Prop), xW xSC 26 2 [.ref a0, .int a1, .int a2, .int a3, .int a4] (.ref 9 :: st) M Q = xW xSC 26 5 [.ref a0, .int a1, .int a2, .int a3, .int a4] (.int (M 9 1) :: st) M Q) ∧
  (∀ (a0 : Nat) (a1 : Int32) (a2 : Int32) (a3 : Int32) (a4 : Int32) (y0 : Int32) (y1 : Int32) (y2 : Int32) (M : xM) (Q : Option Value → xM → Prop), xW xSC 26 7 [.ref a0, .int a1, .int a2, .int a3, .int a4] (.int y0 :: .int y1 :: .int y2 :: .ref 9 :: []) M Q = xW xSC 29 0 [.ref 9, .int y2, .int y1, .int y0] [] M (fun v M' => xW xSC 26 10 [.ref a0, .int a1, .int a2, .int a3, .int a4] (xpush v []) M' Q)) ∧
  (∀ (a0 : Nat) (a1 : Int32) (a2 : Int32) (a3 : Int32) (a4 : Int32) (st : List Value) (M : xM) (Q : Option Value → xM → Prop), xW xSC 26 12 [.ref a0, .int a1, .int a2, .int a3, .int a4] (.ref 9 :: st) M Q = xW xSC 26 15 [.ref a0, .int a1, .int a2, .int a3, .int a4] (.int (M 9 1) :: st) M Q) ∧
  (∀ (a0 : Nat) (a1 : Int32) (a2 : Int32) (a3 : Int32) (a4 : Int32) (y0 : Int32) (y1 : Int32) (y2 : Int32) (M : xM) (Q : Option Value → xM → Prop), xW xSC 26 17 [.ref a0, .int a1, .int a2, .int a3, .int a4] (.int y0 :: .int y1 :: .int y2 :: .ref 9 :: []) M Q = xW xSC 29 0 [.ref 9, .int y2, .int y1, .int y0] [] M (fun v M' => xW xSC 26 20 [.ref a0, .int a1, .int a2, .int a3, .int a4] (xpush v []) M' Q)) ∧
  (∀ (a0 : Nat) (a1 : Int32) (a2 : Int32) (a3 : Int32) (a4 : Int32) (st : List Value) (M : xM) (Q : Option Value → xM → Prop), xW xSC 26 22 [.ref a0, .int a1, .int a2, .int a3, .int a4] (.ref 9 :: st) M Q = xW xSC 26 25 [.ref a0, .int a1, .int a2, .int a3, .int a4] (.int (M 9 1) :: st) M Q) ∧
  (∀ (a0 : Nat) (a1 : Int32) (a2 : Int32) (a3 : Int32) (a4 : Int32) (y0 : Int32) (y1 : Int32) (y2 : Int32) (M : xM) (Q : Option Value → xM → Prop), xW xSC 26 27 [.ref a0, .int a1, .int a2, .int a3, .int a4] (.int y0 :: .int y1 :: .int y2 :: .ref 9 :: []) M Q = xW xSC 29 0 [.ref 9, .int y2, .int y1, .int y0] [] M (fun v M' => xW xSC 26 30 [.ref a0, .int a1, .int a2, .int a3, .int a4] (xpush v []) M' Q)) ∧
  (∀ (a0 : Nat) (a1 : Int32) (a2 : Int32) (a3 : Int32) (a4 : Int32) (st : List Value) (M : xM) (Q : Option Value → xM → Prop), xW xSC 26 32 [.ref a0, .int a1, .int a2, .int a3, .int a4] (.ref 9 :: st) M Q = xW xSC 26 35 [.ref a0, .int a1, .int a2, .int a3, .int a4] (.int (M 9 1) :: st) M Q) ∧
  (∀ (a0 : Nat) (a1 : Int32) (a2 : Int32) (a3 : Int32) (a4 : Int32) (y0 : Int32) (y1 : Int32) (y2 : Int32) (M : xM) (Q : Option Value → xM → Prop), xW xSC 26 38 [.ref a0, .int a1, .int a2, .int a3, .int a4] (.int y0 :: .int y1 :: .int y2 :: .ref 9 :: []) M Q = xW xSC 29 0 [.ref 9, .int y2, .int y1, .int y0] [] M (fun v M' => xW xSC 26 41 [.ref a0, .int a1, .int a2, .int a3, .int a4] (xpush v []) M' Q)) ∧
  (∀ (a0 : Nat) (a1 : Int32) (a2 : Int32) (a3 : Int32) (a4 : Int32) (st : List Value) (M : xM) (Q : Option Value → xM → Prop), xW xSC 26 43 [.ref a0, .int a1, .int a2, .int a3, .int a4] (.ref 9 :: st) M Q = xW xSC 26 46 [.ref a0, .int a1, .int a2, .int a3, .int a4] (.int (M 9 1) :: st) M Q) ∧
  (∀ (a0 : Nat) (a1 : Int32) (a2 : Int32) (a3 : Int32) (a4 : Int32) (y0 : Int32) (st : List Value) (M : xM) (Q : Option Value → xM → Prop), xW xSC 26 48 [.ref a0, .int a1, .int a2, .int a3, .int a4] (.int y0 :: .ref 9 :: st) M Q = xW xSC 26 51 [.ref a0, .int a1, .int a2, .int a3, .int a4] (st) (xup M 9 1 y0) Q) :=
  ⟨fun a0 a1 a2 a3 a4 st M Q => xw_s rfl rfl,
  fun a0 a1 a2 a3 a4 st M Q => xw_s rfl rfl,
  fun a0 a1 a2 a3 a4 st M Q => xw_s rfl rfl,
  fun a0 a1 a2 a3 a4 st M Q => xw_s rfl rfl,
  fun a0 a1 a2 a3 a4 st M Q => xw_s rfl rfl,
  fun a0 a1 a2 a3 a4 y0 y1 y2 M Q => xw_call rfl rfl rfl,
  fun a0 a1 a2 a3 a4 st M Q => xw_s rfl rfl,
  fun a0 a1 a2 a3 a4 st M Q => xw_s rfl rfl,
  fun a0 a1 a2 a3 a4 st M Q => xw_s rfl rfl,
  fun a0 a1 a2 a3 a4 st M Q => xw_s rfl rfl,
  fun a0 a1 a2 a3 a4 st M Q => xw_s rfl rfl,
  fun a0 a1 a2 a3 a4 y0 y1 y2 M Q => xw_call rfl rfl rfl,
  fun a0 a1 a2 a3 a4 st M Q => xw_s rfl rfl,
  fun a0 a1 a2 a3 a4 st M Q => xw_s rfl rfl,
  fun a0 a1 a2 a3 a4 st M Q => xw_s rfl rfl,
  fun a0 a1 a2 a3 a4 st M Q => xw_s rfl rfl,
  fun a0 a1 a2 a3 a4 st M Q => xw_s rfl rfl,
  fun a0 a1 a2 a3 a4 y0 y1 y2 M Q => xw_call rfl rfl rfl,
  fun a0 a1 a2 a3 a4 st M Q => xw_s rfl rfl,
  fun a0 a1 a2 a3 a4 st M Q => xw_s rfl rfl,
  fun a0 a1 a2 a3 a4 st M Q => xw_s rfl rfl,
  fun a0 a1 a2 a3 a4 st M Q => xw_s rfl rfl,
  fun a0 a1 a2 a3 a4 st M Q => xw_s rfl rfl,
  fun a0 a1 a2 a3 a4 y0 y1 y2 M Q => xw_call rfl rfl rfl,
  fun a0 a1 a2 a3 a4 st M Q => xw_s rfl rfl,
  fun a0 a1 a2 a3 a4 y0 st M Q => xw_s rfl rfl,
  fun a0 a1 a2 a3 a4 st M Q => xw_s rfl rfl,
  fun a0 a1 a2 a3 a4 st M Q => xw_s rfl rfl,
  fun a0 a1 a2 a3 a4 y0 y1 st M Q => xw_s rfl rfl,
  fun a0 a1 a2 a3 a4 y0 st M Q => xw_s rfl rfl,
  fun a0 a1 a2 a3 a4 M Q => xw_retv rfl rfl,
  fun a0 a1 a2 a3 a4 st M Q => xw_s rfl rfl,
  fun a0 a1 a2 a3 a4 y0 y1 y2 M Q => xw_call rfl rfl rfl,
  fun a0 a1 a2 a3 a4 st M Q => xw_s rfl rfl,
  fun a0 a1 a2 a3 a4 y0 y1 y2 M Q => xw_call rfl rfl rfl,
  fun a0 a1 a2 a3 a4 st M Q => xw_s rfl rfl,
  fun a0 a1 a2 a3 a4 y0 y1 y2 M Q => xw_call rfl rfl rfl,
  fun a0 a1 a2 a3 a4 st M Q => xw_s rfl rfl,
  fun a0 a1 a2 a3 a4 y0 y1 y2 M Q => xw_call rfl rfl rfl,
  fun a0 a1 a2 a3 a4 st M Q => xw_s rfl rfl,
  fun a0 a1 a2 a3 a4 y0 st M Q => xw_s rfl rfl⟩
theorem j26 : True := trivial

set_option maxRecDepth 20000 in
theorem s27 :
  (∀ (a0 : Nat) (a1 : Int32) (a2 : Int32) (st : List Value) (M : xM) (Q : Option Value → xM → Prop), xW xSC 27 0 [.ref a0, .int a1, .int a2] (st) M Q = xW xSC 27 1 [.ref a0, .int a1, .int a2] (.ref a0 :: st) M Q) ∧
  (∀ (a0 : Nat) (a1 : Int32) (a2 : Int32) (st : List Value) (M : xM) (Q : Option Value → xM → Prop), xW xSC 27 1 [.ref a0, .int a1, .int a2] (st) M Q = xW xSC 27 2 [.ref a0, .int a1, .int a2] (.ref a0 :: st) M Q) ∧
  (∀ (a0 : Nat) (a1 : Int32) (a2 : Int32) (st : List Value) (M : xM) (Q : Option Value → xM → Prop), xW xSC 27 2 [.ref a0, .int a1, .int a2] (.ref 4 :: st) M Q = xW xSC 27 5 [.ref a0, .int a1, .int a2] (.int (M 4 2) :: st) M Q) ∧
  (∀ (a0 : Nat) (a1 : Int32) (a2 : Int32) (st : List Value) (M : xM) (Q : Option Value → xM → Prop), xW xSC 27 5 [.ref a0, .int a1, .int a2] (st) M Q = xW xSC 27 6 [.ref a0, .int a1, .int a2] (.int (nI 0) :: st) M Q) ∧
  (∀ (a0 : Nat) (a1 : Int32) (a2 : Int32) (st : List Value) (M : xM) (Q : Option Value → xM → Prop), xW xSC 27 6 [.ref a0, .int a1, .int a2] (st) M Q = xW xSC 27 7 [.ref a0, .int a1, .int a2] (.int a1 :: st) M Q) ∧
  (∀ (a0 : Nat) (a1 : Int32) (a2 : Int32) (y0 : Int32) (y1 : Int32) (y2 : Int32) (M : xM) (Q : Option Value → xM → Prop), xW xSC 27 7 [.ref a0, .int a1, .int a2] (.int y0 :: .int y1 :: .int y2 :: .ref 4 :: []) M Q = xW xSC 31 0 [.ref 4, .int y2, .int y1, .int y0] [] M (fun v M' => xW xSC 27 10 [.ref a0, .int a1, .int a2] (xpush v []) M' Q)) ∧
  (∀ (a0 : Nat) (a1 : Int32) (a2 : Int32) (st : List Value) (M : xM) (Q : Option Value → xM → Prop), xW xSC 27 10 [.ref a0, .int a1, .int a2] (st) M Q = xW xSC 27 11 [.ref a0, .int a1, .int a2] (.ref a0 :: st) M Q) ∧
  (∀ (a0 : Nat) (a1 : Int32) (a2 : Int32) (st : List Value) (M : xM) (Q : Option Value → xM → Prop), xW xSC 27 11 [.ref a0, .int a1, .int a2] (st) M Q = xW xSC 27 12 [.ref a0, .int a1, .int a2] (.ref a0 :: st) M Q) ∧
  (∀ (a0 : Nat) (a1 : Int32) (a2 : Int32) (st : List Value) (M : xM) (Q : Option Value → xM → Prop), xW xSC 27 12 [.ref a0, .int a1, .int a2] (.ref 4 :: st) M Q = xW xSC 27 15 [.ref a0, .int a1, .int a2] (.int (M 4 2) :: st) M Q) ∧
  (∀ (a0 : Nat) (a1 : Int32) (a2 : Int32) (st : List Value) (M : xM) (Q : Option Value → xM → Prop), xW xSC 27 15 [.ref a0, .int a1, .int a2] (st) M Q = xW xSC 27 16 [.ref a0, .int a1, .int a2] (.int (nI 1) :: st) M Q) ∧
  (∀ (a0 : Nat) (a1 : Int32) (a2 : Int32) (st : List Value) (M : xM) (Q : Option Value → xM → Prop), xW xSC 27 16 [.ref a0, .int a1, .int a2] (st) M Q = xW xSC 27 17 [.ref a0, .int a1, .int a2] (.int a2 :: st) M Q) ∧
  (∀ (a0 : Nat) (a1 : Int32) (a2 : Int32) (y0 : Int32) (y1 : Int32) (y2 : Int32) (M : xM) (Q : Option Value → xM → Prop), xW xSC 27 17 [.ref a0, .int a1, .int a2] (.int y0 :: .int y1 :: .int y2 :: .ref 4 :: []) M Q = xW xSC 31 0 [.ref 4, .int y2, .int y1, .int y0] [] M (fun v M' => xW xSC 27 20 [.ref a0, .int a1, .int a2] (xpush v []) M' Q)) ∧
  (∀ (a0 : Nat) (a1 : Int32) (a2 : Int32) (st : List Value) (M : xM) (Q : Option Value → xM → Prop), xW xSC 27 20 [.ref a0, .int a1, .int a2] (st) M Q = xW xSC 27 21 [.ref a0, .int a1, .int a2] (.ref a0 :: st) M Q) ∧
  (∀ (a0 : Nat) (a1 : Int32) (a2 : Int32) (st : List Value) (M : xM) (Q : Option Value → xM → Prop), xW xSC 27 21 [.ref a0, .int a1, .int a2] (st) M Q = xW xSC 27 22 [.ref a0, .int a1, .int a2] (.ref a0 :: st) M Q) ∧
  (∀ (a0 : Nat) (a1 : Int32) (a2 : Int32) (st : List Value) (M : xM) (Q : Option Value → xM → Prop), xW xSC 27 22 [.ref a0, .int a1, .int a2] (.ref 4 :: st) M Q = xW xSC 27 25 [.ref a0, .int a1, .int a2] (.int (M 4 2) :: st) M Q) ∧
  (∀ (a0 : Nat) (a1 : Int32) (a2 : Int32) (st : List Value) (M : xM) (Q : Option Value → xM → Prop), xW xSC 27 25 [.ref a0, .int a1, .int a2] (st) M Q = xW xSC 27 26 [.ref a0, .int a1, .int a2] (.int (nI 2) :: st) M Q) ∧
  (∀ (a0 : Nat) (a1 : Int32) (a2 : Int32) (st : List Value) (M : xM) (Q : Option Value → xM → Prop), xW xSC 27 26 [.ref a0, .int a1, .int a2] (st) M Q = xW xSC 27 27 [.ref a0, .int a1, .int a2] (.int (nI 3) :: st) M Q) ∧
  (∀ (a0 : Nat) (a1 : Int32) (a2 : Int32) (y0 : Int32) (y1 : Int32) (y2 : Int32) (M : xM) (Q : Option Value → xM → Prop), xW xSC 27 27 [.ref a0, .int a1, .int a2] (.int y0 :: .int y1 :: .int y2 :: .ref 4 :: []) M Q = xW xSC 31 0 [.ref 4, .int y2, .int y1, .int y0] [] M (fun v M' => xW xSC 27 30 [.ref a0, .int a1, .int a2] (xpush v []) M' Q)) ∧
  (∀ (a0 : Nat) (a1 : Int32) (a2 : Int32) (st : List Value) (M : xM) (Q : Option Value → xM → Prop), xW xSC 27 30 [.ref a0, .int a1, .int a2] (st) M Q = xW xSC 27 31 [.ref a0, .int a1, .int a2] (.ref a0 :: st) M Q) ∧
  (∀ (a0 : Nat) (a1 : Int32) (a2 : Int32) (y0 : Nat) (st : List Value) (M : xM) (Q : Option Value → xM → Prop), xW xSC 27 31 [.ref a0, .int a1, .int a2] (.ref y0 :: st) M Q = xW xSC 27 32 [.ref a0, .int a1, .int a2] (.ref y0 :: .ref y0 :: st) M Q) ∧
  (∀ (a0 : Nat) (a1 : Int32) (a2 : Int32) (st : List Value) (M : xM) (Q : Option Value → xM → Prop), xW xSC 27 32 [.ref a0, .int a1, .int a2] (.ref 4 :: st) M Q = xW xSC 27 35 [.ref a0, .int a1, .int a2] (.int (M 4 2) :: st) M Q) ∧
  (∀ (a0 : Nat) (a1 : Int32) (a2 : Int32) (st : List Value) (M : xM) (Q : Option Value → xM → Prop), xW xSC 27 35 [.ref a0, .int a1, .int a2] (st) M Q = xW xSC 27 36 [.ref a0, .int a1, .int a2] (.int (nI 1) :: st) M Q) ∧
  (∀ (a0 : Nat) (a1 : Int32) (a2 : Int32) (y0 : Int32) (y1 : Int32) (st : List Value) (M : xM) (Q : Option Value → xM → Prop), xW xSC 27 36 [.ref a0, .int a1, .int a2] (.int y0 :: .int y1 :: st) M Q = xW xSC 27 37 [.ref a0, .int a1, .int a2] (.int (y1 + y0) :: st) M Q) ∧
  (∀ (a0 : Nat) (a1 : Int32) (a2 : Int32) (y0 : Int32) (st : List Value) (M : xM) (Q : Option Value → xM → Prop), xW xSC 27 37 [.ref a0, .int a1, .int a2] (.int y0 :: .ref 4 :: st) M Q = xW xSC 27 40 [.ref a0, .int a1, .int a2] (st) (xup M 4 2 y0) Q) ∧
  (∀ (a0 : Nat) (a1 : Int32) (a2 : Int32) (M : xM) (Q : Option Value → xM → Prop), xW xSC 27 40 [.ref a0, .int a1, .int a2] ([]) M Q = Q none M) ∧
  (∀ (a0 : Nat) (a1 : Int32) (a2 : Int32) (st : List Value) (M : xM) (Q : Option Value → xM → Prop), xW xSC 27 2 [.ref a0, .int a1, .int a2] (.ref 9 :: st) M Q = xW xSC 27 5 [.ref a0, .int a1, .int a2] (.int (M 9 2) :: st) M Q) ∧
  (∀ (a0 : Nat) (a1 : Int32) (a2 : Int32) (y0 : Int32) (y1 : Int32) (y2 : Int32) (M : xM) (Q : Option Value → xM → Prop), xW xSC 27 7 [.ref a0, .int a1, .int a2] (.int y0 :: .int y1 :: .int y2 :: .ref 9 :: []) M Q = xW xSC 31 0 [.ref 9, .int y2, .int y1, .int y0] [] M (fun v M' => xW xSC 27 10 [.ref a0, .int a1, .int a2] (xpush v []) M' Q)) ∧
  (∀ (a0 : Nat) (a1 : Int32) (a2 : Int32) (st : List Value) (M : xM) (Q : Option Value → xM → Prop), xW xSC 27 12 [.ref a0, .int a1, .int a2] (.ref 9 :: st) M Q = xW xSC 27 15 [.ref a0, .int a1, .int a2] (.int (M 9 2) :: st) M Q) ∧
  (∀ (a0 : Nat) (a1 : Int32) (a2 : Int32) (y0 : Int32) (y1 : Int32) (y2 : Int32) (M : xM) (Q : Option Value → xM → Prop), xW xSC 27 17 [.ref a0, .int a1, .int a2] (.int y0 :: .int y1 :: .int y2 :: .ref 9 :: []) M Q = xW xSC 31 0 [.ref 9, .int y2, .int y1, .int y0] [] M (fun v M' => xW xSC 27 20 [.ref a0, .int a1, .int a2] (xpush v []) M' Q)) ∧
  (∀ (a0 : Nat) (a1 : Int32) (a2 : Int32) (st : List Value) (M : xM) (Q : Option Value → xM → Prop), xW xSC 27 22 [.ref a0, .int a1, .int a2] (.ref 9 :: st) M Q = xW xSC 27 25 [.ref a0, .int a1, .int a2] (.int (M 9 2) :: st) M Q) ∧
  (∀ (a0 : Nat) (a1 : Int32) (a2 : Int32) (y0 : Int32) (y1 : Int32) (y2 : Int32) (M : xM) (Q : Option Value → xM → Prop), xW xSC 27 27 [.ref a0, .int a1, .int a2] (.int y0 :: .int y1 :: .int y2 :: .ref 9 :: []) M Q = xW xSC 31 0 [.ref 9, .int y2, .int y1, .int y0] [] M (fun v M' => xW xSC 27 30 [.ref a0, .int a1, .int a2] (xpush v []) M' Q)) ∧
  (∀ (a0 : Nat) (a1 : Int32) (a2 : Int32) (st : List Value) (M : xM) (Q : Option Value → xM → Prop), xW xSC 27 32 [.ref a0, .int a1, .int a2] (.ref 9 :: st) M Q = xW xSC 27 35 [.ref a0, .int a1, .int a2] (.int (M 9 2) :: st) M Q) ∧
  (∀ (a0 : Nat) (a1 : Int32) (a2 : Int32) (y0 : Int32) (st : List Value) (M : xM) (Q : Option Value → xM → Prop), xW xSC 27 37 [.ref a0, .int a1, .int a2] (.int y0 :: .ref 9 :: st) M Q = xW xSC 27 40 [.ref a0, .int a1, .int a2] (st) (xup M 9 2 y0) Q) :=
  ⟨fun a0 a1 a2 st M Q => xw_s rfl rfl,
  fun a0 a1 a2 st M Q => xw_s rfl rfl,
  fun a0 a1 a2 st M Q => xw_s rfl rfl,
  fun a0 a1 a2 st M Q => xw_s rfl rfl,
  fun a0 a1 a2 st M Q => xw_s rfl rfl,
  fun a0 a1 a2 y0 y1 y2 M Q => xw_call rfl rfl rfl,
  fun a0 a1 a2 st M Q => xw_s rfl rfl,
  fun a0 a1 a2 st M Q => xw_s rfl rfl,
  fun a0 a1 a2 st M Q => xw_s rfl rfl,
  fun a0 a1 a2 st M Q => xw_s rfl rfl,
  fun a0 a1 a2 st M Q => xw_s rfl rfl,
  fun a0 a1 a2 y0 y1 y2 M Q => xw_call rfl rfl rfl,
  fun a0 a1 a2 st M Q => xw_s rfl rfl,
  fun a0 a1 a2 st M Q => xw_s rfl rfl,
  fun a0 a1 a2 st M Q => xw_s rfl rfl,
  fun a0 a1 a2 st M Q => xw_s rfl rfl,
  fun a0 a1 a2 st M Q => xw_s rfl rfl,
  fun a0 a1 a2 y0 y1 y2 M Q => xw_call rfl rfl rfl,
  fun a0 a1 a2 st M Q => xw_s rfl rfl,
  fun a0 a1 a2 y0 st M Q => xw_s rfl rfl,
  fun a0 a1 a2 st M Q => xw_s rfl rfl,
  fun a0 a1 a2 st M Q => xw_s rfl rfl,
  fun a0 a1 a2 y0 y1 st M Q => xw_s rfl rfl,
  fun a0 a1 a2 y0 st M Q => xw_s rfl rfl,
  fun a0 a1 a2 M Q => xw_retv rfl rfl,
  fun a0 a1 a2 st M Q => xw_s rfl rfl,
  fun a0 a1 a2 y0 y1 y2 M Q => xw_call rfl rfl rfl,
  fun a0 a1 a2 st M Q => xw_s rfl rfl,
  fun a0 a1 a2 y0 y1 y2 M Q => xw_call rfl rfl rfl,
  fun a0 a1 a2 st M Q => xw_s rfl rfl,
  fun a0 a1 a2 y0 y1 y2 M Q => xw_call rfl rfl rfl,
  fun a0 a1 a2 st M Q => xw_s rfl rfl,
  fun a0 a1 a2 y0 st M Q => xw_s rfl rfl⟩
theorem j27 : True := trivial

set_option maxRecDepth 20000 in
theorem s28 :
  (∀ (a0 : Nat) (a1 : Int32) (a2 : Int32) (st : List Value) (M : xM) (Q : Option Value → xM → Prop), xW xSC 28 0 [.ref a0, .int a1, .int a2] (st) M Q = xW xSC 28 1 [.ref a0, .int a1, .int a2] (.ref a0 :: st) M Q) ∧
  (∀ (a0 : Nat) (a1 : Int32) (a2 : Int32) (st : List Value) (M : xM) (Q : Option Value → xM → Prop), xW xSC 28 1 [.ref a0, .int a1, .int a2] (.ref 4 :: st) M Q = xW xSC 28 4 [.ref a0, .int a1, .int a2] (.ref 5 :: st) M Q) ∧
  (∀ (a0 : Nat) (a1 : Int32) (a2 : Int32) (st : List Value) (M : xM) (Q : Option Value → xM → Prop), xW xSC 28 4 [.ref a0, .int a1, .int a2] (st) M Q = xW xSC 28 5 [.ref a0, .int a1, .int a2] (.int a1 :: st) M Q) ∧
  (∀ (a0 : Nat) (a1 : Int32) (a2 : Int32) (st : List Value) (M : xM) (Q : Option Value → xM → Prop), xW xSC 28 5 [.ref a0, .int a1, .int a2] (st) M Q = xW xSC 28 7 [.ref a0, .int a1, .int a2] (.int (nI 6) :: st) M Q) ∧
  (∀ (a0 : Nat) (a1 : Int32) (a2 : Int32) (y0 : Int32) (y1 : Int32) (st : List Value) (M : xM) (Q : Option Value → xM → Prop), xW xSC 28 7 [.ref a0, .int a1, .int a2] (.int y0 :: .int y1 :: st) M Q = xW xSC 28 8 [.ref a0, .int a1, .int a2] (.int (y1 * y0) :: st) M Q) ∧
  (∀ (a0 : Nat) (a1 : Int32) (a2 : Int32) (st : List Value) (M : xM) (Q : Option Value → xM → Prop), xW xSC 28 8 [.ref a0, .int a1, .int a2] (st) M Q = xW xSC 28 9 [.ref a0, .int a1, .int a2] (.int a2 :: st) M Q) ∧
  (∀ (a0 : Nat) (a1 : Int32) (a2 : Int32) (y0 : Int32) (y1 : Int32) (st : List Value) (M : xM) (Q : Option Value → xM → Prop), xW xSC 28 9 [.ref a0, .int a1, .int a2] (.int y0 :: .int y1 :: st) M Q = xW xSC 28 10 [.ref a0, .int a1, .int a2] (.int (y1 + y0) :: st) M Q) ∧
  (∀ (a0 : Nat) (a1 : Int32) (a2 : Int32) (y0 : Int32) (y1 : Nat) (M : xM) (Q : Option Value → xM → Prop), xW xSC 28 10 [.ref a0, .int a1, .int a2] (.int y0 :: .ref y1 :: []) M Q = xW xSC 0 0 [.ref y1, .int y0] [] M (fun v M' => xW xSC 28 13 [.ref a0, .int a1, .int a2] (xpush v []) M' Q)) ∧
  (∀ (a0 : Nat) (a1 : Int32) (a2 : Int32) (y0 : Int32) (M : xM) (Q : Option Value → xM → Prop), xW xSC 28 13 [.ref a0, .int a1, .int a2] ([.int y0]) M Q = Q (some (.int y0)) M) ∧
  (∀ (a0 : Nat) (a1 : Int32) (a2 : Int32) (st : List Value) (M : xM) (Q : Option Value → xM → Prop), xW xSC 28 1 [.ref a0, .int a1, .int a2] (.ref 9 :: st) M Q = xW xSC 28 4 [.ref a0, .int a1, .int a2] (.ref 10 :: st) M Q) :=
  ⟨fun a0 a1 a2 st M Q => xw_s rfl rfl,
  fun a0 a1 a2 st M Q => xw_s rfl rfl,
  fun a0 a1 a2 st M Q => xw_s rfl rfl,
  fun a0 a1 a2 st M Q => xw_s rfl rfl,
  fun a0 a1 a2 y0 y1 st M Q => xw_s rfl rfl,
  fun a0 a1 a2 st M Q => xw_s rfl rfl,
  fun a0 a1 a2 y0 y1 st M Q => xw_s rfl rfl,
  fun a0 a1 a2 y0 y1 M Q => xw_call rfl rfl rfl,
  fun a0 a1 a2 y0 M Q => xw_ret rfl rfl,
  fun a0 a1 a2 st M Q => xw_s rfl rfl⟩
theorem j28 : True := trivial

set_option maxRecDepth 20000 in
theorem s29 :
  (∀ (a0 : Nat) (a1 : Int32) (a2 : Int32) (a3 : Int32) (st : List Value) (M : xM) (Q : Option Value → xM → Prop), xW xSC 29 0 [.ref a0, .int a1, .int a2, .int a3] (st) M Q = xW xSC 29 1 [.ref a0, .int a1, .int a2, .int a3] (.ref a0 :: st) M Q) ∧
  (∀ (a0 : Nat) (a1 : Int32) (a2 : Int32) (a3 : Int32) (st : List Value) (M : xM) (Q : Option Value → xM → Prop), xW xSC 29 1 [.ref a0, .int a1, .int a2, .int a3] (.ref 4 :: st) M Q = xW xSC 29 4 [.ref a0, .int a1, .int a2, .int a3] (.ref 5 :: st) M Q) ∧
  (∀ (a0 : Nat) (a1 : Int32) (a2 : Int32) (a3 : Int32) (st : List Value) (M : xM) (Q : Option Value → xM → Prop), xW xSC 29 4 [.ref a0, .int a1, .int a2, .int a3] (st) M Q = xW xSC 29 5 [.ref a0, .int a1, .int a2, .int a3] (.int a1 :: st) M Q) ∧
  (∀ (a0 : Nat) (a1 : Int32) (a2 : Int32) (a3 : Int32) (st : List Value) (M : xM) (Q : Option Value → xM → Prop), xW xSC 29 5 [.ref a0, .int a1, .int a2, .int a3] (st) M Q = xW xSC 29 7 [.ref a0, .int a1, .int a2, .int a3] (.int (nI 6) :: st) M Q) ∧
  (∀ (a0 : Nat) (a1 : Int32) (a2 : Int32) (a3 : Int32) (y0 : Int32) (y1 : Int32) (st : List Value) (M : xM) (Q : Option Value → xM → Prop), xW xSC 29 7 [.ref a0, .int a1, .int a2, .int a3] (.int y0 :: .int y1 :: st) M Q = xW xSC 29 8 [.ref a0, .int a1, .int a2, .int a3] (.int (y1 * y0) :: st) M Q) ∧
  (∀ (a0 : Nat) (a1 : Int32) (a2 : Int32) (a3 : Int32) (st : List Value) (M : xM) (Q : Option Value → xM → Prop), xW xSC 29 8 [.ref a0, .int a1, .int a2, .int a3] (st) M Q = xW xSC 29 9 [.ref a0, .int a1, .int a2, .int a3] (.int a2 :: st) M Q) ∧
  (∀ (a0 : Nat) (a1 : Int32) (a2 : Int32) (a3 : Int32) (y0 : Int32) (y1 : Int32) (st : List Value) (M : xM) (Q : Option Value → xM → Prop), xW xSC 29 9 [.ref a0, .int a1, .int a2, .int a3] (.int y0 :: .int y1 :: st) M Q = xW xSC 29 10 [.ref a0, .int a1, .int a2, .int a3] (.int (y1 + y0) :: st) M Q) ∧
  (∀ (a0 : Nat) (a1 : Int32) (a2 : Int32) (a3 : Int32) (st : List Value) (M : xM) (Q : Option Value → xM → Prop), xW xSC 29 10 [.ref a0, .int a1, .int a2, .int a3] (st) M Q = xW xSC 29 11 [.ref a0, .int a1, .int a2, .int a3] (.int a3 :: st) M Q) ∧
  (∀ (a0 : Nat) (a1 : Int32) (a2 : Int32) (a3 : Int32) (y0 : Int32) (y1 : Int32) (y2 : Nat) (M : xM) (Q : Option Value → xM → Prop), xW xSC 29 11 [.ref a0, .int a1, .int a2, .int a3] (.int y0 :: .int y1 :: .ref y2 :: []) M Q = xW xSC 1 0 [.ref y2, .int y1, .int y0] [] M (fun v M' => xW xSC 29 14 [.ref a0, .int a1, .int a2, .int a3] (xpush v []) M' Q)) ∧
  (∀ (a0 : Nat) (a1 : Int32) (a2 : Int32) (a3 : Int32) (M : xM) (Q : Option Value → xM → Prop), xW xSC 29 14 [.ref a0, .int a1, .int a2, .int a3] ([]) M Q = Q none M) ∧
  (∀ (a0 : Nat) (a1 : Int32) (a2 : Int32) (a3 : Int32) (st : List Value) (M : xM) (Q : Option Value → xM → Prop), xW xSC 29 1 [.ref a0, .int a1, .int a2, .int a3] (.ref 9 :: st) M Q = xW xSC 29 4 [.ref a0, .int a1, .int a2, .int a3] (.ref 10 :: st) M Q) :=
  ⟨fun a0 a1 a2 a3 st M Q => xw_s rfl rfl,
  fun a0 a1 a2 a3 st M Q => xw_s rfl rfl,
  fun a0 a1 a2 a3 st M Q => xw_s rfl rfl,
  fun a0 a1 a2 a3 st M Q => xw_s rfl rfl,
  fun a0 a1 a2 a3 y0 y1 st M Q => xw_s rfl rfl,
  fun a0 a1 a2 a3 st M Q => xw_s rfl rfl,
  fun a0 a1 a2 a3 y0 y1 st M Q => xw_s rfl rfl,
  fun a0 a1 a2 a3 st M Q => xw_s rfl rfl,
  fun a0 a1 a2 a3 y0 y1 y2 M Q => xw_call rfl rfl rfl,
  fun a0 a1 a2 a3 M Q => xw_retv rfl rfl,
  fun a0 a1 a2 a3 st M Q => xw_s rfl rfl⟩
theorem j29 : True := trivial

set_option maxRecDepth 20000 in
theorem s30 :
  (∀ (a0 : Nat) (a1 : Int32) (a2 : Int32) (st : List Value) (M : xM) (Q : Option Value → xM → Prop), xW xSC 30 0 [.ref a0, .int a1, .int a2] (st) M Q = xW xSC 30 1 [.ref a0, .int a1, .int a2] (.ref a0 :: st) M Q) ∧
  (∀ (a0 : Nat) (a1 : Int32) (a2 : Int32) (st : List Value) (M : xM) (Q : Option Value → xM → Prop), xW xSC 30 1 [.ref a0, .int a1, .int a2] (.ref 4 :: st) M Q = xW xSC 30 4 [.ref a0, .int a1, .int a2] (.ref 6 :: st) M Q) ∧
  (∀ (a0 : Nat) (a1 : Int32) (a2 : Int32) (st : List Value) (M : xM) (Q : Option Value → xM → Prop), xW xSC 30 4 [.ref a0, .int a1, .int a2] (st) M Q = xW xSC 30 5 [.ref a0, .int a1, .int a2] (.int a1 :: st) M Q) ∧
  (∀ (a0 : Nat) (a1 : Int32) (a2 : Int32) (st : List Value) (M : xM) (Q : Option Value → xM → Prop), xW xSC 30 5 [.ref a0, .int a1, .int a2] (st) M Q = xW xSC 30 6 [.ref a0, .int a1, .int a2] (.int (nI 3) :: st) M Q) ∧
  (∀ (a0 : Nat) (a1 : Int32) (a2 : Int32) (y0 : Int32) (y1 : Int32) (st : List Value) (M : xM) (Q : Option Value → xM → Prop), xW xSC 30 6 [.ref a0, .int a1, .int a2] (.int y0 :: .int y1 :: st) M Q = xW xSC 30 7 [.ref a0, .int a1, .int a2] (.int (y1 * y0) :: st) M Q) ∧
  (∀ (a0 : Nat) (a1 : Int32) (a2 : Int32) (st : List Value) (M : xM) (Q : Option Value → xM → Prop), xW xSC 30 7 [.ref a0, .int a1, .int a2] (st) M Q = xW xSC 30 8 [.ref a0, .int a1, .int a2] (.int a2 :: st) M Q) ∧
  (∀ (a0 : Nat) (a1 : Int32) (a2 : Int32) (y0 : Int32) (y1 : Int32) (st : List Value) (M : xM) (Q : Option Value → xM → Prop), xW xSC 30 8 [.ref a0, .int a1, .int a2] (.int y0 :: .int y1 :: st) M Q = xW xSC 30 9 [.ref a0, .int a1, .int a2] (.int (y1 + y0) :: st) M Q) ∧
  (∀ (a0 : Nat) (a1 : Int32) (a2 : Int32) (y0 : Int32) (y1 : Nat) (M : xM) (Q : Option Value → xM → Prop), xW xSC 30 9 [.ref a0, .int a1, .int a2] (.int y0 :: .ref y1 :: []) M Q = xW xSC 0 0 [.ref y1, .int y0] [] M (fun v M' => xW xSC 30 12 [.ref a0, .int a1, .int a2] (xpush v []) M' Q)) ∧
  (∀ (a0 : Nat) (a1 : Int32) (a2 : Int32) (y0 : Int32) (M : xM) (Q : Option Value → xM → Prop), xW xSC 30 12 [.ref a0, .int a1, .int a2] ([.int y0]) M Q = Q (some (.int y0)) M) ∧
  (∀ (a0 : Nat) (a1 : Int32) (a2 : Int32) (st : List Value) (M : xM) (Q : Option Value → xM → Prop), xW xSC 30 1 [.ref a0, .int a1, .int a2] (.ref 9 :: st) M Q = xW xSC 30 4 [.ref a0, .int a1, .int a2] (.ref 11 :: st) M Q) :=
  ⟨fun a0 a1 a2 st M Q => xw_s rfl rfl,
  fun a0 a1 a2 st M Q => xw_s rfl rfl,
  fun a0 a1 a2 st M Q => xw_s rfl rfl,
  fun a0 a1 a2 st M Q => xw_s rfl rfl,
  fun a0 a1 a2 y0 y1 st M Q => xw_s rfl rfl,
  fun a0 a1 a2 st M Q => xw_s rfl rfl,
  fun a0 a1 a2 y0 y1 st M Q => xw_s rfl rfl,
  fun a0 a1 a2 y0 y1 M Q => xw_call rfl rfl rfl,
  fun a0 a1 a2 y0 M Q => xw_ret rfl rfl,
  fun a0 a1 a2 st M Q => xw_s rfl rfl⟩
theorem j30 : True := trivial

set_option maxRecDepth 20000 in
theorem s31 :
  (∀ (a0 : Nat) (a1 : Int32) (a2 : Int32) (a3 : Int32) (st : List Value) (M : xM) (Q : Option Value → xM → Prop), xW xSC 31 0 [.ref a0, .int a1, .int a2, .int a3] (st) M Q = xW xSC 31 1 [.ref a0, .int a1, .int a2, .int a3] (.ref a0 :: st) M Q) ∧
  (∀ (a0 : Nat) (a1 : Int32) (a2 : Int32) (a3 : Int32) (st : List Value) (M : xM) (Q : Option Value → xM → Prop), xW xSC 31 1 [.ref a0, .int a1, .int a2, .int a3] (.ref 4 :: st) M Q = xW xSC 31 4 [.ref a0, .int a1, .int a2, .int a3] (.ref 6 :: st) M Q) ∧
  (∀ (a0 : Nat) (a1 : Int32) (a2 : Int32) (a3 : Int32) (st : List Value) (M : xM) (Q : Option Value → xM → Prop), xW xSC 31 4 [.ref a0, .int a1, .int a2, .int a3] (st) M Q = xW xSC 31 5 [.ref a0, .int a1, .int a2, .int a3] (.int a1 :: st) M Q) ∧
  (∀ (a0 : Nat) (a1 : Int32) (a2 : Int32) (a3 : Int32) (st : List Value) (M : xM) (Q : Option Value → xM → Prop), xW xSC 31 5 [.ref a0, .int a1, .int a2, .int a3] (st) M Q = xW xSC 31 6 [.ref a0, .int a1, .int a2, .int a3] (.int (nI 3) :: st) M Q) ∧
  (∀ (a0 : Nat) (a1 : Int32) (a2 : Int32) (a3 : Int32) (y0 : Int32) (y1 : Int32) (st : List Value) (M : xM) (Q : Option Value → xM → Prop), xW xSC 31 6 [.ref a0, .int a1, .int a2, .int a3] (.int y0 :: .int y1 :: st) M Q = xW xSC 31 7 [.ref a0, .int a1, .int a2, .int a3] (.int (y1 * y0) :: st) M Q) ∧
  (∀ (a0 : Nat) (a1 : Int32) (a2 : Int32) (a3 : Int32) (st : List Value) (M : xM) (Q : Option Value → xM → Prop), xW xSC 31 7 [.ref a0, .int a1, .int a2, .int a3] (st) M Q = xW xSC 31 8 [.ref a0, .int a1, .int a2, .int a3] (.int a2 :: st) M Q) ∧
  (∀ (a0 : Nat) (a1 : Int32) (a2 : Int32) (a3 : Int32) (y0 : Int32) (y1 : Int32) (st : List Value) (M : xM) (Q : Option Value → xM → Prop), xW xSC 31 8 [.ref a0, .int a1, .int a2, .int a3] (.int y0 :: .int y1 :: st) M Q = xW xSC 31 9 [.ref a0, .int a1, .int a2, .int a3] (.int (y1 + y0) :: st) M Q) ∧
  (∀ (a0 : Nat) (a1 : Int32) (a2 : Int32) (a3 : Int32) (st : List Value) (M : xM) (Q : Option Value → xM → Prop), xW xSC 31 9 [.ref a0, .int a1, .int a2, .int a3] (st) M Q = xW xSC 31 10 [.ref a0, .int a1, .int a2, .int a3] (.int a3 :: st) M Q) ∧
  (∀ (a0 : Nat) (a1 : Int32) (a2 : Int32) (a3 : Int32) (y0 : Int32) (y1 : Int32) (y2 : Nat) (M : xM) (Q : Option Value → xM → Prop), xW xSC 31 10 [.ref a0, .int a1, .int a2, .int a3] (.int y0 :: .int y1 :: .ref y2 :: []) M Q = xW xSC 1 0 [.ref y2, .int y1, .int y0] [] M (fun v M' => xW xSC 31 13 [.ref a0, .int a1, .int a2, .int a3] (xpush v []) M' Q)) ∧
  (∀ (a0 : Nat) (a1 : Int32) (a2 : Int32) (a3 : Int32) (M : xM) (Q : Option Value → xM → Prop), xW xSC 31 13 [.ref a0, .int a1, .int a2, .int a3] ([]) M Q = Q none M) ∧
  (∀ (a0 : Nat) (a1 : Int32) (a2 : Int32) (a3 : Int32) (st : List Value) (M : xM) (Q : Option Value → xM → Prop), xW xSC 31 1 [.ref a0, .int a1, .int a2, .int a3] (.ref 9 :: st) M Q = xW xSC 31 4 [.ref a0, .int a1, .int a2, .int a3] (.ref 11 :: st) M Q) :=
  ⟨fun a0 a1 a2 a3 st M Q => xw_s rfl rfl,
  fun a0 a1 a2 a3 st M Q => xw_s rfl rfl,
  fun a0 a1 a2 a3 st M Q => xw_s rfl rfl,
  fun a0 a1 a2 a3 st M Q => xw_s rfl rfl,
  fun a0 a1 a2 a3 y0 y1 st M Q => xw_s rfl rfl,
  fun a0 a1 a2 a3 st M Q => xw_s rfl rfl,
  fun a0 a1 a2 a3 y0 y1 st M Q => xw_s rfl rfl,
  fun a0 a1 a2 a3 st M Q => xw_s rfl rfl,
  fun a0 a1 a2 a3 y0 y1 y2 M Q => xw_call rfl rfl rfl,
  fun a0 a1 a2 a3 M Q => xw_retv rfl rfl,
  fun a0 a1 a2 a3 st M Q => xw_s rfl rfl⟩
theorem j31 : True := trivial

set_option maxRecDepth 20000 in
theorem s32 :
  (∀ (a0 : Nat) (a1 : Int32) (a2 : Int32) (st : List Value) (M : xM) (Q : Option Value → xM → Prop), xW xSC 32 0 [.ref a0, .int a1, .int a2] (st) M Q = xW xSC 32 1 [.ref a0, .int a1, .int a2] (.ref a0 :: st) M Q) ∧
  (∀ (a0 : Nat) (a1 : Int32) (a2 : Int32) (st : List Value) (M : xM) (Q : Option Value → xM → Prop), xW xSC 32 1 [.ref a0, .int a1, .int a2] (.ref 4 :: st) M Q = xW xSC 32 4 [.ref a0, .int a1, .int a2] (.ref 7 :: st) M Q) ∧
  (∀ (a0 : Nat) (a1 : Int32) (a2 : Int32) (st : List Value) (M : xM) (Q : Option Value → xM → Prop), xW xSC 32 4 [.ref a0, .int a1, .int a2] (st) M Q = xW xSC 32 5 [.ref a0, .int a1, .int a2] (.int a1 :: st) M Q) ∧
  (∀ (a0 : Nat) (a1 : Int32) (a2 : Int32) (st : List Value) (M : xM) (Q : Option Value → xM → Prop), xW xSC 32 5 [.ref a0, .int a1, .int a2] (st) M Q = xW xSC 32 7 [.ref a0, .int a1, .int a2] (.int (nI 16) :: st) M Q) ∧
  (∀ (a0 : Nat) (a1 : Int32) (a2 : Int32) (y0 : Int32) (y1 : Int32) (st : List Value) (M : xM) (Q : Option Value → xM → Prop), xW xSC 32 7 [.ref a0, .int a1, .int a2] (.int y0 :: .int y1 :: st) M Q = xW xSC 32 8 [.ref a0, .int a1, .int a2] (.int (y1 * y0) :: st) M Q) ∧
  (∀ (a0 : Nat) (a1 : Int32) (a2 : Int32) (st : List Value) (M : xM) (Q : Option Value → xM → Prop), xW xSC 32 8 [.ref a0, .int a1, .int a2] (st) M Q = xW xSC 32 9 [.ref a0, .int a1, .int a2] (.int a2 :: st) M Q) ∧
  (∀ (a0 : Nat) (a1 : Int32) (a2 : Int32) (y0 : Int32) (y1 : Int32) (st : List Value) (M : xM) (Q : Option Value → xM → Prop), xW xSC 32 9 [.ref a0, .int a1, .int a2] (.int y0 :: .int y1 :: st) M Q = xW xSC 32 10 [.ref a0, .int a1, .int a2] (.int (y1 + y0) :: st) M Q) ∧
  (∀ (a0 : Nat) (a1 : Int32) (a2 : Int32) (y0 : Int32) (y1 : Nat) (M : xM) (Q : Option Value → xM → Prop), xW xSC 32 10 [.ref a0, .int a1, .int a2] (.int y0 :: .ref y1 :: []) M Q = xW xSC 0 0 [.ref y1, .int y0] [] M (fun v M' => xW xSC 32 13 [.ref a0, .int a1, .int a2] (xpush v []) M' Q)) ∧
  (∀ (a0 : Nat) (a1 : Int32) (a2 : Int32) (y0 : Int32) (M : xM) (Q : Option Value → xM → Prop), xW xSC 32 13 [.ref a0, .int a1, .int a2] ([.int y0]) M Q = Q (some (.int y0)) M) ∧
  (∀ (a0 : Nat) (a1 : Int32) (a2 : Int32) (st : List Value) (M : xM) (Q : Option Value → xM → Prop), xW xSC 32 1 [.ref a0, .int a1, .int a2] (.ref 9 :: st) M Q = xW xSC 32 4 [.ref a0, .int a1, .int a2] (.ref 12 :: st) M Q) :=
  ⟨fun a0 a1 a2 st M Q => xw_s rfl rfl,
  fun a0 a1 a2 st M Q => xw_s rfl rfl,
  fun a0 a1 a2 st M Q => xw_s rfl rfl,
  fun a0 a1 a2 st M Q => xw_s rfl rfl,
  fun a0 a1 a2 y0 y1 st M Q => xw_s rfl rfl,
  fun a0 a1 a2 st M Q => xw_s rfl rfl,
  fun a0 a1 a2 y0 y1 st M Q => xw_s rfl rfl,
  fun a0 a1 a2 y0 y1 M Q => xw_call rfl rfl rfl,
  fun a0 a1 a2 y0 M Q => xw_ret rfl rfl,
  fun a0 a1 a2 st M Q => xw_s rfl rfl⟩
theorem j32 : True := trivial

set_option maxRecDepth 20000 in
theorem s33 :
  (∀ (a0 : Nat) (a1 : Int32) (a2 : Int32) (a3 : Int32) (st : List Value) (M : xM) (Q : Option Value → xM → Prop), xW xSC 33 0 [.ref a0, .int a1, .int a2, .int a3] (st) M Q = xW xSC 33 1 [.ref a0, .int a1, .int a2, .int a3] (.ref a0 :: st) M Q) ∧
  (∀ (a0 : Nat) (a1 : Int32) (a2 : Int32) (a3 : Int32) (st : List Value) (M : xM) (Q : Option Value → xM → Prop), xW xSC 33 1 [.ref a0, .int a1, .int a2, .int a3] (.ref 4 :: st) M Q = xW xSC 33 4 [.ref a0, .int a1, .int a2, .int a3] (.ref 7 :: st) M Q) ∧
  (∀ (a0 : Nat) (a1 : Int32) (a2 : Int32) (a3 : Int32) (st : List Value) (M : xM) (Q : Option Value → xM → Prop), xW xSC 33 4 [.ref a0, .int a1, .int a2, .int a3] (st) M Q = xW xSC 33 5 [.ref a0, .int a1, .int a2, .int a3] (.int a1 :: st) M Q) ∧
  (∀ (a0 : Nat) (a1 : Int32) (a2 : Int32) (a3 : Int32) (st : List Value) (M : xM) (Q : Option Value → xM → Prop), xW xSC 33 5 [.ref a0, .int a1, .int a2, .int a3] (st) M Q = xW xSC 33 7 [.ref a0, .int a1, .int a2, .int a3] (.int (nI 16) :: st) M Q) ∧
  (∀ (a0 : Nat) (a1 : Int32) (a2 : Int32) (a3 : Int32) (y0 : Int32) (y1 : Int32) (st : List Value) (M : xM) (Q : Option Value → xM → Prop), xW xSC 33 7 [.ref a0, .int a1, .int a2, .int a3] (.int y0 :: .int y1 :: st) M Q = xW xSC 33 8 [.ref a0, .int a1, .int a2, .int a3] (.int (y1 * y0) :: st) M Q) ∧
  (∀ (a0 : Nat) (a1 : Int32) (a2 : Int32) (a3 : Int32) (st : List Value) (M : xM) (Q : Option Value → xM → Prop), xW xSC 33 8 [.ref a0, .int a1, .int a2, .int a3] (st) M Q = xW xSC 33 9 [.ref a0, .int a1, .int a2, .int a3] (.int a2 :: st) M Q) ∧
  (∀ (a0 : Nat) (a1 : Int32) (a2 : Int32) (a3 : Int32) (y0 : Int32) (y1 : Int32) (st : List Value) (M : xM) (Q : Option Value → xM → Prop), xW xSC 33 9 [.ref a0, .int a1, .int a2, .int a3] (.int y0 :: .int y1 :: st) M Q = xW xSC 33 10 [.ref a0, .int a1, .int a2, .int a3] (.int (y1 + y0) :: st) M Q) ∧
  (∀ (a0 : Nat) (a1 : Int32) (a2 : Int32) (a3 : Int32) (st : List Value) (M : xM) (Q : Option Value → xM → Prop), xW xSC 33 10 [.ref a0, .int a1, .int a2, .int a3] (st) M Q = xW xSC 33 11 [.ref a0, .int a1, .int a2, .int a3] (.int a3 :: st) M Q) ∧
  (∀ (a0 : Nat) (a1 : Int32) (a2 : Int32) (a3 : Int32) (y0 : Int32) (y1 : Int32) (y2 : Nat) (M : xM) (Q : Option Value → xM → Prop), xW xSC 33 11 [.ref a0, .int a1, .int a2, .int a3] (.int y0 :: .int y1 :: .ref y2 :: []) M Q = xW xSC 1 0 [.ref y2, .int y1, .int y0] [] M (fun v M' => xW xSC 33 14 [.ref a0, .int a1, .int a2, .int a3] (xpush v []) M' Q)) ∧
  (∀ (a0 : Nat) (a1 : Int32) (a2 : Int32) (a3 : Int32) (M : xM) (Q : Option Value → xM → Prop), xW xSC 33 14 [.ref a0, .int a1, .int a2, .int a3] ([]) M Q = Q none M) ∧
  (∀ (a0 : Nat) (a1 : Int32) (a2 : Int32) (a3 : Int32) (st : List Value) (M : xM) (Q : Option Value → xM → Prop), xW xSC 33 1 [.ref a0, .int a1, .int a2, .int a3] (.ref 9 :: st) M Q = xW xSC 33 4 [.ref a0, .int a1, .int a2, .int a3] (.ref 12 :: st) M Q) :=
  ⟨fun a0 a1 a2 a3 st M Q => xw_s rfl rfl,
  fun a0 a1 a2 a3 st M Q => xw_s rfl rfl,
  fun a0 a1 a2 a3 st M Q => xw_s rfl rfl,
  fun a0 a1 a2 a3 st M Q => xw_s rfl rfl,
  fun a0 a1 a2 a3 y0 y1 st M Q => xw_s rfl rfl,
  fun a0 a1 a2 a3 st M Q => xw_s rfl rfl,
  fun a0 a1 a2 a3 y0 y1 st M Q => xw_s rfl rfl,
  fun a0 a1 a2 a3 st M Q => xw_s rfl rfl,
  fun a0 a1 a2 a3 y0 y1 y2 M Q => xw_call rfl rfl rfl,
  fun a0 a1 a2 a3 M Q => xw_retv rfl rfl,
  fun a0 a1 a2 a3 st M Q => xw_s rfl rfl⟩
theorem j33 : True := trivial

set_option maxRecDepth 20000 in
theorem s34 :
  (∀ (a0 : Nat) (a1 : Int32) (st : List Value) (M : xM) (Q : Option Value → xM → Prop), xW xSC 34 0 [.ref a0, .int a1] (st) M Q = xW xSC 34 1 [.ref a0, .int a1] (.ref a0 :: st) M Q) ∧
  (∀ (a0 : Nat) (a1 : Int32) (st : List Value) (M : xM) (Q : Option Value → xM → Prop), xW xSC 34 1 [.ref a0, .int a1] (.ref 4 :: st) M Q = xW xSC 34 4 [.ref a0, .int a1] (.ref 8 :: st) M Q) ∧
  (∀ (a0 : Nat) (a1 : Int32) (st : List Value) (M : xM) (Q : Option Value → xM → Prop), xW xSC 34 4 [.ref a0, .int a1] (st) M Q = xW xSC 34 5 [.ref a0, .int a1] (.int a1 :: st) M Q) ∧
  (∀ (a0 : Nat) (a1 : Int32) (y0 : Int32) (y1 : Nat) (M : xM) (Q : Option Value → xM → Prop), xW xSC 34 5 [.ref a0, .int a1] (.int y0 :: .ref y1 :: []) M Q = xW xSC 0 0 [.ref y1, .int y0] [] M (fun v M' => xW xSC 34 8 [.ref a0, .int a1] (xpush v []) M' Q)) ∧
  (∀ (a0 : Nat) (a1 : Int32) (y0 : Int32) (M : xM) (Q : Option Value → xM → Prop), xW xSC 34 8 [.ref a0, .int a1] ([.int y0]) M Q = Q (some (.int y0)) M) ∧
  (∀ (a0 : Nat) (a1 : Int32) (st : List Value) (M : xM) (Q : Option Value → xM → Prop), xW xSC 34 1 [.ref a0, .int a1] (.ref 9 :: st) M Q = xW xSC 34 4 [.ref a0, .int a1] (.ref 13 :: st) M Q) :=
  ⟨fun a0 a1 st M Q => xw_s rfl rfl,
  fun a0 a1 st M Q => xw_s rfl rfl,
  fun a0 a1 st M Q => xw_s rfl rfl,
  fun a0 a1 y0 y1 M Q => xw_call rfl rfl rfl,
  fun a0 a1 y0 M Q => xw_ret rfl rfl,
  fun a0 a1 st M Q => xw_s rfl rfl⟩
theorem j34 : True := trivial

set_option maxRecDepth 20000 in
theorem s35 :
  (∀ (a0 : Nat) (a1 : Int32) (a2 : Int32) (st : List Value) (M : xM) (Q : Option Value → xM → Prop), xW xSC 35 0 [.ref a0, .int a1, .int a2] (st) M Q = xW xSC 35 1 [.ref a0, .int a1, .int a2] (.ref a0 :: st) M Q) ∧
  (∀ (a0 : Nat) (a1 : Int32) (a2 : Int32) (st : List Value) (M : xM) (Q : Option Value → xM → Prop), xW xSC 35 1 [.ref a0, .int a1, .int a2] (.ref 4 :: st) M Q = xW xSC 35 4 [.ref a0, .int a1, .int a2] (.ref 8 :: st) M Q) ∧
  (∀ (a0 : Nat) (a1 : Int32) (a2 : Int32) (st : List Value) (M : xM) (Q : Option Value → xM → Prop), xW xSC 35 4 [.ref a0, .int a1, .int a2] (st) M Q = xW xSC 35 5 [.ref a0, .int a1, .int a2] (.int a1 :: st) M Q) ∧
  (∀ (a0 : Nat) (a1 : Int32) (a2 : Int32) (st : List Value) (M : xM) (Q : Option Value → xM → Prop), xW xSC 35 5 [.ref a0, .int a1, .int a2] (st) M Q = xW xSC 35 6 [.ref a0, .int a1, .int a2] (.int a2 :: st) M Q) ∧
  (∀ (a0 : Nat) (a1 : Int32) (a2 : Int32) (y0 : Int32) (y1 : Int32) (y2 : Nat) (M : xM) (Q : Option Value → xM → Prop), xW xSC 35 6 [.ref a0, .int a1, .int a2] (.int y0 :: .int y1 :: .ref y2 :: []) M Q = xW xSC 1 0 [.ref y2, .int y1, .int y0] [] M (fun v M' => xW xSC 35 9 [.ref a0, .int a1, .int a2] (xpush v []) M' Q)) ∧
  (∀ (a0 : Nat) (a1 : Int32) (a2 : Int32) (M : xM) (Q : Option Value → xM → Prop), xW xSC 35 9 [.ref a0, .int a1, .int a2] ([]) M Q = Q none M) ∧
  (∀ (a0 : Nat) (a1 : Int32) (a2 : Int32) (st : List Value) (M : xM) (Q : Option Value → xM → Prop), xW xSC 35 1 [.ref a0, .int a1, .int a2] (.ref 9 :: st) M Q = xW xSC 35 4 [.ref a0, .int a1, .int a2] (.ref 13 :: st) M Q) :=
  ⟨fun a0 a1 a2 st M Q => xw_s rfl rfl,
  fun a0 a1 a2 st M Q => xw_s rfl rfl,
  fun a0 a1 a2 st M Q => xw_s rfl rfl,
  fun a0 a1 a2 st M Q => xw_s rfl rfl,
  fun a0 a1 a2 y0 y1 y2 M Q => xw_call rfl rfl rfl,
  fun a0 a1 a2 M Q => xw_retv rfl rfl,
  fun a0 a1 a2 st M Q => xw_s rfl rfl⟩
theorem j35 : True := trivial

set_option maxRecDepth 20000 in
theorem s36 :
  (∀ (a0 : Nat) (a1 : Int32) (a2 : Int32) (st : List Value) (M : xM) (Q : Option Value → xM → Prop), xW xSC 36 0 [.ref a0, .int a1, .int a2] (st) M Q = xW xSC 36 1 [.ref a0, .int a1, .int a2] (.ref a0 :: st) M Q) ∧
  (∀ (a0 : Nat) (a1 : Int32) (a2 : Int32) (st : List Value) (M : xM) (Q : Option Value → xM → Prop), xW xSC 36 1 [.ref a0, .int a1, .int a2] (st) M Q = xW xSC 36 2 [.ref a0, .int a1, .int a2] (.int a1 :: st) M Q) ∧
  (∀ (a0 : Nat) (a1 : Int32) (a2 : Int32) (st : List Value) (M : xM) (Q : Option Value → xM → Prop), xW xSC 36 2 [.ref a0, .int a1, .int a2] (st) M Q = xW xSC 36 3 [.ref a0, .int a1, .int a2] (.int (nI 4) :: st) M Q) ∧
  (∀ (a0 : Nat) (a1 : Int32) (a2 : Int32) (st : List Value) (M : xM) (Q : Option Value → xM → Prop), xW xSC 36 3 [.ref a0, .int a1, .int a2] (st) M Q = xW xSC 36 4 [.ref a0, .int a1, .int a2] (.int a2 :: st) M Q) ∧
  (∀ (a0 : Nat) (a1 : Int32) (a2 : Int32) (y0 : Int32) (y1 : Int32) (st : List Value) (M : xM) (Q : Option Value → xM → Prop), xW xSC 36 4 [.ref a0, .int a1, .int a2] (.int y0 :: .int y1 :: st) M Q = xW xSC 36 5 [.ref a0, .int a1, .int a2] (.int (y1 + y0) :: st) M Q) ∧
  (∀ (a0 : Nat) (a1 : Int32) (a2 : Int32) (y0 : Int32) (y1 : Int32) (M : xM) (Q : Option Value → xM → Prop), xW xSC 36 5 [.ref a0, .int a1, .int a2] (.int y0 :: .int y1 :: .ref 4 :: []) M Q = xW xSC 28 0 [.ref 4, .int y1, .int y0] [] M (fun v M' => xW xSC 36 8 [.ref a0, .int a1, .int a2] (xpush v []) M' Q)) ∧
  (∀ (a0 : Nat) (a1 : Int32) (a2 : Int32) (y0 : Int32) (M : xM) (Q : Option Value → xM → Prop), xW xSC 36 8 [.ref a0, .int a1, .int a2] ([.int y0]) M Q = Q (some (.int y0)) M) ∧
  (∀ (a0 : Nat) (a1 : Int32) (a2 : Int32) (y0 : Int32) (y1 : Int32) (M : xM) (Q : Option Value → xM → Prop), xW xSC 36 5 [.ref a0, .int a1, .int a2] (.int y0 :: .int y1 :: .ref 9 :: []) M Q = xW xSC 28 0 [.ref 9, .int y1, .int y0] [] M (fun v M' => xW xSC 36 8 [.ref a0, .int a1, .int a2] (xpush v []) M' Q)) :=
  ⟨fun a0 a1 a2 st M Q => xw_s rfl rfl,
  fun a0 a1 a2 st M Q => xw_s rfl rfl,
  fun a0 a1 a2 st M Q => xw_s rfl rfl,
  fun a0 a1 a2 st M Q => xw_s rfl rfl,
  fun a0 a1 a2 y0 y1 st M Q => xw_s rfl rfl,
  fun a0 a1 a2 y0 y1 M Q => xw_call rfl rfl rfl,
  fun a0 a1 a2 y0 M Q => xw_ret rfl rfl,
  fun a0 a1 a2 y0 y1 M Q => xw_call rfl rfl rfl⟩
theorem j36 : True := trivial

set_option maxRecDepth 20000 in
theorem s37 :
  (∀ (a0 : Nat) (a1 : Int32) (a2 : Int32) (st : List Value) (M : xM) (Q : Option Value → xM → Prop), xW xSC 37 0 [.ref a0, .int a1, .int a2] (st) M Q = xW xSC 37 1 [.ref a0, .int a1, .int a2] (.ref a0 :: st) M Q) ∧
  (∀ (a0 : Nat) (a1 : Int32) (a2 : Int32) (st : List Value) (M : xM) (Q : Option Value → xM → Prop), xW xSC 37 1 [.ref a0, .int a1, .int a2] (st) M Q = xW xSC 37 2 [.ref a0, .int a1, .int a2] (.int a1 :: st) M Q) ∧
  (∀ (a0 : Nat) (a1 : Int32) (a2 : Int32) (st : List Value) (M : xM) (Q : Option Value → xM → Prop), xW xSC 37 2 [.ref a0, .int a1, .int a2] (st) M Q = xW xSC 37 3 [.ref a0, .int a1, .int a2] (.int (nI 2) :: st) M Q) ∧
  (∀ (a0 : Nat) (a1 : Int32) (a2 : Int32) (y0 : Int32) (y1 : Int32) (M : xM) (Q : Option Value → xM → Prop), xW xSC 37 3 [.ref a0, .int a1, .int a2] (.int y0 :: .int y1 :: .ref 4 :: []) M Q = xW xSC 28 0 [.ref 4, .int y1, .int y0] [] M (fun v M' => xW xSC 37 6 [.ref a0, .int a1, .int a2] (xpush v []) M' Q)) ∧
  (∀ (a0 : Nat) (a1 : Int32) (a2 : Int32) (st : List Value) (M : xM) (Q : Option Value → xM → Prop), xW xSC 37 6 [.ref a0, .int a1, .int a2] (st) M Q = xW xSC 37 7 [.ref a0, .int a1, .int a2] (.int a2 :: st) M Q) ∧
  (∀ (a0 : Nat) (a1 : Int32) (a2 : Int32) (y0 : Int32) (y1 : Int32) (M : xM) (Q : Option Value → xM → Prop), xW xSC 37 7 [.ref a0, .int a1, .int a2] (.int y0 :: .int y1 :: []) M Q = xW xSC 38 0 [.int y1, .int y0] [] M (fun v M' => xW xSC 37 10 [.ref a0, .int a1, .int a2] (xpush v []) M' Q)) ∧
  (∀ (a0 : Nat) (a1 : Int32) (a2 : Int32) (y0 : Int32) (M : xM) (Q : Option Value → xM → Prop), xW xSC 37 10 [.ref a0, .int a1, .int a2] ([.int y0]) M Q = Q (some (.int y0)) M) ∧
  (∀ (a0 : Nat) (a1 : Int32) (a2 : Int32) (y0 : Int32) (y1 : Int32) (M : xM) (Q : Option Value → xM → Prop), xW xSC 37 3 [.ref a0, .int a1, .int a2] (.int y0 :: .int y1 :: .ref 9 :: []) M Q = xW xSC 28 0 [.ref 9, .int y1, .int y0] [] M (fun v M' => xW xSC 37 6 [.ref a0, .int a1, .int a2] (xpush v []) M' Q)) :=
  ⟨fun a0 a1 a2 st M Q => xw_s rfl rfl,
  fun a0 a1 a2 st M Q => xw_s rfl rfl,
  fun a0 a1 a2 st M Q => xw_s rfl rfl,
  fun a0 a1 a2 y0 y1 M Q => xw_call rfl rfl rfl,
  fun a0 a1 a2 st M Q => xw_s rfl rfl,
  fun a0 a1 a2 y0 y1 M Q => xw_call rfl rfl rfl,
  fun a0 a1 a2 y0 M Q => xw_ret rfl rfl,
  fun a0 a1 a2 y0 y1 M Q => xw_call rfl rfl rfl⟩
theorem j37 : True := trivial

set_option maxRecDepth 20000 in
theorem s38 :
  (∀ (a0 : Int32) (a1 : Int32) (st : List Value) (M : xM) (Q : Option Value → xM → Prop), xW xSC 38 0 [.int a0, .int a1] (st) M Q = xW xSC 38 1 [.int a0, .int a1] (.int a0 :: st) M Q) ∧
  (∀ (a0 : Int32) (a1 : Int32) (st : List Value) (M : xM) (Q : Option Value → xM → Prop), xW xSC 38 1 [.int a0, .int a1] (st) M Q = xW xSC 38 2 [.int a0, .int a1] (.int (nI 2) :: st) M Q) ∧
  (∀ (a0 : Int32) (a1 : Int32) (y0 : Int32) (y1 : Int32) (st : List Value) (M : xM) (Q : Option Value → xM → Prop), xW xSC 38 2 [.int a0, .int a1] (.int y0 :: .int y1 :: st) M Q = if y1 = y0 then xW xSC 38 5 [.int a0, .int a1] (st) M Q else xW xSC 38 7 [.int a0, .int a1] (st) M Q) ∧
  (∀ (a0 : Int32) (a1 : Int32) (st : List Value) (M : xM) (Q : Option Value → xM → Prop), xW xSC 38 5 [.int a0, .int a1] (st) M Q = xW xSC 38 6 [.int a0, .int a1] (.int (nI 2) :: st) M Q) ∧
  (∀ (a0 : Int32) (a1 : Int32) (y0 : Int32) (M : xM) (Q : Option Value → xM → Prop), xW xSC 38 6 [.int a0, .int a1] ([.int y0]) M Q = Q (some (.int y0)) M) ∧
  (∀ (a0 : Int32) (a1 : Int32) (st : List Value) (M : xM) (Q : Option Value → xM → Prop), xW xSC 38 7 [.int a0, .int a1] (st) M Q = xW xSC 38 8 [.int a0, .int a1] (.int a0 :: st) M Q) ∧
  (∀ (a0 : Int32) (a1 : Int32) (st : List Value) (M : xM) (Q : Option Value → xM → Prop), xW xSC 38 8 [.int a0, .int a1] (st) M Q = xW xSC 38 9 [.int a0, .int a1] (.int a1 :: st) M Q) ∧
  (∀ (a0 : Int32) (a1 : Int32) (y0 : Int32) (y1 : Int32) (st : List Value) (M : xM) (Q : Option Value → xM → Prop), xW xSC 38 9 [.int a0, .int a1] (.int y0 :: .int y1 :: st) M Q = if y1 = y0 then xW xSC 38 12 [.int a0, .int a1] (st) M Q else xW xSC 38 16 [.int a0, .int a1] (st) M Q) ∧
  (∀ (a0 : Int32) (a1 : Int32) (st : List Value) (M : xM) (Q : Option Value → xM → Prop), xW xSC 38 12 [.int a0, .int a1] (st) M Q = xW xSC 38 13 [.int a0, .int a1] (.int (nI 0) :: st) M Q) ∧
  (∀ (a0 : Int32) (a1 : Int32) (st : List Value) (M : xM) (Q : Option Value → xM → Prop), xW xSC 38 13 [.int a0, .int a1] (st) M Q = xW xSC 38 17 [.int a0, .int a1] (st) M Q) ∧
  (∀ (a0 : Int32) (a1 : Int32) (st : List Value) (M : xM) (Q : Option Value → xM → Prop), xW xSC 38 16 [.int a0, .int a1] (st) M Q = xW xSC 38 17 [.int a0, .int a1] (.int (nI 1) :: st) M Q) :=
  ⟨fun a0 a1 st M Q => xw_s rfl rfl,
  fun a0 a1 st M Q => xw_s rfl rfl,
  fun a0 a1 y0 y1 st M Q => xw_brn (c0 := y1 ≠ y0) (c1 := y1 = y0) rfl rfl (Iff.rfl),
  fun a0 a1 st M Q => xw_s rfl rfl,
  fun a0 a1 y0 M Q => xw_ret rfl rfl,
  fun a0 a1 st M Q => xw_s rfl rfl,
  fun a0 a1 st M Q => xw_s rfl rfl,
  fun a0 a1 y0 y1 st M Q => xw_brn (c0 := y1 ≠ y0) (c1 := y1 = y0) rfl rfl (Iff.rfl),
  fun a0 a1 st M Q => xw_s rfl rfl,
  fun a0 a1 st M Q => xw_s rfl rfl,
  fun a0 a1 st M Q => xw_s rfl rfl⟩
set_option maxRecDepth 20000 in
theorem h38_17 :
  (∀ (a0 : Int32) (a1 : Int32) (y0 : Int32) (M : xM) (Q : Option Value → xM → Prop), xW xSC 38 17 [.int a0, .int a1] ([.int y0]) M Q = Q (some (.int y0)) M) :=
  fun a0 a1 y0 M Q => xw_ret rfl rfl
set_option maxRecDepth 20000 in
theorem j38 :
  (∀ (a0 : Int32) (a1 : Int32) (y0 : Int32) (M : xM) (Q : Option Value → xM → Prop), xW xSC 38 17 [.int a0, .int a1] ([.int y0]) M Q = Q (some (.int y0)) M) :=
  fun a0 a1 y0 M Q => xw_ret rfl rfl

set_option maxRecDepth 20000 in
theorem s39 :
  (∀ (a0 : Nat) (a1 : Int32) (a2 : Int32) (st : List Value) (M : xM) (Q : Option Value → xM → Prop), xW xSC 39 0 [.ref a0, .int a1, .int a2] (st) M Q = xW xSC 39 1 [.ref a0, .int a1, .int a2] (.ref a0 :: st) M Q) ∧
  (∀ (a0 : Nat) (a1 : Int32) (a2 : Int32) (st : List Value) (M : xM) (Q : Option Value → xM → Prop), xW xSC 39 1 [.ref a0, .int a1, .int a2] (st) M Q = xW xSC 39 2 [.ref a0, .int a1, .int a2] (.int a1 :: st) M Q) ∧
  (∀ (a0 : Nat) (a1 : Int32) (a2 : Int32) (st : List Value) (M : xM) (Q : Option Value → xM → Prop), xW xSC 39 2 [.ref a0, .int a1, .int a2] (st) M Q = xW xSC 39 3 [.ref a0, .int a1, .int a2] (.int a2 :: st) M Q) ∧
  (∀ (a0 : Nat) (a1 : Int32) (a2 : Int32) (y0 : Int32) (st : List Value) (M : xM) (Q : Option Value → xM → Prop), xW xSC 39 3 [.ref a0, .int a1, .int a2] (.int y0 :: st) M Q = if y0 = nI 0 then xW xSC 39 6 [.ref a0, .int a1, .int a2] (st) M Q else xW xSC 39 10 [.ref a0, .int a1, .int a2] (st) M Q) ∧
  (∀ (a0 : Nat) (a1 : Int32) (a2 : Int32) (st : List Value) (M : xM) (Q : Option Value → xM → Prop), xW xSC 39 6 [.ref a0, .int a1, .int a2] (st) M Q = xW xSC 39 7 [.ref a0, .int a1, .int a2] (.int (nI 0) :: st) M Q) ∧
  (∀ (a0 : Nat) (a1 : Int32) (a2 : Int32) (st : List Value) (M : xM) (Q : Option Value → xM → Prop), xW xSC 39 7 [.ref a0, .int a1, .int a2] (st) M Q = xW xSC 39 11 [.ref a0, .int a1, .int a2] (st) M Q) ∧
  (∀ (a0 : Nat) (a1 : Int32) (a2 : Int32) (st : List Value) (M : xM) (Q : Option Value → xM → Prop), xW xSC 39 10 [.ref a0, .int a1, .int a2] (st) M Q = xW xSC 39 11 [.ref a0, .int a1, .int a2] (.int (nI 1) :: st) M Q) ∧
  (∀ (a0 : Nat) (a1 : Int32) (a2 : Int32) (y0 : Int32) (M : xM) (Q : Option Value → xM → Prop), xW xSC 39 14 [.ref a0, .int a1, .int a2] ([.int y0]) M Q = Q (some (.int y0)) M) :=
  ⟨fun a0 a1 a2 st M Q => xw_s rfl rfl,
  fun a0 a1 a2 st M Q => xw_s rfl rfl,
  fun a0 a1 a2 st M Q => xw_s rfl rfl,
  fun a0 a1 a2 y0 st M Q => xw_brn (c0 := y0 ≠ nI 0) (c1 := y0 = nI 0) rfl rfl (Iff.rfl),
  fun a0 a1 a2 st M Q => xw_s rfl rfl,
  fun a0 a1 a2 st M Q => xw_s rfl rfl,
  fun a0 a1 a2 st M Q => xw_s rfl rfl,
  fun a0 a1 a2 y0 M Q => xw_ret rfl rfl⟩
set_option maxRecDepth 20000 in
theorem h39_11 :
  (∀ (a0 : Nat) (a1 : Int32) (a2 : Int32) (y0 : Int32) (y1 : Int32) (M : xM) (Q : Option Value → xM → Prop), xW xSC 39 11 [.ref a0, .int a1, .int a2] (.int y0 :: .int y1 :: .ref 4 :: []) M Q = xW xSC 28 0 [.ref 4, .int y1, .int y0] [] M (fun v M' => xW xSC 39 14 [.ref a0, .int a1, .int a2] (xpush v []) M' Q)) ∧
  (∀ (a0 : Nat) (a1 : Int32) (a2 : Int32) (y0 : Int32) (y1 : Int32) (M : xM) (Q : Option Value → xM → Prop), xW xSC 39 11 [.ref a0, .int a1, .int a2] (.int y0 :: .int y1 :: .ref 9 :: []) M Q = xW xSC 28 0 [.ref 9, .int y1, .int y0] [] M (fun v M' => xW xSC 39 14 [.ref a0, .int a1, .int a2] (xpush v []) M' Q)) :=
  ⟨fun a0 a1 a2 y0 y1 M Q => xw_call rfl rfl rfl,
  fun a0 a1 a2 y0 y1 M Q => xw_call rfl rfl rfl⟩
set_option maxRecDepth 20000 in
theorem j39 :
  (∀ (a0 : Nat) (a1 : Int32) (a2 : Int32) (y0 : Int32) (y1 : Int32) (M : xM) (Q : Option Value → xM → Prop), xW xSC 39 11 [.ref a0, .int a1, .int a2] (.int y0 :: .int y1 :: .ref 4 :: []) M Q = xW xSC 28 0 [.ref 4, .int y1, .int y0] [] M (fun v M' => xW xSC 39 14 [.ref a0, .int a1, .int a2] (xpush v []) M' Q)) ∧
  (∀ (a0 : Nat) (a1 : Int32) (a2 : Int32) (y0 : Int32) (y1 : Int32) (M : xM) (Q : Option Value → xM → Prop), xW xSC 39 11 [.ref a0, .int a1, .int a2] (.int y0 :: .int y1 :: .ref 9 :: []) M Q = xW xSC 28 0 [.ref 9, .int y1, .int y0] [] M (fun v M' => xW xSC 39 14 [.ref a0, .int a1, .int a2] (xpush v []) M' Q)) :=
  ⟨fun a0 a1 a2 y0 y1 M Q => xw_call rfl rfl rfl,
  fun a0 a1 a2 y0 y1 M Q => xw_call rfl rfl rfl⟩

set_option maxRecDepth 20000 in
theorem s40 :
  (∀ (a0 : Nat) (a1 : Int32) (a2 : Int32) (st : List Value) (M : xM) (Q : Option Value → xM → Prop), xW xSC 40 0 [.ref a0, .int a1, .int a2] (st) M Q = xW xSC 40 1 [.ref a0, .int a1, .int a2] (.ref a0 :: st) M Q) ∧
  (∀ (a0 : Nat) (a1 : Int32) (a2 : Int32) (st : List Value) (M : xM) (Q : Option Value → xM → Prop), xW xSC 40 1 [.ref a0, .int a1, .int a2] (st) M Q = xW xSC 40 2 [.ref a0, .int a1, .int a2] (.int a1 :: st) M Q) ∧
  (∀ (a0 : Nat) (a1 : Int32) (a2 : Int32) (st : List Value) (M : xM) (Q : Option Value → xM → Prop), xW xSC 40 2 [.ref a0, .int a1, .int a2] (st) M Q = xW xSC 40 3 [.ref a0, .int a1, .int a2] (.int (nI 0) :: st) M Q) ∧
  (∀ (a0 : Nat) (a1 : Int32) (a2 : Int32) (y0 : Int32) (y1 : Int32) (M : xM) (Q : Option Value → xM → Prop), xW xSC 40 3 [.ref a0, .int a1, .int a2] (.int y0 :: .int y1 :: .ref 4 :: []) M Q = xW xSC 39 0 [.ref 4, .int y1, .int y0] [] M (fun v M' => xW xSC 40 6 [.ref a0, .int a1, .int a2] (xpush v []) M' Q)) ∧
  (∀ (a0 : Nat) (a1 : Int32) (a2 : Int32) (st : List Value) (M : xM) (Q : Option Value → xM → Prop), xW xSC 40 6 [.ref a0, .int a1, .int a2] (st) M Q = xW xSC 40 7 [.ref a0, .int a1, .int a2] (.int a2 :: st) M Q) ∧
  (∀ (a0 : Nat) (a1 : Int32) (a2 : Int32) (y0 : Int32) (y1 : Int32) (st : List Value) (M : xM) (Q : Option Value → xM → Prop), xW xSC 40 7 [.ref a0, .int a1, .int a2] (.int y0 :: .int y1 :: st) M Q = if y1 = y0 then xW xSC 40 10 [.ref a0, .int a1, .int a2] (st) M Q else xW xSC 40 12 [.ref a0, .int a1, .int a2] (st) M Q) ∧
  (∀ (a0 : Nat) (a1 : Int32) (a2 : Int32) (st : List Value) (M : xM) (Q : Option Value → xM → Prop), xW xSC 40 10 [.ref a0, .int a1, .int a2] (st) M Q = xW xSC 40 11 [.ref a0, .int a1, .int a2] (.int (nI 0) :: st) M Q) ∧
  (∀ (a0 : Nat) (a1 : Int32) (a2 : Int32) (y0 : Int32) (M : xM) (Q : Option Value → xM → Prop), xW xSC 40 11 [.ref a0, .int a1, .int a2] ([.int y0]) M Q = Q (some (.int y0)) M) ∧
  (∀ (a0 : Nat) (a1 : Int32) (a2 : Int32) (st : List Value) (M : xM) (Q : Option Value → xM → Prop), xW xSC 40 12 [.ref a0, .int a1, .int a2] (st) M Q = xW xSC 40 13 [.ref a0, .int a1, .int a2] (.ref a0 :: st) M Q) ∧
  (∀ (a0 : Nat) (a1 : Int32) (a2 : Int32) (st : List Value) (M : xM) (Q : Option Value → xM → Prop), xW xSC 40 13 [.ref a0, .int a1, .int a2] (st) M Q = xW xSC 40 14 [.ref a0, .int a1, .int a2] (.int a1 :: st) M Q) ∧
  (∀ (a0 : Nat) (a1 : Int32) (a2 : Int32) (st : List Value) (M : xM) (Q : Option Value → xM → Prop), xW xSC 40 14 [.ref a0, .int a1, .int a2] (st) M Q = xW xSC 40 15 [.ref a0, .int a1, .int a2] (.int (nI 1) :: st) M Q) ∧
  (∀ (a0 : Nat) (a1 : Int32) (a2 : Int32) (y0 : Int32) (y1 : Int32) (M : xM) (Q : Option Value → xM → Prop), xW xSC 40 15 [.ref a0, .int a1, .int a2] (.int y0 :: .int y1 :: .ref 4 :: []) M Q = xW xSC 39 0 [.ref 4, .int y1, .int y0] [] M (fun v M' => xW xSC 40 18 [.ref a0, .int a1, .int a2] (xpush v []) M' Q)) ∧
  (∀ (a0 : Nat) (a1 : Int32) (a2 : Int32) (st : List Value) (M : xM) (Q : Option Value → xM → Prop), xW xSC 40 18 [.ref a0, .int a1, .int a2] (st) M Q = xW xSC 40 19 [.ref a0, .int a1, .int a2] (.int a2 :: st) M Q) ∧
  (∀ (a0 : Nat) (a1 : Int32) (a2 : Int32) (y0 : Int32) (y1 : Int32) (st : List Value) (M : xM) (Q : Option Value → xM → Prop), xW xSC 40 19 [.ref a0, .int a1, .int a2] (.int y0 :: .int y1 :: st) M Q = if y1 = y0 then xW xSC 40 22 [.ref a0, .int a1, .int a2] (st) M Q else xW xSC 40 26 [.ref a0, .int a1, .int a2] (st) M Q) ∧
  (∀ (a0 : Nat) (a1 : Int32) (a2 : Int32) (st : List Value) (M : xM) (Q : Option Value → xM → Prop), xW xSC 40 22 [.ref a0, .int a1, .int a2] (st) M Q = xW xSC 40 23 [.ref a0, .int a1, .int a2] (.int (nI 1) :: st) M Q) ∧
  (∀ (a0 : Nat) (a1 : Int32) (a2 : Int32) (st : List Value) (M : xM) (Q : Option Value → xM → Prop), xW xSC 40 23 [.ref a0, .int a1, .int a2] (st) M Q = xW xSC 40 27 [.ref a0, .int a1, .int a2] (st) M Q) ∧
  (∀ (a0 : Nat) (a1 : Int32) (a2 : Int32) (st : List Value) (M : xM) (Q : Option Value → xM → Prop), xW xSC 40 26 [.ref a0, .int a1, .int a2] (st) M Q = xW xSC 40 27 [.ref a0, .int a1, .int a2] (.int (-1) :: st) M Q) ∧
  (∀ (a0 : Nat) (a1 : Int32) (a2 : Int32) (y0 : Int32) (y1 : Int32) (M : xM) (Q : Option Value → xM → Prop), xW xSC 40 3 [.ref a0, .int a1, .int a2] (.int y0 :: .int y1 :: .ref 9 :: []) M Q = xW xSC 39 0 [.ref 9, .int y1, .int y0] [] M (fun v M' => xW xSC 40 6 [.ref a0, .int a1, .int a2] (xpush v []) M' Q)) ∧
  (∀ (a0 : Nat) (a1 : Int32) (a2 : Int32) (y0 : Int32) (y1 : Int32) (M : xM) (Q : Option Value → xM → Prop), xW xSC 40 15 [.ref a0, .int a1, .int a2] (.int y0 :: .int y1 :: .ref 9 :: []) M Q = xW xSC 39 0 [.ref 9, .int y1, .int y0] [] M (fun v M' => xW xSC 40 18 [.ref a0, .int a1, .int a2] (xpush v []) M' Q)) :=
  ⟨fun a0 a1 a2 st M Q => xw_s rfl rfl,
  fun a0 a1 a2 st M Q => xw_s rfl rfl,
  fun a0 a1 a2 st M Q => xw_s rfl rfl,
  fun a0 a1 a2 y0 y1 M Q => xw_call rfl rfl rfl,
  fun a0 a1 a2 st M Q => xw_s rfl rfl,
  fun a0 a1 a2 y0 y1 st M Q => xw_brn (c0 := y1 ≠ y0) (c1 := y1 = y0) rfl rfl (Iff.rfl),
  fun a0 a1 a2 st M Q => xw_s rfl rfl,
  fun a0 a1 a2 y0 M Q => xw_ret rfl rfl,
  fun a0 a1 a2 st M Q => xw_s rfl rfl,
  fun a0 a1 a2 st M Q => xw_s rfl rfl,
  fun a0 a1 a2 st M Q => xw_s rfl rfl,
  fun a0 a1 a2 y0 y1 M Q => xw_call rfl rfl rfl,
  fun a0 a1 a2 st M Q => xw_s rfl rfl,
  fun a0 a1 a2 y0 y1 st M Q => xw_brn (c0 := y1 ≠ y0) (c1 := y1 = y0) rfl rfl (Iff.rfl),
  fun a0 a1 a2 st M Q => xw_s rfl rfl,
  fun a0 a1 a2 st M Q => xw_s rfl rfl,
  fun a0 a1 a2 st M Q => xw_s rfl rfl,
  fun a0 a1 a2 y0 y1 M Q => xw_call rfl rfl rfl,
  fun a0 a1 a2 y0 y1 M Q => xw_call rfl rfl rfl⟩
set_option maxRecDepth 20000 in
theorem h40_27 :
  (∀ (a0 : Nat) (a1 : Int32) (a2 : Int32) (y0 : Int32) (M : xM) (Q : Option Value → xM → Prop), xW xSC 40 27 [.ref a0, .int a1, .int a2] ([.int y0]) M Q = Q (some (.int y0)) M) :=
  fun a0 a1 a2 y0 M Q => xw_ret rfl rfl
set_option maxRecDepth 20000 in
theorem j40 :
  (∀ (a0 : Nat) (a1 : Int32) (a2 : Int32) (y0 : Int32) (M : xM) (Q : Option Value → xM → Prop), xW xSC 40 27 [.ref a0, .int a1, .int a2] ([.int y0]) M Q = Q (some (.int y0)) M) :=
  fun a0 a1 a2 y0 M Q => xw_ret rfl rfl

set_option maxRecDepth 20000 in
theorem s41 :
  (∀ (a0 : Nat) (a1 : Int32) (a2 : Value) (a3 : Value) (st : List Value) (M : xM) (Q : Option Value → xM → Prop), xW xSC 41 0 [.ref a0, .int a1, a2, a3] (st) M Q = xW xSC 41 1 [.ref a0, .int a1, a2, a3] (.int (nI 0) :: st) M Q) ∧
  (∀ (a0 : Nat) (a1 : Int32) (a2 : Value) (a3 : Value) (y0 : Int32) (st : List Value) (M : xM) (Q : Option Value → xM → Prop), xW xSC 41 1 [.ref a0, .int a1, a2, a3] (.int y0 :: st) M Q = xW xSC 41 2 [.ref a0, .int a1, .int y0, a3] (st) M Q) ∧
  (∀ (a0 : Nat) (a1 : Int32) (a2 : Int32) (a3 : Value) (st : List Value) (M : xM) (Q : Option Value → xM → Prop), xW xSC 41 2 [.ref a0, .int a1, .int a2, a3] (st) M Q = xW xSC 41 3 [.ref a0, .int a1, .int a2, a3] (.int (nI 0) :: st) M Q) ∧
  (∀ (a0 : Nat) (a1 : Int32) (a2 : Int32) (a3 : Value) (y0 : Int32) (st : List Value) (M : xM) (Q : Option Value → xM → Prop), xW xSC 41 3 [.ref a0, .int a1, .int a2, a3] (.int y0 :: st) M Q = xW xSC 41 4 [.ref a0, .int a1, .int a2, .int y0] (st) M Q) ∧
  (∀ (a0 : Nat) (a1 : Int32) (a2 : Int32) (a3 : Int32) (st : List Value) (M : xM) (Q : Option Value → xM → Prop), xW xSC 41 5 [.ref a0, .int a1, .int a2, .int a3] (st) M Q = xW xSC 41 6 [.ref a0, .int a1, .int a2, .int a3] (.int (nI 4) :: st) M Q) ∧
  (∀ (a0 : Nat) (a1 : Int32) (a2 : Int32) (a3 : Int32) (y0 : Int32) (y1 : Int32) (st : List Value) (M : xM) (Q : Option Value → xM → Prop), xW xSC 41 6 [.ref a0, .int a1, .int a2, .int a3] (.int y0 :: .int y1 :: st) M Q = if y1 < y0 then xW xSC 41 9 [.ref a0, .int a1, .int a2, .int a3] (st) M Q else xW xSC 41 35 [.ref a0, .int a1, .int a2, .int a3] (st) M Q) ∧
  (∀ (a0 : Nat) (a1 : Int32) (a2 : Int32) (a3 : Int32) (st : List Value) (M : xM) (Q : Option Value → xM → Prop), xW xSC 41 9 [.ref a0, .int a1, .int a2, .int a3] (st) M Q = xW xSC 41 10 [.ref a0, .int a1, .int a2, .int a3] (.int a1 :: st) M Q) ∧
  (∀ (a0 : Nat) (a1 : Int32) (a2 : Int32) (a3 : Int32) (st : List Value) (M : xM) (Q : Option Value → xM → Prop), xW xSC 41 10 [.ref a0, .int a1, .int a2, .int a3] (st) M Q = xW xSC 41 11 [.ref a0, .int a1, .int a2, .int a3] (.int a3 :: st) M Q) ∧
  (∀ (a0 : Nat) (a1 : Int32) (a2 : Int32) (a3 : Int32) (y0 : Int32) (y1 : Int32) (st : List Value) (M : xM) (Q : Option Value → xM → Prop), xW xSC 41 11 [.ref a0, .int a1, .int a2, .int a3] (.int y0 :: .int y1 :: st) M Q = xW xSC 41 12 [.ref a0, .int a1, .int a2, .int a3] (.int (y1 >>> (y0 &&& nI 31)) :: st) M Q) ∧
  (∀ (a0 : Nat) (a1 : Int32) (a2 : Int32) (a3 : Int32) (st : List Value) (M : xM) (Q : Option Value → xM → Prop), xW xSC 41 12 [.ref a0, .int a1, .int a2, .int a3] (st) M Q = xW xSC 41 13 [.ref a0, .int a1, .int a2, .int a3] (.int (nI 1) :: st) M Q) ∧
  (∀ (a0 : Nat) (a1 : Int32) (a2 : Int32) (a3 : Int32) (y0 : Int32) (y1 : Int32) (st : List Value) (M : xM) (Q : Option Value → xM → Prop), xW xSC 41 13 [.ref a0, .int a1, .int a2, .int a3] (.int y0 :: .int y1 :: st) M Q = xW xSC 41 14 [.ref a0, .int a1, .int a2, .int a3] (.int (y1 &&& y0) :: st) M Q) ∧
  (∀ (a0 : Nat) (a1 : Int32) (a2 : Int32) (a3 : Int32) (st : List Value) (M : xM) (Q : Option Value → xM → Prop), xW xSC 41 14 [.ref a0, .int a1, .int a2, .int a3] (st) M Q = xW xSC 41 15 [.ref a0, .int a1, .int a2, .int a3] (.int (nI 1) :: st) M Q) ∧
  (∀ (a0 : Nat) (a1 : Int32) (a2 : Int32) (a3 : Int32) (y0 : Int32) (y1 : Int32) (st : List Value) (M : xM) (Q : Option Value → xM → Prop), xW xSC 41 15 [.ref a0, .int a1, .int a2, .int a3] (.int y0 :: .int y1 :: st) M Q = if y1 = y0 then xW xSC 41 18 [.ref a0, .int a1, .int a2, .int a3] (st) M Q else xW xSC 41 29 [.ref a0, .int a1, .int a2, .int a3] (st) M Q) ∧
  (∀ (a0 : Nat) (a1 : Int32) (a2 : Int32) (a3 : Int32) (st : List Value) (M : xM) (Q : Option Value → xM → Prop), xW xSC 41 18 [.ref a0, .int a1, .int a2, .int a3] (st) M Q = xW xSC 41 19 [.ref a0, .int a1, .int a2, .int a3] (.int a2 :: st) M Q) ∧
  (∀ (a0 : Nat) (a1 : Int32) (a2 : Int32) (a3 : Int32) (st : List Value) (M : xM) (Q : Option Value → xM → Prop), xW xSC 41 19 [.ref a0, .int a1, .int a2, .int a3] (st) M Q = xW xSC 41 20 [.ref a0, .int a1, .int a2, .int a3] (.ref a0 :: st) M Q) ∧
  (∀ (a0 : Nat) (a1 : Int32) (a2 : Int32) (a3 : Int32) (st : List Value) (M : xM) (Q : Option Value → xM → Prop), xW xSC 41 20 [.ref a0, .int a1, .int a2, .int a3] (st) M Q = xW xSC 41 22 [.ref a0, .int a1, .int a2, .int a3] (.int (nI 6) :: st) M Q) ∧
  (∀ (a0 : Nat) (a1 : Int32) (a2 : Int32) (a3 : Int32) (st : List Value) (M : xM) (Q : Option Value → xM → Prop), xW xSC 41 22 [.ref a0, .int a1, .int a2, .int a3] (st) M Q = xW xSC 41 23 [.ref a0, .int a1, .int a2, .int a3] (.int a3 :: st) M Q) ∧
  (∀ (a0 : Nat) (a1 : Int32) (a2 : Int32) (a3 : Int32) (y0 : Int32) (y1 : Int32) (st : List Value) (M : xM) (Q : Option Value → xM → Prop), xW xSC 41 23 [.ref a0, .int a1, .int a2, .int a3] (.int y0 :: .int y1 :: st) M Q = xW xSC 41 24 [.ref a0, .int a1, .int a2, .int a3] (.int (y1 + y0) :: st) M Q) ∧
  (∀ (a0 : Nat) (a1 : Int32) (a2 : Int32) (a3 : Int32) (y0 : Int32) (y2 : Int32) (M : xM) (Q : Option Value → xM → Prop), xW xSC 41 24 [.ref a0, .int a1, .int a2, .int a3] (.int y0 :: .ref 4 :: .int y2 :: []) M Q = xW xSC 34 0 [.ref 4, .int y0] [] M (fun v M' => xW xSC 41 27 [.ref a0, .int a1, .int a2, .int a3] (xpush v [.int y2]) M' Q)) ∧
  (∀ (a0 : Nat) (a1 : Int32) (a2 : Int32) (a3 : Int32) (y0 : Int32) (y1 : Int32) (st : List Value) (M : xM) (Q : Option Value → xM → Prop), xW xSC 41 27 [.ref a0, .int a1, .int a2, .int a3] (.int y0 :: .int y1 :: st) M Q = xW xSC 41 28 [.ref a0, .int a1, .int a2, .int a3] (.int (y1 + y0) :: st) M Q) ∧
  (∀ (a0 : Nat) (a1 : Int32) (a2 : Int32) (a3 : Int32) (y0 : Int32) (st : List Value) (M : xM) (Q : Option Value → xM → Prop), xW xSC 41 28 [.ref a0, .int a1, .int a2, .int a3] (.int y0 :: st) M Q = xW xSC 41 29 [.ref a0, .int a1, .int y0, .int a3] (st) M Q) ∧
  (∀ (a0 : Nat) (a1 : Int32) (a2 : Int32) (a3 : Int32) (st : List Value) (M : xM) (Q : Option Value → xM → Prop), xW xSC 41 32 [.ref a0, .int a1, .int a2, .int a3] (st) M Q = xW xSC 41 4 [.ref a0, .int a1, .int a2, .int a3] (st) M Q) ∧
  (∀ (a0 : Nat) (a1 : Int32) (a2 : Int32) (a3 : Int32) (st : List Value) (M : xM) (Q : Option Value → xM → Prop), xW xSC 41 35 [.ref a0, .int a1, .int a2, .int a3] (st) M Q = xW xSC 41 36 [.ref a0, .int a1, .int a2, .int a3] (.int a2 :: st) M Q) ∧
  (∀ (a0 : Nat) (a1 : Int32) (a2 : Int32) (a3 : Int32) (y0 : Int32) (M : xM) (Q : Option Value → xM → Prop), xW xSC 41 36 [.ref a0, .int a1, .int a2, .int a3] ([.int y0]) M Q = Q (some (.int y0)) M) ∧
  (∀ (a0 : Nat) (a1 : Int32) (a2 : Int32) (a3 : Int32) (y0 : Int32) (y2 : Int32) (M : xM) (Q : Option Value → xM → Prop), xW xSC 41 24 [.ref a0, .int a1, .int a2, .int a3] (.int y0 :: .ref 9 :: .int y2 :: []) M Q = xW xSC 34 0 [.ref 9, .int y0] [] M (fun v M' => xW xSC 41 27 [.ref a0, .int a1, .int a2, .int a3] (xpush v [.int y2]) M' Q)) :=
  ⟨fun a0 a1 a2 a3 st M Q => xw_s rfl rfl,
  fun a0 a1 a2 a3 y0 st M Q => xw_s rfl rfl,
  fun a0 a1 a2 a3 st M Q => xw_s rfl rfl,
  fun a0 a1 a2 a3 y0 st M Q => xw_s rfl rfl,
  fun a0 a1 a2 a3 st M Q => xw_s rfl rfl,
  fun a0 a1 a2 a3 y0 y1 st M Q => xw_brn (c0 := y0 ≤ y1) (c1 := y1 < y0) rfl rfl (xge _ _),
  fun a0 a1 a2 a3 st M Q => xw_s rfl rfl,
  fun a0 a1 a2 a3 st M Q => xw_s rfl rfl,
  fun a0 a1 a2 a3 y0 y1 st M Q => xw_s rfl rfl,
  fun a0 a1 a2 a3 st M Q => xw_s rfl rfl,
  fun a0 a1 a2 a3 y0 y1 st M Q => xw_s rfl rfl,
  fun a0 a1 a2 a3 st M Q => xw_s rfl rfl,
  fun a0 a1 a2 a3 y0 y1 st M Q => xw_brn (c0 := y1 ≠ y0) (c1 := y1 = y0) rfl rfl (Iff.rfl),
  fun a0 a1 a2 a3 st M Q => xw_s rfl rfl,
  fun a0 a1 a2 a3 st M Q => xw_s rfl rfl,
  fun a0 a1 a2 a3 st M Q => xw_s rfl rfl,
  fun a0 a1 a2 a3 st M Q => xw_s rfl rfl,
  fun a0 a1 a2 a3 y0 y1 st M Q => xw_s rfl rfl,
  fun a0 a1 a2 a3 y0 y2 M Q => xw_call rfl rfl rfl,
  fun a0 a1 a2 a3 y0 y1 st M Q => xw_s rfl rfl,
  fun a0 a1 a2 a3 y0 st M Q => xw_s rfl rfl,
  fun a0 a1 a2 a3 st M Q => xw_s rfl rfl,
  fun a0 a1 a2 a3 st M Q => xw_s rfl rfl,
  fun a0 a1 a2 a3 y0 M Q => xw_ret rfl rfl,
  fun a0 a1 a2 a3 y0 y2 M Q => xw_call rfl rfl rfl⟩
set_option maxRecDepth 20000 in
theorem h41_4 :
  (∀ (a0 : Nat) (a1 : Int32) (a2 : Int32) (a3 : Int32) (st : List Value) (M : xM) (Q : Option Value → xM → Prop), xW xSC 41 4 [.ref a0, .int a1, .int a2, .int a3] (st) M Q = xW xSC 41 5 [.ref a0, .int a1, .int a2, .int a3] (.int a3 :: st) M Q) :=
  fun a0 a1 a2 a3 st M Q => xw_s rfl rfl
set_option maxRecDepth 20000 in
theorem h41_29 :
  (∀ (a0 : Nat) (a1 : Int32) (a2 : Int32) (a3 : Int32) (st : List Value) (M : xM) (Q : Option Value → xM → Prop), xW xSC 41 29 [.ref a0, .int a1, .int a2, .int a3] (st) M Q = xW xSC 41 32 [.ref a0, .int a1, .int a2, .int (a3 + nI 1)] (st) M Q) :=
  fun a0 a1 a2 a3 st M Q => xw_s rfl rfl
set_option maxRecDepth 20000 in
theorem j41 :
  (∀ (a0 : Nat) (a1 : Int32) (a2 : Int32) (a3 : Int32) (st : List Value) (M : xM) (Q : Option Value → xM → Prop), xW xSC 41 29 [.ref a0, .int a1, .int a2, .int a3] (st) M Q = xW xSC 41 32 [.ref a0, .int a1, .int a2, .int (a3 + nI 1)] (st) M Q) :=
  fun a0 a1 a2 a3 st M Q => xw_s rfl rfl
