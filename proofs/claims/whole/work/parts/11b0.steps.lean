set_option maxRecDepth 20000 in
theorem s43 :
  (∀ (a0 : Nat) (a1 : Nat) (a2 : Nat) (a3 : Int32) (a4 : Int32) (a5 : Value) (a6 : Value) (a7 : Value) (a8 : Value) (a9 : Value) (a10 : Value) (a11 : Value) (a12 : Value) (st : List Value) (M : xM) (Q : Option Value → xM → Prop), xW xSC 43 0 [.ref a0, .ref a1, .ref a2, .int a3, .int a4, a5, a6, a7, a8, a9, a10, a11, a12] (st) M Q = xW xSC 43 1 [.ref a0, .ref a1, .ref a2, .int a3, .int a4, a5, a6, a7, a8, a9, a10, a11, a12] (.ref a1 :: st) M Q) ∧
  (∀ (a0 : Nat) (a1 : Nat) (a2 : Nat) (a3 : Int32) (a4 : Int32) (a5 : Value) (a6 : Value) (a7 : Value) (a8 : Value) (a9 : Value) (a10 : Value) (a11 : Value) (a12 : Value) (st : List Value) (M : xM) (Q : Option Value → xM → Prop), xW xSC 43 1 [.ref a0, .ref a1, .ref a2, .int a3, .int a4, a5, a6, a7, a8, a9, a10, a11, a12] (st) M Q = xW xSC 43 2 [.ref a0, .ref a1, .ref a2, .int a3, .int a4, a5, a6, a7, a8, a9, a10, a11, a12] (.int a3 :: st) M Q) ∧
  (∀ (a0 : Nat) (a1 : Nat) (a2 : Nat) (a3 : Int32) (a4 : Int32) (a5 : Value) (a6 : Value) (a7 : Value) (a8 : Value) (a9 : Value) (a10 : Value) (a11 : Value) (a12 : Value) (st : List Value) (M : xM) (Q : Option Value → xM → Prop), xW xSC 43 2 [.ref a0, .ref a1, .ref a2, .int a3, .int a4, a5, a6, a7, a8, a9, a10, a11, a12] (st) M Q = xW xSC 43 4 [.ref a0, .ref a1, .ref a2, .int a3, .int a4, a5, a6, a7, a8, a9, a10, a11, a12] (.int a4 :: st) M Q) ∧
  (∀ (a0 : Nat) (a1 : Nat) (a2 : Nat) (a3 : Int32) (a4 : Int32) (a5 : Value) (a6 : Value) (a7 : Value) (a8 : Value) (a9 : Value) (a10 : Value) (a11 : Value) (a12 : Value) (y0 : Int32) (y1 : Int32) (M : xM) (Q : Option Value → xM → Prop), xW xSC 43 4 [.ref a0, .ref a1, .ref a2, .int a3, .int a4, a5, a6, a7, a8, a9, a10, a11, a12] (.int y0 :: .int y1 :: .ref 9 :: []) M Q = xW xSC 36 0 [.ref 9, .int y1, .int y0] [] M (fun v M' => xW xSC 43 7 [.ref a0, .ref a1, .ref a2, .int a3, .int a4, a5, a6, a7, a8, a9, a10, a11, a12] (xpush v []) M' Q)) ∧
  (∀ (a0 : Nat) (a1 : Nat) (a2 : Nat) (a3 : Int32) (a4 : Int32) (a5 : Value) (a6 : Value) (a7 : Value) (a8 : Value) (a9 : Value) (a10 : Value) (a11 : Value) (a12 : Value) (y0 : Int32) (st : List Value) (M : xM) (Q : Option Value → xM → Prop), xW xSC 43 7 [.ref a0, .ref a1, .ref a2, .int a3, .int a4, a5, a6, a7, a8, a9, a10, a11, a12] (.int y0 :: st) M Q = xW xSC 43 9 [.ref a0, .ref a1, .ref a2, .int a3, .int a4, .int y0, a6, a7, a8, a9, a10, a11, a12] (st) M Q) ∧
  (∀ (a0 : Nat) (a1 : Nat) (a2 : Nat) (a3 : Int32) (a4 : Int32) (a5 : Int32) (a6 : Value) (a7 : Value) (a8 : Value) (a9 : Value) (a10 : Value) (a11 : Value) (a12 : Value) (st : List Value) (M : xM) (Q : Option Value → xM → Prop), xW xSC 43 9 [.ref a0, .ref a1, .ref a2, .int a3, .int a4, .int a5, a6, a7, a8, a9, a10, a11, a12] (st) M Q = xW xSC 43 10 [.ref a0, .ref a1, .ref a2, .int a3, .int a4, .int a5, a6, a7, a8, a9, a10, a11, a12] (.ref a0 :: st) M Q) ∧
  (∀ (a0 : Nat) (a1 : Nat) (a2 : Nat) (a3 : Int32) (a4 : Int32) (a5 : Int32) (a6 : Value) (a7 : Value) (a8 : Value) (a9 : Value) (a10 : Value) (a11 : Value) (a12 : Value) (st : List Value) (M : xM) (Q : Option Value → xM → Prop), xW xSC 43 10 [.ref a0, .ref a1, .ref a2, .int a3, .int a4, .int a5, a6, a7, a8, a9, a10, a11, a12] (st) M Q = xW xSC 43 11 [.ref a0, .ref a1, .ref a2, .int a3, .int a4, .int a5, a6, a7, a8, a9, a10, a11, a12] (.ref a1 :: st) M Q) ∧
  (∀ (a0 : Nat) (a1 : Nat) (a2 : Nat) (a3 : Int32) (a4 : Int32) (a5 : Int32) (a6 : Value) (a7 : Value) (a8 : Value) (a9 : Value) (a10 : Value) (a11 : Value) (a12 : Value) (st : List Value) (M : xM) (Q : Option Value → xM → Prop), xW xSC 43 11 [.ref a0, .ref a1, .ref a2, .int a3, .int a4, .int a5, a6, a7, a8, a9, a10, a11, a12] (st) M Q = xW xSC 43 12 [.ref a0, .ref a1, .ref a2, .int a3, .int a4, .int a5, a6, a7, a8, a9, a10, a11, a12] (.ref a1 :: st) M Q) ∧
  (∀ (a0 : Nat) (a1 : Nat) (a2 : Nat) (a3 : Int32) (a4 : Int32) (a5 : Int32) (a6 : Value) (a7 : Value) (a8 : Value) (a9 : Value) (a10 : Value) (a11 : Value) (a12 : Value) (st : List Value) (M : xM) (Q : Option Value → xM → Prop), xW xSC 43 12 [.ref a0, .ref a1, .ref a2, .int a3, .int a4, .int a5, a6, a7, a8, a9, a10, a11, a12] (st) M Q = xW xSC 43 13 [.ref a0, .ref a1, .ref a2, .int a3, .int a4, .int a5, a6, a7, a8, a9, a10, a11, a12] (.int a3 :: st) M Q) ∧
  (∀ (a0 : Nat) (a1 : Nat) (a2 : Nat) (a3 : Int32) (a4 : Int32) (a5 : Int32) (a6 : Value) (a7 : Value) (a8 : Value) (a9 : Value) (a10 : Value) (a11 : Value) (a12 : Value) (st : List Value) (M : xM) (Q : Option Value → xM → Prop), xW xSC 43 13 [.ref a0, .ref a1, .ref a2, .int a3, .int a4, .int a5, a6, a7, a8, a9, a10, a11, a12] (st) M Q = xW xSC 43 15 [.ref a0, .ref a1, .ref a2, .int a3, .int a4, .int a5, a6, a7, a8, a9, a10, a11, a12] (.int a4 :: st) M Q) ∧
  (∀ (a0 : Nat) (a1 : Nat) (a2 : Nat) (a3 : Int32) (a4 : Int32) (a5 : Int32) (a6 : Value) (a7 : Value) (a8 : Value) (a9 : Value) (a10 : Value) (a11 : Value) (a12 : Value) (y0 : Int32) (y1 : Int32) (y3 : Nat) (y4 : Nat) (M : xM) (Q : Option Value → xM → Prop), xW xSC 43 15 [.ref a0, .ref a1, .ref a2, .int a3, .int a4, .int a5, a6, a7, a8, a9, a10, a11, a12] (.int y0 :: .int y1 :: .ref 9 :: .ref y3 :: .ref y4 :: []) M Q = xW xSC 37 0 [.ref 9, .int y1, .int y0] [] M (fun v M' => xW xSC 43 18 [.ref a0, .ref a1, .ref a2, .int a3, .int a4, .int a5, a6, a7, a8, a9, a10, a11, a12] (xpush v [.ref y3, .ref y4]) M' Q)) ∧
  (∀ (a0 : Nat) (a1 : Nat) (a2 : Nat) (a3 : Int32) (a4 : Int32) (a5 : Int32) (a6 : Value) (a7 : Value) (a8 : Value) (a9 : Value) (a10 : Value) (a11 : Value) (a12 : Value) (st : List Value) (M : xM) (Q : Option Value → xM → Prop), xW xSC 43 18 [.ref a0, .ref a1, .ref a2, .int a3, .int a4, .int a5, a6, a7, a8, a9, a10, a11, a12] (st) M Q = xW xSC 43 20 [.ref a0, .ref a1, .ref a2, .int a3, .int a4, .int a5, a6, a7, a8, a9, a10, a11, a12] (.int a5 :: st) M Q) ∧
  (∀ (a0 : Nat) (a1 : Nat) (a2 : Nat) (a3 : Int32) (a4 : Int32) (a5 : Int32) (a6 : Value) (a7 : Value) (a8 : Value) (a9 : Value) (a10 : Value) (a11 : Value) (a12 : Value) (st : List Value) (M : xM) (Q : Option Value → xM → Prop), xW xSC 43 20 [.ref a0, .ref a1, .ref a2, .int a3, .int a4, .int a5, a6, a7, a8, a9, a10, a11, a12] (st) M Q = xW xSC 43 21 [.ref a0, .ref a1, .ref a2, .int a3, .int a4, .int a5, a6, a7, a8, a9, a10, a11, a12] (.ref a1 :: st) M Q) ∧
  (∀ (a0 : Nat) (a1 : Nat) (a2 : Nat) (a3 : Int32) (a4 : Int32) (a5 : Int32) (a6 : Value) (a7 : Value) (a8 : Value) (a9 : Value) (a10 : Value) (a11 : Value) (a12 : Value) (st : List Value) (M : xM) (Q : Option Value → xM → Prop), xW xSC 43 21 [.ref a0, .ref a1, .ref a2, .int a3, .int a4, .int a5, a6, a7, a8, a9, a10, a11, a12] (st) M Q = xW xSC 43 22 [.ref a0, .ref a1, .ref a2, .int a3, .int a4, .int a5, a6, a7, a8, a9, a10, a11, a12] (.int a3 :: st) M Q) ∧
  (∀ (a0 : Nat) (a1 : Nat) (a2 : Nat) (a3 : Int32) (a4 : Int32) (a5 : Int32) (a6 : Value) (a7 : Value) (a8 : Value) (a9 : Value) (a10 : Value) (a11 : Value) (a12 : Value) (st : List Value) (M : xM) (Q : Option Value → xM → Prop), xW xSC 43 22 [.ref a0, .ref a1, .ref a2, .int a3, .int a4, .int a5, a6, a7, a8, a9, a10, a11, a12] (st) M Q = xW xSC 43 23 [.ref a0, .ref a1, .ref a2, .int a3, .int a4, .int a5, a6, a7, a8, a9, a10, a11, a12] (.int (nI 1) :: st) M Q) ∧
  (∀ (a0 : Nat) (a1 : Nat) (a2 : Nat) (a3 : Int32) (a4 : Int32) (a5 : Int32) (a6 : Value) (a7 : Value) (a8 : Value) (a9 : Value) (a10 : Value) (a11 : Value) (a12 : Value) (st : List Value) (M : xM) (Q : Option Value → xM → Prop), xW xSC 43 23 [.ref a0, .ref a1, .ref a2, .int a3, .int a4, .int a5, a6, a7, a8, a9, a10, a11, a12] (st) M Q = xW xSC 43 25 [.ref a0, .ref a1, .ref a2, .int a3, .int a4, .int a5, a6, a7, a8, a9, a10, a11, a12] (.int a4 :: st) M Q) ∧
  (∀ (a0 : Nat) (a1 : Nat) (a2 : Nat) (a3 : Int32) (a4 : Int32) (a5 : Int32) (a6 : Value) (a7 : Value) (a8 : Value) (a9 : Value) (a10 : Value) (a11 : Value) (a12 : Value) (y0 : Int32) (y1 : Int32) (st : List Value) (M : xM) (Q : Option Value → xM → Prop), xW xSC 43 25 [.ref a0, .ref a1, .ref a2, .int a3, .int a4, .int a5, a6, a7, a8, a9, a10, a11, a12] (.int y0 :: .int y1 :: st) M Q = xW xSC 43 26 [.ref a0, .ref a1, .ref a2, .int a3, .int a4, .int a5, a6, a7, a8, a9, a10, a11, a12] (.int (y1 - y0) :: st) M Q) ∧
  (∀ (a0 : Nat) (a1 : Nat) (a2 : Nat) (a3 : Int32) (a4 : Int32) (a5 : Int32) (a6 : Value) (a7 : Value) (a8 : Value) (a9 : Value) (a10 : Value) (a11 : Value) (a12 : Value) (y0 : Int32) (y1 : Int32) (y3 : Int32) (y4 : Int32) (y5 : Nat) (y6 : Nat) (M : xM) (Q : Option Value → xM → Prop), xW xSC 43 26 [.ref a0, .ref a1, .ref a2, .int a3, .int a4, .int a5, a6, a7, a8, a9, a10, a11, a12] (.int y0 :: .int y1 :: .ref 9 :: .int y3 :: .int y4 :: .ref y5 :: .ref y6 :: []) M Q = xW xSC 36 0 [.ref 9, .int y1, .int y0] [] M (fun v M' => xW xSC 43 29 [.ref a0, .ref a1, .ref a2, .int a3, .int a4, .int a5, a6, a7, a8, a9, a10, a11, a12] (xpush v [.int y3, .int y4, .ref y5, .ref y6]) M' Q)) ∧
  (∀ (a0 : Nat) (a1 : Nat) (a2 : Nat) (a3 : Int32) (a4 : Int32) (a5 : Int32) (a6 : Value) (a7 : Value) (a8 : Value) (a9 : Value) (a10 : Value) (a11 : Value) (a12 : Value) (y0 : Int32) (y1 : Int32) (y2 : Int32) (y3 : Nat) (M : xM) (Q : Option Value → xM → Prop), xW xSC 43 29 [.ref a0, .ref a1, .ref a2, .int a3, .int a4, .int a5, a6, a7, a8, a9, a10, a11, a12] (.int y0 :: .int y1 :: .int y2 :: .ref y3 :: .ref 33 :: []) M Q = xW xSC 45 0 [.ref 33, .ref y3, .int y2, .int y1, .int y0, .null] [] M (fun v M' => xW xSC 43 32 [.ref a0, .ref a1, .ref a2, .int a3, .int a4, .int a5, a6, a7, a8, a9, a10, a11, a12] (xpush v []) M' Q)) ∧
  (∀ (a0 : Nat) (a1 : Nat) (a2 : Nat) (a3 : Int32) (a4 : Int32) (a5 : Int32) (a6 : Value) (a7 : Value) (a8 : Value) (a9 : Value) (a10 : Value) (a11 : Value) (a12 : Value) (st : List Value) (M : xM) (Q : Option Value → xM → Prop), xW xSC 43 32 [.ref a0, .ref a1, .ref a2, .int a3, .int a4, .int a5, a6, a7, a8, a9, a10, a11, a12] (st) M Q = xW xSC 43 33 [.ref a0, .ref a1, .ref a2, .int a3, .int a4, .int a5, a6, a7, a8, a9, a10, a11, a12] (.ref a0 :: st) M Q) ∧
  (∀ (a0 : Nat) (a1 : Nat) (a2 : Nat) (a3 : Int32) (a4 : Int32) (a5 : Int32) (a6 : Value) (a7 : Value) (a8 : Value) (a9 : Value) (a10 : Value) (a11 : Value) (a12 : Value) (st : List Value) (M : xM) (Q : Option Value → xM → Prop), xW xSC 43 33 [.ref a0, .ref a1, .ref a2, .int a3, .int a4, .int a5, a6, a7, a8, a9, a10, a11, a12] (st) M Q = xW xSC 43 34 [.ref a0, .ref a1, .ref a2, .int a3, .int a4, .int a5, a6, a7, a8, a9, a10, a11, a12] (.ref a2 :: st) M Q) ∧
  (∀ (a0 : Nat) (a1 : Nat) (a2 : Nat) (a3 : Int32) (a4 : Int32) (a5 : Int32) (a6 : Value) (a7 : Value) (a8 : Value) (a9 : Value) (a10 : Value) (a11 : Value) (a12 : Value) (st : List Value) (M : xM) (Q : Option Value → xM → Prop), xW xSC 43 34 [.ref a0, .ref a1, .ref a2, .int a3, .int a4, .int a5, a6, a7, a8, a9, a10, a11, a12] (.ref 31 :: st) M Q = xW xSC 43 37 [.ref a0, .ref a1, .ref a2, .int a3, .int a4, .int a5, a6, a7, a8, a9, a10, a11, a12] (.int (M 31 2) :: st) M Q) ∧
  (∀ (a0 : Nat) (a1 : Nat) (a2 : Nat) (a3 : Int32) (a4 : Int32) (a5 : Int32) (a6 : Value) (a7 : Value) (a8 : Value) (a9 : Value) (a10 : Value) (a11 : Value) (a12 : Value) (st : List Value) (M : xM) (Q : Option Value → xM → Prop), xW xSC 43 37 [.ref a0, .ref a1, .ref a2, .int a3, .int a4, .int a5, a6, a7, a8, a9, a10, a11, a12] (st) M Q = xW xSC 43 38 [.ref a0, .ref a1, .ref a2, .int a3, .int a4, .int a5, a6, a7, a8, a9, a10, a11, a12] (.ref a1 :: st) M Q) ∧
  (∀ (a0 : Nat) (a1 : Nat) (a2 : Nat) (a3 : Int32) (a4 : Int32) (a5 : Int32) (a6 : Value) (a7 : Value) (a8 : Value) (a9 : Value) (a10 : Value) (a11 : Value) (a12 : Value) (st : List Value) (M : xM) (Q : Option Value → xM → Prop), xW xSC 43 38 [.ref a0, .ref a1, .ref a2, .int a3, .int a4, .int a5, a6, a7, a8, a9, a10, a11, a12] (st) M Q = xW xSC 43 39 [.ref a0, .ref a1, .ref a2, .int a3, .int a4, .int a5, a6, a7, a8, a9, a10, a11, a12] (.int (nI 4) :: st) M Q) ∧
  (∀ (a0 : Nat) (a1 : Nat) (a2 : Nat) (a3 : Int32) (a4 : Int32) (a5 : Int32) (a6 : Value) (a7 : Value) (a8 : Value) (a9 : Value) (a10 : Value) (a11 : Value) (a12 : Value) (y0 : Int32) (y2 : Int32) (y3 : Nat) (M : xM) (Q : Option Value → xM → Prop), xW xSC 43 39 [.ref a0, .ref a1, .ref a2, .int a3, .int a4, .int a5, a6, a7, a8, a9, a10, a11, a12] (.int y0 :: .ref 9 :: .int y2 :: .ref y3 :: []) M Q = xW xSC 34 0 [.ref 9, .int y0] [] M (fun v M' => xW xSC 43 42 [.ref a0, .ref a1, .ref a2, .int a3, .int a4, .int a5, a6, a7, a8, a9, a10, a11, a12] (xpush v [.int y2, .ref y3]) M' Q)) ∧
  (∀ (a0 : Nat) (a1 : Nat) (a2 : Nat) (a3 : Int32) (a4 : Int32) (a5 : Int32) (a6 : Value) (a7 : Value) (a8 : Value) (a9 : Value) (a10 : Value) (a11 : Value) (a12 : Value) (y0 : Int32) (y1 : Int32) (M : xM) (Q : Option Value → xM → Prop), xW xSC 43 42 [.ref a0, .ref a1, .ref a2, .int a3, .int a4, .int a5, a6, a7, a8, a9, a10, a11, a12] (.int y0 :: .int y1 :: .ref 33 :: []) M Q = xW xSC 49 0 [.ref 33, .int y1, .int y0] [] M (fun v M' => xW xSC 43 45 [.ref a0, .ref a1, .ref a2, .int a3, .int a4, .int a5, a6, a7, a8, a9, a10, a11, a12] (xpush v []) M' Q)) ∧
  (∀ (a0 : Nat) (a1 : Nat) (a2 : Nat) (a3 : Int32) (a4 : Int32) (a5 : Int32) (a6 : Value) (a7 : Value) (a8 : Value) (a9 : Value) (a10 : Value) (a11 : Value) (a12 : Value) (st : List Value) (M : xM) (Q : Option Value → xM → Prop), xW xSC 43 45 [.ref a0, .ref a1, .ref a2, .int a3, .int a4, .int a5, a6, a7, a8, a9, a10, a11, a12] (st) M Q = xW xSC 43 46 [.ref a0, .ref a1, .ref a2, .int a3, .int a4, .int a5, a6, a7, a8, a9, a10, a11, a12] (.ref a1 :: st) M Q) ∧
  (∀ (a0 : Nat) (a1 : Nat) (a2 : Nat) (a3 : Int32) (a4 : Int32) (a5 : Int32) (a6 : Value) (a7 : Value) (a8 : Value) (a9 : Value) (a10 : Value) (a11 : Value) (a12 : Value) (st : List Value) (M : xM) (Q : Option Value → xM → Prop), xW xSC 43 46 [.ref a0, .ref a1, .ref a2, .int a3, .int a4, .int a5, a6, a7, a8, a9, a10, a11, a12] (st) M Q = xW xSC 43 47 [.ref a0, .ref a1, .ref a2, .int a3, .int a4, .int a5, a6, a7, a8, a9, a10, a11, a12] (.int (nI 5) :: st) M Q) ∧
  (∀ (a0 : Nat) (a1 : Nat) (a2 : Nat) (a3 : Int32) (a4 : Int32) (a5 : Int32) (a6 : Value) (a7 : Value) (a8 : Value) (a9 : Value) (a10 : Value) (a11 : Value) (a12 : Value) (y0 : Int32) (M : xM) (Q : Option Value → xM → Prop), xW xSC 43 47 [.ref a0, .ref a1, .ref a2, .int a3, .int a4, .int a5, a6, a7, a8, a9, a10, a11, a12] (.int y0 :: .ref 9 :: []) M Q = xW xSC 34 0 [.ref 9, .int y0] [] M (fun v M' => xW xSC 43 50 [.ref a0, .ref a1, .ref a2, .int a3, .int a4, .int a5, a6, a7, a8, a9, a10, a11, a12] (xpush v []) M' Q)) ∧
  (∀ (a0 : Nat) (a1 : Nat) (a2 : Nat) (a3 : Int32) (a4 : Int32) (a5 : Int32) (a6 : Value) (a7 : Value) (a8 : Value) (a9 : Value) (a10 : Value) (a11 : Value) (a12 : Value) (y0 : Int32) (st : List Value) (M : xM) (Q : Option Value → xM → Prop), xW xSC 43 50 [.ref a0, .ref a1, .ref a2, .int a3, .int a4, .int a5, a6, a7, a8, a9, a10, a11, a12] (.int y0 :: st) M Q = xW xSC 43 52 [.ref a0, .ref a1, .ref a2, .int a3, .int a4, .int a5, .int y0, a7, a8, a9, a10, a11, a12] (st) M Q) ∧
  (∀ (a0 : Nat) (a1 : Nat) (a2 : Nat) (a3 : Int32) (a4 : Int32) (a5 : Int32) (a6 : Int32) (a7 : Value) (a8 : Value) (a9 : Value) (a10 : Value) (a11 : Value) (a12 : Value) (st : List Value) (M : xM) (Q : Option Value → xM → Prop), xW xSC 43 52 [.ref a0, .ref a1, .ref a2, .int a3, .int a4, .int a5, .int a6, a7, a8, a9, a10, a11, a12] (st) M Q = xW xSC 43 53 [.ref a0, .ref a1, .ref a2, .int a3, .int a4, .int a5, .int a6, a7, a8, a9, a10, a11, a12] (.int (nI 0) :: st) M Q) ∧
  (∀ (a0 : Nat) (a1 : Nat) (a2 : Nat) (a3 : Int32) (a4 : Int32) (a5 : Int32) (a6 : Int32) (a7 : Value) (a8 : Value) (a9 : Value) (a10 : Value) (a11 : Value) (a12 : Value) (y0 : Int32) (st : List Value) (M : xM) (Q : Option Value → xM → Prop), xW xSC 43 53 [.ref a0, .ref a1, .ref a2, .int a3, .int a4, .int a5, .int a6, a7, a8, a9, a10, a11, a12] (.int y0 :: st) M Q = xW xSC 43 55 [.ref a0, .ref a1, .ref a2, .int a3, .int a4, .int a5, .int a6, .int y0, a8, a9, a10, a11, a12] (st) M Q) ∧
  (∀ (a0 : Nat) (a1 : Nat) (a2 : Nat) (a3 : Int32) (a4 : Int32) (a5 : Int32) (a6 : Int32) (a7 : Int32) (a8 : Value) (a9 : Value) (a10 : Value) (a11 : Value) (a12 : Value) (st : List Value) (M : xM) (Q : Option Value → xM → Prop), xW xSC 43 57 [.ref a0, .ref a1, .ref a2, .int a3, .int a4, .int a5, .int a6, .int a7, a8, a9, a10, a11, a12] (st) M Q = xW xSC 43 58 [.ref a0, .ref a1, .ref a2, .int a3, .int a4, .int a5, .int a6, .int a7, a8, a9, a10, a11, a12] (.int (nI 2) :: st) M Q) ∧
  (∀ (a0 : Nat) (a1 : Nat) (a2 : Nat) (a3 : Int32) (a4 : Int32) (a5 : Int32) (a6 : Int32) (a7 : Int32) (a8 : Value) (a9 : Value) (a10 : Value) (a11 : Value) (a12 : Value) (st : List Value) (M : xM) (Q : Option Value → xM → Prop), xW xSC 43 58 [.ref a0, .ref a1, .ref a2, .int a3, .int a4, .int a5, .int a6, .int a7, a8, a9, a10, a11, a12] (st) M Q = xW xSC 43 59 [.ref a0, .ref a1, .ref a2, .int a3, .int a4, .int a5, .int a6, .int a7, a8, a9, a10, a11, a12] (.ref a1 :: st) M Q) ∧
  (∀ (a0 : Nat) (a1 : Nat) (a2 : Nat) (a3 : Int32) (a4 : Int32) (a5 : Int32) (a6 : Int32) (a7 : Int32) (a8 : Value) (a9 : Value) (a10 : Value) (a11 : Value) (a12 : Value) (st : List Value) (M : xM) (Q : Option Value → xM → Prop), xW xSC 43 59 [.ref a0, .ref a1, .ref a2, .int a3, .int a4, .int a5, .int a6, .int a7, a8, a9, a10, a11, a12] (.ref 9 :: st) M Q = xW xSC 43 62 [.ref a0, .ref a1, .ref a2, .int a3, .int a4, .int a5, .int a6, .int a7, a8, a9, a10, a11, a12] (.int (M 9 1) :: st) M Q) ∧
  (∀ (a0 : Nat) (a1 : Nat) (a2 : Nat) (a3 : Int32) (a4 : Int32) (a5 : Int32) (a6 : Int32) (a7 : Int32) (a8 : Value) (a9 : Value) (a10 : Value) (a11 : Value) (a12 : Value) (y0 : Int32) (y1 : Int32) (st : List Value) (M : xM) (Q : Option Value → xM → Prop), xW xSC 43 62 [.ref a0, .ref a1, .ref a2, .int a3, .int a4, .int a5, .int a6, .int a7, a8, a9, a10, a11, a12] (.int y0 :: .int y1 :: st) M Q = xW xSC 43 63 [.ref a0, .ref a1, .ref a2, .int a3, .int a4, .int a5, .int a6, .int a7, a8, a9, a10, a11, a12] (.int (y1 * y0) :: st) M Q) ∧
  (∀ (a0 : Nat) (a1 : Nat) (a2 : Nat) (a3 : Int32) (a4 : Int32) (a5 : Int32) (a6 : Int32) (a7 : Int32) (a8 : Value) (a9 : Value) (a10 : Value) (a11 : Value) (a12 : Value) (y0 : Int32) (y1 : Int32) (st : List Value) (M : xM) (Q : Option Value → xM → Prop), xW xSC 43 63 [.ref a0, .ref a1, .ref a2, .int a3, .int a4, .int a5, .int a6, .int a7, a8, a9, a10, a11, a12] (.int y0 :: .int y1 :: st) M Q = if y1 < y0 then xW xSC 43 66 [.ref a0, .ref a1, .ref a2, .int a3, .int a4, .int a5, .int a6, .int a7, a8, a9, a10, a11, a12] (st) M Q else xW xSC 43 173 [.ref a0, .ref a1, .ref a2, .int a3, .int a4, .int a5, .int a6, .int a7, a8, a9, a10, a11, a12] (st) M Q) ∧
  (∀ (a0 : Nat) (a1 : Nat) (a2 : Nat) (a3 : Int32) (a4 : Int32) (a5 : Int32) (a6 : Int32) (a7 : Int32) (a8 : Value) (a9 : Value) (a10 : Value) (a11 : Value) (a12 : Value) (st : List Value) (M : xM) (Q : Option Value → xM → Prop), xW xSC 43 66 [.ref a0, .ref a1, .ref a2, .int a3, .int a4, .int a5, .int a6, .int a7, a8, a9, a10, a11, a12] (st) M Q = xW xSC 43 67 [.ref a0, .ref a1, .ref a2, .int a3, .int a4, .int a5, .int a6, .int a7, a8, a9, a10, a11, a12] (.ref a2 :: st) M Q) ∧
  (∀ (a0 : Nat) (a1 : Nat) (a2 : Nat) (a3 : Int32) (a4 : Int32) (a5 : Int32) (a6 : Int32) (a7 : Int32) (a8 : Value) (a9 : Value) (a10 : Value) (a11 : Value) (a12 : Value) (st : List Value) (M : xM) (Q : Option Value → xM → Prop), xW xSC 43 67 [.ref a0, .ref a1, .ref a2, .int a3, .int a4, .int a5, .int a6, .int a7, a8, a9, a10, a11, a12] (.ref 31 :: st) M Q = xW xSC 43 70 [.ref a0, .ref a1, .ref a2, .int a3, .int a4, .int a5, .int a6, .int a7, a8, a9, a10, a11, a12] (.ref 32 :: st) M Q) ∧
  (∀ (a0 : Nat) (a1 : Nat) (a2 : Nat) (a3 : Int32) (a4 : Int32) (a5 : Int32) (a6 : Int32) (a7 : Int32) (a8 : Value) (a9 : Value) (a10 : Value) (a11 : Value) (a12 : Value) (st : List Value) (M : xM) (Q : Option Value → xM → Prop), xW xSC 43 70 [.ref a0, .ref a1, .ref a2, .int a3, .int a4, .int a5, .int a6, .int a7, a8, a9, a10, a11, a12] (st) M Q = xW xSC 43 72 [.ref a0, .ref a1, .ref a2, .int a3, .int a4, .int a5, .int a6, .int a7, a8, a9, a10, a11, a12] (.int a7 :: st) M Q) ∧
  (∀ (a0 : Nat) (a1 : Nat) (a2 : Nat) (a3 : Int32) (a4 : Int32) (a5 : Int32) (a6 : Int32) (a7 : Int32) (a8 : Value) (a9 : Value) (a10 : Value) (a11 : Value) (a12 : Value) (y0 : Int32) (y1 : Nat) (M : xM) (Q : Option Value → xM → Prop), xW xSC 43 72 [.ref a0, .ref a1, .ref a2, .int a3, .int a4, .int a5, .int a6, .int a7, a8, a9, a10, a11, a12] (.int y0 :: .ref y1 :: []) M Q = xW xSC 0 0 [.ref y1, .int y0] [] M (fun v M' => xW xSC 43 75 [.ref a0, .ref a1, .ref a2, .int a3, .int a4, .int a5, .int a6, .int a7, a8, a9, a10, a11, a12] (xpush v []) M' Q)) ∧
  (∀ (a0 : Nat) (a1 : Nat) (a2 : Nat) (a3 : Int32) (a4 : Int32) (a5 : Int32) (a6 : Int32) (a7 : Int32) (a8 : Value) (a9 : Value) (a10 : Value) (a11 : Value) (a12 : Value) (y0 : Int32) (st : List Value) (M : xM) (Q : Option Value → xM → Prop), xW xSC 43 75 [.ref a0, .ref a1, .ref a2, .int a3, .int a4, .int a5, .int a6, .int a7, a8, a9, a10, a11, a12] (.int y0 :: st) M Q = xW xSC 43 77 [.ref a0, .ref a1, .ref a2, .int a3, .int a4, .int a5, .int a6, .int a7, .int y0, a9, a10, a11, a12] (st) M Q) ∧
  (∀ (a0 : Nat) (a1 : Nat) (a2 : Nat) (a3 : Int32) (a4 : Int32) (a5 : Int32) (a6 : Int32) (a7 : Int32) (a8 : Int32) (a9 : Value) (a10 : Value) (a11 : Value) (a12 : Value) (st : List Value) (M : xM) (Q : Option Value → xM → Prop), xW xSC 43 77 [.ref a0, .ref a1, .ref a2, .int a3, .int a4, .int a5, .int a6, .int a7, .int a8, a9, a10, a11, a12] (st) M Q = xW xSC 43 79 [.ref a0, .ref a1, .ref a2, .int a3, .int a4, .int a5, .int a6, .int a7, .int a8, a9, a10, a11, a12] (.int a7 :: st) M Q) ∧
  (∀ (a0 : Nat) (a1 : Nat) (a2 : Nat) (a3 : Int32) (a4 : Int32) (a5 : Int32) (a6 : Int32) (a7 : Int32) (a8 : Int32) (a9 : Value) (a10 : Value) (a11 : Value) (a12 : Value) (st : List Value) (M : xM) (Q : Option Value → xM → Prop), xW xSC 43 79 [.ref a0, .ref a1, .ref a2, .int a3, .int a4, .int a5, .int a6, .int a7, .int a8, a9, a10, a11, a12] (st) M Q = xW xSC 43 80 [.ref a0, .ref a1, .ref a2, .int a3, .int a4, .int a5, .int a6, .int a7, .int a8, a9, a10, a11, a12] (.int (nI 1) :: st) M Q) ∧
  (∀ (a0 : Nat) (a1 : Nat) (a2 : Nat) (a3 : Int32) (a4 : Int32) (a5 : Int32) (a6 : Int32) (a7 : Int32) (a8 : Int32) (a9 : Value) (a10 : Value) (a11 : Value) (a12 : Value) (y0 : Int32) (y1 : Int32) (st : List Value) (M : xM) (Q : Option Value → xM → Prop), xW xSC 43 80 [.ref a0, .ref a1, .ref a2, .int a3, .int a4, .int a5, .int a6, .int a7, .int a8, a9, a10, a11, a12] (.int y0 :: .int y1 :: st) M Q = xW xSC 43 81 [.ref a0, .ref a1, .ref a2, .int a3, .int a4, .int a5, .int a6, .int a7, .int a8, a9, a10, a11, a12] (.int (y1 >>> (y0 &&& nI 31)) :: st) M Q) ∧
  (∀ (a0 : Nat) (a1 : Nat) (a2 : Nat) (a3 : Int32) (a4 : Int32) (a5 : Int32) (a6 : Int32) (a7 : Int32) (a8 : Int32) (a9 : Value) (a10 : Value) (a11 : Value) (a12 : Value) (y0 : Int32) (st : List Value) (M : xM) (Q : Option Value → xM → Prop), xW xSC 43 81 [.ref a0, .ref a1, .ref a2, .int a3, .int a4, .int a5, .int a6, .int a7, .int a8, a9, a10, a11, a12] (.int y0 :: st) M Q = xW xSC 43 83 [.ref a0, .ref a1, .ref a2, .int a3, .int a4, .int a5, .int a6, .int a7, .int a8, .int y0, a10, a11, a12] (st) M Q) ∧
  (∀ (a0 : Nat) (a1 : Nat) (a2 : Nat) (a3 : Int32) (a4 : Int32) (a5 : Int32) (a6 : Int32) (a7 : Int32) (a8 : Int32) (a9 : Int32) (a10 : Value) (a11 : Value) (a12 : Value) (st : List Value) (M : xM) (Q : Option Value → xM → Prop), xW xSC 43 83 [.ref a0, .ref a1, .ref a2, .int a3, .int a4, .int a5, .int a6, .int a7, .int a8, .int a9, a10, a11, a12] (st) M Q = xW xSC 43 85 [.ref a0, .ref a1, .ref a2, .int a3, .int a4, .int a5, .int a6, .int a7, .int a8, .int a9, a10, a11, a12] (.int a7 :: st) M Q) ∧
  (∀ (a0 : Nat) (a1 : Nat) (a2 : Nat) (a3 : Int32) (a4 : Int32) (a5 : Int32) (a6 : Int32) (a7 : Int32) (a8 : Int32) (a9 : Int32) (a10 : Value) (a11 : Value) (a12 : Value) (st : List Value) (M : xM) (Q : Option Value → xM → Prop), xW xSC 43 85 [.ref a0, .ref a1, .ref a2, .int a3, .int a4, .int a5, .int a6, .int a7, .int a8, .int a9, a10, a11, a12] (st) M Q = xW xSC 43 86 [.ref a0, .ref a1, .ref a2, .int a3, .int a4, .int a5, .int a6, .int a7, .int a8, .int a9, a10, a11, a12] (.int (nI 1) :: st) M Q) ∧
  (∀ (a0 : Nat) (a1 : Nat) (a2 : Nat) (a3 : Int32) (a4 : Int32) (a5 : Int32) (a6 : Int32) (a7 : Int32) (a8 : Int32) (a9 : Int32) (a10 : Value) (a11 : Value) (a12 : Value) (y0 : Int32) (y1 : Int32) (st : List Value) (M : xM) (Q : Option Value → xM → Prop), xW xSC 43 86 [.ref a0, .ref a1, .ref a2, .int a3, .int a4, .int a5, .int a6, .int a7, .int a8, .int a9, a10, a11, a12] (.int y0 :: .int y1 :: st) M Q = xW xSC 43 87 [.ref a0, .ref a1, .ref a2, .int a3, .int a4, .int a5, .int a6, .int a7, .int a8, .int a9, a10, a11, a12] (.int (y1 &&& y0) :: st) M Q) ∧
  (∀ (a0 : Nat) (a1 : Nat) (a2 : Nat) (a3 : Int32) (a4 : Int32) (a5 : Int32) (a6 : Int32) (a7 : Int32) (a8 : Int32) (a9 : Int32) (a10 : Value) (a11 : Value) (a12 : Value) (y0 : Int32) (st : List Value) (M : xM) (Q : Option Value → xM → Prop), xW xSC 43 87 [.ref a0, .ref a1, .ref a2, .int a3, .int a4, .int a5, .int a6, .int a7, .int a8, .int a9, a10, a11, a12] (.int y0 :: st) M Q = xW xSC 43 89 [.ref a0, .ref a1, .ref a2, .int a3, .int a4, .int a5, .int a6, .int a7, .int a8, .int a9, .int y0, a11, a12] (st) M Q) ∧
  (∀ (a0 : Nat) (a1 : Nat) (a2 : Nat) (a3 : Int32) (a4 : Int32) (a5 : Int32) (a6 : Int32) (a7 : Int32) (a8 : Int32) (a9 : Int32) (a10 : Int32) (a11 : Value) (a12 : Value) (st : List Value) (M : xM) (Q : Option Value → xM → Prop), xW xSC 43 89 [.ref a0, .ref a1, .ref a2, .int a3, .int a4, .int a5, .int a6, .int a7, .int a8, .int a9, .int a10, a11, a12] (st) M Q = xW xSC 43 91 [.ref a0, .ref a1, .ref a2, .int a3, .int a4, .int a5, .int a6, .int a7, .int a8, .int a9, .int a10, a11, a12] (.int a9 :: st) M Q) ∧
  (∀ (a0 : Nat) (a1 : Nat) (a2 : Nat) (a3 : Int32) (a4 : Int32) (a5 : Int32) (a6 : Int32) (a7 : Int32) (a8 : Int32) (a9 : Int32) (a10 : Int32) (a11 : Value) (a12 : Value) (st : List Value) (M : xM) (Q : Option Value → xM → Prop), xW xSC 43 91 [.ref a0, .ref a1, .ref a2, .int a3, .int a4, .int a5, .int a6, .int a7, .int a8, .int a9, .int a10, a11, a12] (st) M Q = xW xSC 43 92 [.ref a0, .ref a1, .ref a2, .int a3, .int a4, .int a5, .int a6, .int a7, .int a8, .int a9, .int a10, a11, a12] (.int a3 :: st) M Q) ∧
  (∀ (a0 : Nat) (a1 : Nat) (a2 : Nat) (a3 : Int32) (a4 : Int32) (a5 : Int32) (a6 : Int32) (a7 : Int32) (a8 : Int32) (a9 : Int32) (a10 : Int32) (a11 : Value) (a12 : Value) (y0 : Int32) (y1 : Int32) (st : List Value) (M : xM) (Q : Option Value → xM → Prop), xW xSC 43 92 [.ref a0, .ref a1, .ref a2, .int a3, .int a4, .int a5, .int a6, .int a7, .int a8, .int a9, .int a10, a11, a12] (.int y0 :: .int y1 :: st) M Q = if y1 = y0 then xW xSC 43 95 [.ref a0, .ref a1, .ref a2, .int a3, .int a4, .int a5, .int a6, .int a7, .int a8, .int a9, .int a10, a11, a12] (st) M Q else xW xSC 43 106 [.ref a0, .ref a1, .ref a2, .int a3, .int a4, .int a5, .int a6, .int a7, .int a8, .int a9, .int a10, a11, a12] (st) M Q) ∧
  (∀ (a0 : Nat) (a1 : Nat) (a2 : Nat) (a3 : Int32) (a4 : Int32) (a5 : Int32) (a6 : Int32) (a7 : Int32) (a8 : Int32) (a9 : Int32) (a10 : Int32) (a11 : Value) (a12 : Value) (st : List Value) (M : xM) (Q : Option Value → xM → Prop), xW xSC 43 95 [.ref a0, .ref a1, .ref a2, .int a3, .int a4, .int a5, .int a6, .int a7, .int a8, .int a9, .int a10, a11, a12] (st) M Q = xW xSC 43 97 [.ref a0, .ref a1, .ref a2, .int a3, .int a4, .int a5, .int a6, .int a7, .int a8, .int a9, .int a10, a11, a12] (.int a10 :: st) M Q) ∧
  (∀ (a0 : Nat) (a1 : Nat) (a2 : Nat) (a3 : Int32) (a4 : Int32) (a5 : Int32) (a6 : Int32) (a7 : Int32) (a8 : Int32) (a9 : Int32) (a10 : Int32) (a11 : Value) (a12 : Value) (st : List Value) (M : xM) (Q : Option Value → xM → Prop), xW xSC 43 97 [.ref a0, .ref a1, .ref a2, .int a3, .int a4, .int a5, .int a6, .int a7, .int a8, .int a9, .int a10, a11, a12] (st) M Q = xW xSC 43 99 [.ref a0, .ref a1, .ref a2, .int a3, .int a4, .int a5, .int a6, .int a7, .int a8, .int a9, .int a10, a11, a12] (.int a4 :: st) M Q) ∧
  (∀ (a0 : Nat) (a1 : Nat) (a2 : Nat) (a3 : Int32) (a4 : Int32) (a5 : Int32) (a6 : Int32) (a7 : Int32) (a8 : Int32) (a9 : Int32) (a10 : Int32) (a11 : Value) (a12 : Value) (y0 : Int32) (y1 : Int32) (st : List Value) (M : xM) (Q : Option Value → xM → Prop), xW xSC 43 99 [.ref a0, .ref a1, .ref a2, .int a3, .int a4, .int a5, .int a6, .int a7, .int a8, .int a9, .int a10, a11, a12] (.int y0 :: .int y1 :: st) M Q = if y1 = y0 then xW xSC 43 102 [.ref a0, .ref a1, .ref a2, .int a3, .int a4, .int a5, .int a6, .int a7, .int a8, .int a9, .int a10, a11, a12] (st) M Q else xW xSC 43 106 [.ref a0, .ref a1, .ref a2, .int a3, .int a4, .int a5, .int a6, .int a7, .int a8, .int a9, .int a10, a11, a12] (st) M Q) ∧
  (∀ (a0 : Nat) (a1 : Nat) (a2 : Nat) (a3 : Int32) (a4 : Int32) (a5 : Int32) (a6 : Int32) (a7 : Int32) (a8 : Int32) (a9 : Int32) (a10 : Int32) (a11 : Value) (a12 : Value) (st : List Value) (M : xM) (Q : Option Value → xM → Prop), xW xSC 43 102 [.ref a0, .ref a1, .ref a2, .int a3, .int a4, .int a5, .int a6, .int a7, .int a8, .int a9, .int a10, a11, a12] (st) M Q = xW xSC 43 103 [.ref a0, .ref a1, .ref a2, .int a3, .int a4, .int a5, .int a6, .int a7, .int a8, .int a9, .int a10, a11, a12] (.int (nI 1) :: st) M Q) ∧
  (∀ (a0 : Nat) (a1 : Nat) (a2 : Nat) (a3 : Int32) (a4 : Int32) (a5 : Int32) (a6 : Int32) (a7 : Int32) (a8 : Int32) (a9 : Int32) (a10 : Int32) (a11 : Value) (a12 : Value) (st : List Value) (M : xM) (Q : Option Value → xM → Prop), xW xSC 43 103 [.ref a0, .ref a1, .ref a2, .int a3, .int a4, .int a5, .int a6, .int a7, .int a8, .int a9, .int a10, a11, a12] (st) M Q = xW xSC 43 107 [.ref a0, .ref a1, .ref a2, .int a3, .int a4, .int a5, .int a6, .int a7, .int a8, .int a9, .int a10, a11, a12] (st) M Q) ∧
  (∀ (a0 : Nat) (a1 : Nat) (a2 : Nat) (a3 : Int32) (a4 : Int32) (a5 : Int32) (a6 : Int32) (a7 : Int32) (a8 : Int32) (a9 : Int32) (a10 : Int32) (a11 : Int32) (a12 : Value) (st : List Value) (M : xM) (Q : Option Value → xM → Prop), xW xSC 43 109 [.ref a0, .ref a1, .ref a2, .int a3, .int a4, .int a5, .int a6, .int a7, .int a8, .int a9, .int a10, .int a11, a12] (st) M Q = xW xSC 43 111 [.ref a0, .ref a1, .ref a2, .int a3, .int a4, .int a5, .int a6, .int a7, .int a8, .int a9, .int a10, .int a11, a12] (.int a9 :: st) M Q) ∧
  (∀ (a0 : Nat) (a1 : Nat) (a2 : Nat) (a3 : Int32) (a4 : Int32) (a5 : Int32) (a6 : Int32) (a7 : Int32) (a8 : Int32) (a9 : Int32) (a10 : Int32) (a11 : Int32) (a12 : Value) (st : List Value) (M : xM) (Q : Option Value → xM → Prop), xW xSC 43 111 [.ref a0, .ref a1, .ref a2, .int a3, .int a4, .int a5, .int a6, .int a7, .int a8, .int a9, .int a10, .int a11, a12] (st) M Q = xW xSC 43 112 [.ref a0, .ref a1, .ref a2, .int a3, .int a4, .int a5, .int a6, .int a7, .int a8, .int a9, .int a10, .int a11, a12] (.int a3 :: st) M Q) ∧
  (∀ (a0 : Nat) (a1 : Nat) (a2 : Nat) (a3 : Int32) (a4 : Int32) (a5 : Int32) (a6 : Int32) (a7 : Int32) (a8 : Int32) (a9 : Int32) (a10 : Int32) (a11 : Int32) (a12 : Value) (y0 : Int32) (y1 : Int32) (st : List Value) (M : xM) (Q : Option Value → xM → Prop), xW xSC 43 112 [.ref a0, .ref a1, .ref a2, .int a3, .int a4, .int a5, .int a6, .int a7, .int a8, .int a9, .int a10, .int a11, a12] (.int y0 :: .int y1 :: st) M Q = if y1 = y0 then xW xSC 43 132 [.ref a0, .ref a1, .ref a2, .int a3, .int a4, .int a5, .int a6, .int a7, .int a8, .int a9, .int a10, .int a11, a12] (st) M Q else xW xSC 43 115 [.ref a0, .ref a1, .ref a2, .int a3, .int a4, .int a5, .int a6, .int a7, .int a8, .int a9, .int a10, .int a11, a12] (st) M Q) ∧
  (∀ (a0 : Nat) (a1 : Nat) (a2 : Nat) (a3 : Int32) (a4 : Int32) (a5 : Int32) (a6 : Int32) (a7 : Int32) (a8 : Int32) (a9 : Int32) (a10 : Int32) (a11 : Int32) (a12 : Value) (st : List Value) (M : xM) (Q : Option Value → xM → Prop), xW xSC 43 115 [.ref a0, .ref a1, .ref a2, .int a3, .int a4, .int a5, .int a6, .int a7, .int a8, .int a9, .int a10, .int a11, a12] (st) M Q = xW xSC 43 116 [.ref a0, .ref a1, .ref a2, .int a3, .int a4, .int a5, .int a6, .int a7, .int a8, .int a9, .int a10, .int a11, a12] (.ref a1 :: st) M Q) ∧
  (∀ (a0 : Nat) (a1 : Nat) (a2 : Nat) (a3 : Int32) (a4 : Int32) (a5 : Int32) (a6 : Int32) (a7 : Int32) (a8 : Int32) (a9 : Int32) (a10 : Int32) (a11 : Int32) (a12 : Value) (st : List Value) (M : xM) (Q : Option Value → xM → Prop), xW xSC 43 116 [.ref a0, .ref a1, .ref a2, .int a3, .int a4, .int a5, .int a6, .int a7, .int a8, .int a9, .int a10, .int a11, a12] (st) M Q = xW xSC 43 118 [.ref a0, .ref a1, .ref a2, .int a3, .int a4, .int a5, .int a6, .int a7, .int a8, .int a9, .int a10, .int a11, a12] (.int a9 :: st) M Q) ∧
  (∀ (a0 : Nat) (a1 : Nat) (a2 : Nat) (a3 : Int32) (a4 : Int32) (a5 : Int32) (a6 : Int32) (a7 : Int32) (a8 : Int32) (a9 : Int32) (a10 : Int32) (a11 : Int32) (a12 : Value) (st : List Value) (M : xM) (Q : Option Value → xM → Prop), xW xSC 43 118 [.ref a0, .ref a1, .ref a2, .int a3, .int a4, .int a5, .int a6, .int a7, .int a8, .int a9, .int a10, .int a11, a12] (st) M Q = xW xSC 43 120 [.ref a0, .ref a1, .ref a2, .int a3, .int a4, .int a5, .int a6, .int a7, .int a8, .int a9, .int a10, .int a11, a12] (.int a10 :: st) M Q) ∧
  (∀ (a0 : Nat) (a1 : Nat) (a2 : Nat) (a3 : Int32) (a4 : Int32) (a5 : Int32) (a6 : Int32) (a7 : Int32) (a8 : Int32) (a9 : Int32) (a10 : Int32) (a11 : Int32) (a12 : Value) (y0 : Int32) (y1 : Int32) (M : xM) (Q : Option Value → xM → Prop), xW xSC 43 120 [.ref a0, .ref a1, .ref a2, .int a3, .int a4, .int a5, .int a6, .int a7, .int a8, .int a9, .int a10, .int a11, a12] (.int y0 :: .int y1 :: .ref 9 :: []) M Q = xW xSC 36 0 [.ref 9, .int y1, .int y0] [] M (fun v M' => xW xSC 43 123 [.ref a0, .ref a1, .ref a2, .int a3, .int a4, .int a5, .int a6, .int a7, .int a8, .int a9, .int a10, .int a11, a12] (xpush v []) M' Q)) ∧
  (∀ (a0 : Nat) (a1 : Nat) (a2 : Nat) (a3 : Int32) (a4 : Int32) (a5 : Int32) (a6 : Int32) (a7 : Int32) (a8 : Int32) (a9 : Int32) (a10 : Int32) (a11 : Int32) (a12 : Value) (st : List Value) (M : xM) (Q : Option Value → xM → Prop), xW xSC 43 123 [.ref a0, .ref a1, .ref a2, .int a3, .int a4, .int a5, .int a6, .int a7, .int a8, .int a9, .int a10, .int a11, a12] (st) M Q = xW xSC 43 125 [.ref a0, .ref a1, .ref a2, .int a3, .int a4, .int a5, .int a6, .int a7, .int a8, .int a9, .int a10, .int a11, a12] (.int a5 :: st) M Q) ∧
  (∀ (a0 : Nat) (a1 : Nat) (a2 : Nat) (a3 : Int32) (a4 : Int32) (a5 : Int32) (a6 : Int32) (a7 : Int32) (a8 : Int32) (a9 : Int32) (a10 : Int32) (a11 : Int32) (a12 : Value) (y0 : Int32) (y1 : Int32) (st : List Value) (M : xM) (Q : Option Value → xM → Prop), xW xSC 43 125 [.ref a0, .ref a1, .ref a2, .int a3, .int a4, .int a5, .int a6, .int a7, .int a8, .int a9, .int a10, .int a11, a12] (.int y0 :: .int y1 :: st) M Q = if y1 = y0 then xW xSC 43 128 [.ref a0, .ref a1, .ref a2, .int a3, .int a4, .int a5, .int a6, .int a7, .int a8, .int a9, .int a10, .int a11, a12] (st) M Q else xW xSC 43 132 [.ref a0, .ref a1, .ref a2, .int a3, .int a4, .int a5, .int a6, .int a7, .int a8, .int a9, .int a10, .int a11, a12] (st) M Q) ∧
  (∀ (a0 : Nat) (a1 : Nat) (a2 : Nat) (a3 : Int32) (a4 : Int32) (a5 : Int32) (a6 : Int32) (a7 : Int32) (a8 : Int32) (a9 : Int32) (a10 : Int32) (a11 : Int32) (a12 : Value) (st : List Value) (M : xM) (Q : Option Value → xM → Prop), xW xSC 43 128 [.ref a0, .ref a1, .ref a2, .int a3, .int a4, .int a5, .int a6, .int a7, .int a8, .int a9, .int a10, .int a11, a12] (st) M Q = xW xSC 43 129 [.ref a0, .ref a1, .ref a2, .int a3, .int a4, .int a5, .int a6, .int a7, .int a8, .int a9, .int a10, .int a11, a12] (.int (nI 1) :: st) M Q) ∧
  (∀ (a0 : Nat) (a1 : Nat) (a2 : Nat) (a3 : Int32) (a4 : Int32) (a5 : Int32) (a6 : Int32) (a7 : Int32) (a8 : Int32) (a9 : Int32) (a10 : Int32) (a11 : Int32) (a12 : Value) (st : List Value) (M : xM) (Q : Option Value → xM → Prop), xW xSC 43 129 [.ref a0, .ref a1, .ref a2, .int a3, .int a4, .int a5, .int a6, .int a7, .int a8, .int a9, .int a10, .int a11, a12] (st) M Q = xW xSC 43 133 [.ref a0, .ref a1, .ref a2, .int a3, .int a4, .int a5, .int a6, .int a7, .int a8, .int a9, .int a10, .int a11, a12] (st) M Q) ∧
  (∀ (a0 : Nat) (a1 : Nat) (a2 : Nat) (a3 : Int32) (a4 : Int32) (a5 : Int32) (a6 : Int32) (a7 : Int32) (a8 : Int32) (a9 : Int32) (a10 : Int32) (a11 : Int32) (a12 : Int32) (st : List Value) (M : xM) (Q : Option Value → xM → Prop), xW xSC 43 135 [.ref a0, .ref a1, .ref a2, .int a3, .int a4, .int a5, .int a6, .int a7, .int a8, .int a9, .int a10, .int a11, .int a12] (st) M Q = xW xSC 43 137 [.ref a0, .ref a1, .ref a2, .int a3, .int a4, .int a5, .int a6, .int a7, .int a8, .int a9, .int a10, .int a11, .int a12] (.int a8 :: st) M Q) ∧
  (∀ (a0 : Nat) (a1 : Nat) (a2 : Nat) (a3 : Int32) (a4 : Int32) (a5 : Int32) (a6 : Int32) (a7 : Int32) (a8 : Int32) (a9 : Int32) (a10 : Int32) (a11 : Int32) (a12 : Int32) (y0 : Int32) (st : List Value) (M : xM) (Q : Option Value → xM → Prop), xW xSC 43 137 [.ref a0, .ref a1, .ref a2, .int a3, .int a4, .int a5, .int a6, .int a7, .int a8, .int a9, .int a10, .int a11, .int a12] (.int y0 :: st) M Q = if nI 0 < y0 then xW xSC 43 140 [.ref a0, .ref a1, .ref a2, .int a3, .int a4, .int a5, .int a6, .int a7, .int a8, .int a9, .int a10, .int a11, .int a12] (st) M Q else xW xSC 43 167 [.ref a0, .ref a1, .ref a2, .int a3, .int a4, .int a5, .int a6, .int a7, .int a8, .int a9, .int a10, .int a11, .int a12] (st) M Q) ∧
  (∀ (a0 : Nat) (a1 : Nat) (a2 : Nat) (a3 : Int32) (a4 : Int32) (a5 : Int32) (a6 : Int32) (a7 : Int32) (a8 : Int32) (a9 : Int32) (a10 : Int32) (a11 : Int32) (a12 : Int32) (st : List Value) (M : xM) (Q : Option Value → xM → Prop), xW xSC 43 140 [.ref a0, .ref a1, .ref a2, .int a3, .int a4, .int a5, .int a6, .int a7, .int a8, .int a9, .int a10, .int a11, .int a12] (st) M Q = xW xSC 43 142 [.ref a0, .ref a1, .ref a2, .int a3, .int a4, .int a5, .int a6, .int a7, .int a8, .int a9, .int a10, .int a11, .int a12] (.int a11 :: st) M Q) ∧
  (∀ (a0 : Nat) (a1 : Nat) (a2 : Nat) (a3 : Int32) (a4 : Int32) (a5 : Int32) (a6 : Int32) (a7 : Int32) (a8 : Int32) (a9 : Int32) (a10 : Int32) (a11 : Int32) (a12 : Int32) (y0 : Int32) (st : List Value) (M : xM) (Q : Option Value → xM → Prop), xW xSC 43 142 [.ref a0, .ref a1, .ref a2, .int a3, .int a4, .int a5, .int a6, .int a7, .int a8, .int a9, .int a10, .int a11, .int a12] (.int y0 :: st) M Q = if y0 = nI 0 then xW xSC 43 145 [.ref a0, .ref a1, .ref a2, .int a3, .int a4, .int a5, .int a6, .int a7, .int a8, .int a9, .int a10, .int a11, .int a12] (st) M Q else xW xSC 43 150 [.ref a0, .ref a1, .ref a2, .int a3, .int a4, .int a5, .int a6, .int a7, .int a8, .int a9, .int a10, .int a11, .int a12] (st) M Q) ∧
  (∀ (a0 : Nat) (a1 : Nat) (a2 : Nat) (a3 : Int32) (a4 : Int32) (a5 : Int32) (a6 : Int32) (a7 : Int32) (a8 : Int32) (a9 : Int32) (a10 : Int32) (a11 : Int32) (a12 : Int32) (st : List Value) (M : xM) (Q : Option Value → xM → Prop), xW xSC 43 145 [.ref a0, .ref a1, .ref a2, .int a3, .int a4, .int a5, .int a6, .int a7, .int a8, .int a9, .int a10, .int a11, .int a12] (st) M Q = xW xSC 43 147 [.ref a0, .ref a1, .ref a2, .int a3, .int a4, .int a5, .int a6, .int a7, .int a8, .int a9, .int a10, .int a11, .int a12] (.int a12 :: st) M Q) ∧
  (∀ (a0 : Nat) (a1 : Nat) (a2 : Nat) (a3 : Int32) (a4 : Int32) (a5 : Int32) (a6 : Int32) (a7 : Int32) (a8 : Int32) (a9 : Int32) (a10 : Int32) (a11 : Int32) (a12 : Int32) (y0 : Int32) (st : List Value) (M : xM) (Q : Option Value → xM → Prop), xW xSC 43 147 [.ref a0, .ref a1, .ref a2, .int a3, .int a4, .int a5, .int a6, .int a7, .int a8, .int a9, .int a10, .int a11, .int a12] (.int y0 :: st) M Q = if y0 = nI 0 then xW xSC 43 167 [.ref a0, .ref a1, .ref a2, .int a3, .int a4, .int a5, .int a6, .int a7, .int a8, .int a9, .int a10, .int a11, .int a12] (st) M Q else xW xSC 43 150 [.ref a0, .ref a1, .ref a2, .int a3, .int a4, .int a5, .int a6, .int a7, .int a8, .int a9, .int a10, .int a11, .int a12] (st) M Q) ∧
  (∀ (a0 : Nat) (a1 : Nat) (a2 : Nat) (a3 : Int32) (a4 : Int32) (a5 : Int32) (a6 : Int32) (a7 : Int32) (a8 : Int32) (a9 : Int32) (a10 : Int32) (a11 : Int32) (a12 : Int32) (st : List Value) (M : xM) (Q : Option Value → xM → Prop), xW xSC 43 151 [.ref a0, .ref a1, .ref a2, .int a3, .int a4, .int a5, .int a6, .int a7, .int a8, .int a9, .int a10, .int a11, .int a12] (st) M Q = xW xSC 43 152 [.ref a0, .ref a1, .ref a2, .int a3, .int a4, .int a5, .int a6, .int a7, .int a8, .int a9, .int a10, .int a11, .int a12] (.ref a1 :: st) M Q) ∧
  (∀ (a0 : Nat) (a1 : Nat) (a2 : Nat) (a3 : Int32) (a4 : Int32) (a5 : Int32) (a6 : Int32) (a7 : Int32) (a8 : Int32) (a9 : Int32) (a10 : Int32) (a11 : Int32) (a12 : Int32) (st : List Value) (M : xM) (Q : Option Value → xM → Prop), xW xSC 43 152 [.ref a0, .ref a1, .ref a2, .int a3, .int a4, .int a5, .int a6, .int a7, .int a8, .int a9, .int a10, .int a11, .int a12] (st) M Q = xW xSC 43 154 [.ref a0, .ref a1, .ref a2, .int a3, .int a4, .int a5, .int a6, .int a7, .int a8, .int a9, .int a10, .int a11, .int a12] (.int a9 :: st) M Q) ∧
  (∀ (a0 : Nat) (a1 : Nat) (a2 : Nat) (a3 : Int32) (a4 : Int32) (a5 : Int32) (a6 : Int32) (a7 : Int32) (a8 : Int32) (a9 : Int32) (a10 : Int32) (a11 : Int32) (a12 : Int32) (st : List Value) (M : xM) (Q : Option Value → xM → Prop), xW xSC 43 154 [.ref a0, .ref a1, .ref a2, .int a3, .int a4, .int a5, .int a6, .int a7, .int a8, .int a9, .int a10, .int a11, .int a12] (st) M Q = xW xSC 43 156 [.ref a0, .ref a1, .ref a2, .int a3, .int a4, .int a5, .int a6, .int a7, .int a8, .int a9, .int a10, .int a11, .int a12] (.int a10 :: st) M Q) ∧
  (∀ (a0 : Nat) (a1 : Nat) (a2 : Nat) (a3 : Int32) (a4 : Int32) (a5 : Int32) (a6 : Int32) (a7 : Int32) (a8 : Int32) (a9 : Int32) (a10 : Int32) (a11 : Int32) (a12 : Int32) (y0 : Int32) (y1 : Int32) (y3 : Nat) (M : xM) (Q : Option Value → xM → Prop), xW xSC 43 156 [.ref a0, .ref a1, .ref a2, .int a3, .int a4, .int a5, .int a6, .int a7, .int a8, .int a9, .int a10, .int a11, .int a12] (.int y0 :: .int y1 :: .ref 9 :: .ref y3 :: []) M Q = xW xSC 37 0 [.ref 9, .int y1, .int y0] [] M (fun v M' => xW xSC 43 159 [.ref a0, .ref a1, .ref a2, .int a3, .int a4, .int a5, .int a6, .int a7, .int a8, .int a9, .int a10, .int a11, .int a12] (xpush v [.ref y3]) M' Q)) ∧
  (∀ (a0 : Nat) (a1 : Nat) (a2 : Nat) (a3 : Int32) (a4 : Int32) (a5 : Int32) (a6 : Int32) (a7 : Int32) (a8 : Int32) (a9 : Int32) (a10 : Int32) (a11 : Int32) (a12 : Int32) (st : List Value) (M : xM) (Q : Option Value → xM → Prop), xW xSC 43 159 [.ref a0, .ref a1, .ref a2, .int a3, .int a4, .int a5, .int a6, .int a7, .int a8, .int a9, .int a10, .int a11, .int a12] (st) M Q = xW xSC 43 161 [.ref a0, .ref a1, .ref a2, .int a3, .int a4, .int a5, .int a6, .int a7, .int a8, .int a9, .int a10, .int a11, .int a12] (.int a6 :: st) M Q) ∧
  (∀ (a0 : Nat) (a1 : Nat) (a2 : Nat) (a3 : Int32) (a4 : Int32) (a5 : Int32) (a6 : Int32) (a7 : Int32) (a8 : Int32) (a9 : Int32) (a10 : Int32) (a11 : Int32) (a12 : Int32) (st : List Value) (M : xM) (Q : Option Value → xM → Prop), xW xSC 43 161 [.ref a0, .ref a1, .ref a2, .int a3, .int a4, .int a5, .int a6, .int a7, .int a8, .int a9, .int a10, .int a11, .int a12] (st) M Q = xW xSC 43 163 [.ref a0, .ref a1, .ref a2, .int a3, .int a4, .int a5, .int a6, .int a7, .int a8, .int a9, .int a10, .int a11, .int a12] (.int a8 :: st) M Q) ∧
  (∀ (a0 : Nat) (a1 : Nat) (a2 : Nat) (a3 : Int32) (a4 : Int32) (a5 : Int32) (a6 : Int32) (a7 : Int32) (a8 : Int32) (a9 : Int32) (a10 : Int32) (a11 : Int32) (a12 : Int32) (y0 : Int32) (y1 : Int32) (st : List Value) (M : xM) (Q : Option Value → xM → Prop), xW xSC 43 163 [.ref a0, .ref a1, .ref a2, .int a3, .int a4, .int a5, .int a6, .int a7, .int a8, .int a9, .int a10, .int a11, .int a12] (.int y0 :: .int y1 :: st) M Q = xW xSC 43 164 [.ref a0, .ref a1, .ref a2, .int a3, .int a4, .int a5, .int a6, .int a7, .int a8, .int a9, .int a10, .int a11, .int a12] (.int (y1 * y0) :: st) M Q) ∧
  (∀ (a0 : Nat) (a1 : Nat) (a2 : Nat) (a3 : Int32) (a4 : Int32) (a5 : Int32) (a6 : Int32) (a7 : Int32) (a8 : Int32) (a9 : Int32) (a10 : Int32) (a11 : Int32) (a12 : Int32) (y0 : Int32) (y1 : Int32) (M : xM) (Q : Option Value → xM → Prop), xW xSC 43 164 [.ref a0, .ref a1, .ref a2, .int a3, .int a4, .int a5, .int a6, .int a7, .int a8, .int a9, .int a10, .int a11, .int a12] (.int y0 :: .int y1 :: .ref 33 :: []) M Q = xW xSC 49 0 [.ref 33, .int y1, .int y0] [] M (fun v M' => xW xSC 43 167 [.ref a0, .ref a1, .ref a2, .int a3, .int a4, .int a5, .int a6, .int a7, .int a8, .int a9, .int a10, .int a11, .int a12] (xpush v []) M' Q)) ∧
  (∀ (a0 : Nat) (a1 : Nat) (a2 : Nat) (a3 : Int32) (a4 : Int32) (a5 : Int32) (a6 : Int32) (a7 : Int32) (a8 : Int32) (a9 : Int32) (a10 : Int32) (a11 : Int32) (a12 : Int32) (st : List Value) (M : xM) (Q : Option Value → xM → Prop), xW xSC 43 170 [.ref a0, .ref a1, .ref a2, .int a3, .int a4, .int a5, .int a6, .int a7, .int a8, .int a9, .int a10, .int a11, .int a12] (st) M Q = xW xSC 43 55 [.ref a0, .ref a1, .ref a2, .int a3, .int a4, .int a5, .int a6, .int a7, .int a8, .int a9, .int a10, .int a11, .int a12] (st) M Q) ∧
  (∀ (a0 : Nat) (a1 : Nat) (a2 : Nat) (a3 : Int32) (a4 : Int32) (a5 : Int32) (a6 : Int32) (a7 : Int32) (a8 : Value) (a9 : Value) (a10 : Value) (a11 : Value) (a12 : Value) (M : xM) (Q : Option Value → xM → Prop), xW xSC 43 173 [.ref a0, .ref a1, .ref a2, .int a3, .int a4, .int a5, .int a6, .int a7, a8, a9, a10, a11, a12] ([]) M Q = Q none M) ∧
  (∀ (a0 : Nat) (a1 : Nat) (a2 : Nat) (a3 : Int32) (a4 : Int32) (a5 : Int32) (a6 : Value) (a7 : Value) (a8 : Value) (a9 : Value) (a10 : Value) (a11 : Value) (a12 : Value) (y0 : Int32) (y1 : Int32) (y2 : Int32) (y3 : Nat) (M : xM) (Q : Option Value → xM → Prop), xW xSC 43 29 [.ref a0, .ref a1, .ref a2, .int a3, .int a4, .int a5, a6, a7, a8, a9, a10, a11, a12] (.int y0 :: .int y1 :: .int y2 :: .ref y3 :: .ref 35 :: []) M Q = xW xSC 45 0 [.ref 35, .ref y3, .int y2, .int y1, .int y0, .null] [] M (fun v M' => xW xSC 43 32 [.ref a0, .ref a1, .ref a2, .int a3, .int a4, .int a5, a6, a7, a8, a9, a10, a11, a12] (xpush v []) M' Q)) ∧
  (∀ (a0 : Nat) (a1 : Nat) (a2 : Nat) (a3 : Int32) (a4 : Int32) (a5 : Int32) (a6 : Value) (a7 : Value) (a8 : Value) (a9 : Value) (a10 : Value) (a11 : Value) (a12 : Value) (y0 : Int32) (y1 : Int32) (M : xM) (Q : Option Value → xM → Prop), xW xSC 43 42 [.ref a0, .ref a1, .ref a2, .int a3, .int a4, .int a5, a6, a7, a8, a9, a10, a11, a12] (.int y0 :: .int y1 :: .ref 35 :: []) M Q = xW xSC 49 0 [.ref 35, .int y1, .int y0] [] M (fun v M' => xW xSC 43 45 [.ref a0, .ref a1, .ref a2, .int a3, .int a4, .int a5, a6, a7, a8, a9, a10, a11, a12] (xpush v []) M' Q)) ∧
  (∀ (a0 : Nat) (a1 : Nat) (a2 : Nat) (a3 : Int32) (a4 : Int32) (a5 : Int32) (a6 : Int32) (a7 : Int32) (a8 : Int32) (a9 : Int32) (a10 : Int32) (a11 : Int32) (a12 : Int32) (y0 : Int32) (y1 : Int32) (M : xM) (Q : Option Value → xM → Prop), xW xSC 43 164 [.ref a0, .ref a1, .ref a2, .int a3, .int a4, .int a5, .int a6, .int a7, .int a8, .int a9, .int a10, .int a11, .int a12] (.int y0 :: .int y1 :: .ref 35 :: []) M Q = xW xSC 49 0 [.ref 35, .int y1, .int y0] [] M (fun v M' => xW xSC 43 167 [.ref a0, .ref a1, .ref a2, .int a3, .int a4, .int a5, .int a6, .int a7, .int a8, .int a9, .int a10, .int a11, .int a12] (xpush v []) M' Q)) ∧
  (∀ (a0 : Nat) (a1 : Nat) (a2 : Nat) (a3 : Int32) (a4 : Int32) (a5 : Int32) (a6 : Value) (a7 : Value) (a8 : Value) (a9 : Value) (a10 : Value) (a11 : Value) (a12 : Value) (y0 : Int32) (y1 : Int32) (y2 : Int32) (y3 : Nat) (M : xM) (Q : Option Value → xM → Prop), xW xSC 43 29 [.ref a0, .ref a1, .ref a2, .int a3, .int a4, .int a5, a6, a7, a8, a9, a10, a11, a12] (.int y0 :: .int y1 :: .int y2 :: .ref y3 :: .ref 40 :: []) M Q = xW xSC 45 0 [.ref 40, .ref y3, .int y2, .int y1, .int y0, .null] [] M (fun v M' => xW xSC 43 32 [.ref a0, .ref a1, .ref a2, .int a3, .int a4, .int a5, a6, a7, a8, a9, a10, a11, a12] (xpush v []) M' Q)) ∧
  (∀ (a0 : Nat) (a1 : Nat) (a2 : Nat) (a3 : Int32) (a4 : Int32) (a5 : Int32) (a6 : Value) (a7 : Value) (a8 : Value) (a9 : Value) (a10 : Value) (a11 : Value) (a12 : Value) (y0 : Int32) (y1 : Int32) (M : xM) (Q : Option Value → xM → Prop), xW xSC 43 42 [.ref a0, .ref a1, .ref a2, .int a3, .int a4, .int a5, a6, a7, a8, a9, a10, a11, a12] (.int y0 :: .int y1 :: .ref 40 :: []) M Q = xW xSC 49 0 [.ref 40, .int y1, .int y0] [] M (fun v M' => xW xSC 43 45 [.ref a0, .ref a1, .ref a2, .int a3, .int a4, .int a5, a6, a7, a8, a9, a10, a11, a12] (xpush v []) M' Q)) ∧
  (∀ (a0 : Nat) (a1 : Nat) (a2 : Nat) (a3 : Int32) (a4 : Int32) (a5 : Int32) (a6 : Int32) (a7 : Int32) (a8 : Int32) (a9 : Int32) (a10 : Int32) (a11 : Int32) (a12 : Int32) (y0 : Int32) (y1 : Int32) (M : xM) (Q : Option Value → xM → Prop), xW xSC 43 164 [.ref a0, .ref a1, .ref a2, .int a3, .int a4, .int a5, .int a6, .int a7, .int a8, .int a9, .int a10, .int a11, .int a12] (.int y0 :: .int y1 :: .ref 40 :: []) M Q = xW xSC 49 0 [.ref 40, .int y1, .int y0] [] M (fun v M' => xW xSC 43 167 [.ref a0, .ref a1, .ref a2, .int a3, .int a4, .int a5, .int a6, .int a7, .int a8, .int a9, .int a10, .int a11, .int a12] (xpush v []) M' Q)) :=
  ⟨fun a0 a1 a2 a3 a4 a5 a6 a7 a8 a9 a10 a11 a12 st M Q => xw_s rfl rfl,
  fun a0 a1 a2 a3 a4 a5 a6 a7 a8 a9 a10 a11 a12 st M Q => xw_s rfl rfl,
  fun a0 a1 a2 a3 a4 a5 a6 a7 a8 a9 a10 a11 a12 st M Q => xw_s rfl rfl,
  fun a0 a1 a2 a3 a4 a5 a6 a7 a8 a9 a10 a11 a12 y0 y1 M Q => xw_call rfl rfl rfl,
  fun a0 a1 a2 a3 a4 a5 a6 a7 a8 a9 a10 a11 a12 y0 st M Q => xw_s rfl rfl,
  fun a0 a1 a2 a3 a4 a5 a6 a7 a8 a9 a10 a11 a12 st M Q => xw_s rfl rfl,
  fun a0 a1 a2 a3 a4 a5 a6 a7 a8 a9 a10 a11 a12 st M Q => xw_s rfl rfl,
  fun a0 a1 a2 a3 a4 a5 a6 a7 a8 a9 a10 a11 a12 st M Q => xw_s rfl rfl,
  fun a0 a1 a2 a3 a4 a5 a6 a7 a8 a9 a10 a11 a12 st M Q => xw_s rfl rfl,
  fun a0 a1 a2 a3 a4 a5 a6 a7 a8 a9 a10 a11 a12 st M Q => xw_s rfl rfl,
  fun a0 a1 a2 a3 a4 a5 a6 a7 a8 a9 a10 a11 a12 y0 y1 y3 y4 M Q => xw_call rfl rfl rfl,
  fun a0 a1 a2 a3 a4 a5 a6 a7 a8 a9 a10 a11 a12 st M Q => xw_s rfl rfl,
  fun a0 a1 a2 a3 a4 a5 a6 a7 a8 a9 a10 a11 a12 st M Q => xw_s rfl rfl,
  fun a0 a1 a2 a3 a4 a5 a6 a7 a8 a9 a10 a11 a12 st M Q => xw_s rfl rfl,
  fun a0 a1 a2 a3 a4 a5 a6 a7 a8 a9 a10 a11 a12 st M Q => xw_s rfl rfl,
  fun a0 a1 a2 a3 a4 a5 a6 a7 a8 a9 a10 a11 a12 st M Q => xw_s rfl rfl,
  fun a0 a1 a2 a3 a4 a5 a6 a7 a8 a9 a10 a11 a12 y0 y1 st M Q => xw_s rfl rfl,
  fun a0 a1 a2 a3 a4 a5 a6 a7 a8 a9 a10 a11 a12 y0 y1 y3 y4 y5 y6 M Q => xw_call rfl rfl rfl,
  fun a0 a1 a2 a3 a4 a5 a6 a7 a8 a9 a10 a11 a12 y0 y1 y2 y3 M Q => xw_call rfl rfl rfl,
  fun a0 a1 a2 a3 a4 a5 a6 a7 a8 a9 a10 a11 a12 st M Q => xw_s rfl rfl,
  fun a0 a1 a2 a3 a4 a5 a6 a7 a8 a9 a10 a11 a12 st M Q => xw_s rfl rfl,
  fun a0 a1 a2 a3 a4 a5 a6 a7 a8 a9 a10 a11 a12 st M Q => xw_s rfl rfl,
  fun a0 a1 a2 a3 a4 a5 a6 a7 a8 a9 a10 a11 a12 st M Q => xw_s rfl rfl,
  fun a0 a1 a2 a3 a4 a5 a6 a7 a8 a9 a10 a11 a12 st M Q => xw_s rfl rfl,
  fun a0 a1 a2 a3 a4 a5 a6 a7 a8 a9 a10 a11 a12 y0 y2 y3 M Q => xw_call rfl rfl rfl,
  fun a0 a1 a2 a3 a4 a5 a6 a7 a8 a9 a10 a11 a12 y0 y1 M Q => xw_call rfl rfl rfl,
  fun a0 a1 a2 a3 a4 a5 a6 a7 a8 a9 a10 a11 a12 st M Q => xw_s rfl rfl,
  fun a0 a1 a2 a3 a4 a5 a6 a7 a8 a9 a10 a11 a12 st M Q => xw_s rfl rfl,
  fun a0 a1 a2 a3 a4 a5 a6 a7 a8 a9 a10 a11 a12 y0 M Q => xw_call rfl rfl rfl,
  fun a0 a1 a2 a3 a4 a5 a6 a7 a8 a9 a10 a11 a12 y0 st M Q => xw_s rfl rfl,
  fun a0 a1 a2 a3 a4 a5 a6 a7 a8 a9 a10 a11 a12 st M Q => xw_s rfl rfl,
  fun a0 a1 a2 a3 a4 a5 a6 a7 a8 a9 a10 a11 a12 y0 st M Q => xw_s rfl rfl,
  fun a0 a1 a2 a3 a4 a5 a6 a7 a8 a9 a10 a11 a12 st M Q => xw_s rfl rfl,
  fun a0 a1 a2 a3 a4 a5 a6 a7 a8 a9 a10 a11 a12 st M Q => xw_s rfl rfl,
  fun a0 a1 a2 a3 a4 a5 a6 a7 a8 a9 a10 a11 a12 st M Q => xw_s rfl rfl,
  fun a0 a1 a2 a3 a4 a5 a6 a7 a8 a9 a10 a11 a12 y0 y1 st M Q => xw_s rfl rfl,
  fun a0 a1 a2 a3 a4 a5 a6 a7 a8 a9 a10 a11 a12 y0 y1 st M Q => xw_brn (c0 := y0 ≤ y1) (c1 := y1 < y0) rfl rfl (xge _ _),
  fun a0 a1 a2 a3 a4 a5 a6 a7 a8 a9 a10 a11 a12 st M Q => xw_s rfl rfl,
  fun a0 a1 a2 a3 a4 a5 a6 a7 a8 a9 a10 a11 a12 st M Q => xw_s rfl rfl,
  fun a0 a1 a2 a3 a4 a5 a6 a7 a8 a9 a10 a11 a12 st M Q => xw_s rfl rfl,
  fun a0 a1 a2 a3 a4 a5 a6 a7 a8 a9 a10 a11 a12 y0 y1 M Q => xw_call rfl rfl rfl,
  fun a0 a1 a2 a3 a4 a5 a6 a7 a8 a9 a10 a11 a12 y0 st M Q => xw_s rfl rfl,
  fun a0 a1 a2 a3 a4 a5 a6 a7 a8 a9 a10 a11 a12 st M Q => xw_s rfl rfl,
  fun a0 a1 a2 a3 a4 a5 a6 a7 a8 a9 a10 a11 a12 st M Q => xw_s rfl rfl,
  fun a0 a1 a2 a3 a4 a5 a6 a7 a8 a9 a10 a11 a12 y0 y1 st M Q => xw_s rfl rfl,
  fun a0 a1 a2 a3 a4 a5 a6 a7 a8 a9 a10 a11 a12 y0 st M Q => xw_s rfl rfl,
  fun a0 a1 a2 a3 a4 a5 a6 a7 a8 a9 a10 a11 a12 st M Q => xw_s rfl rfl,
  fun a0 a1 a2 a3 a4 a5 a6 a7 a8 a9 a10 a11 a12 st M Q => xw_s rfl rfl,
  fun a0 a1 a2 a3 a4 a5 a6 a7 a8 a9 a10 a11 a12 y0 y1 st M Q => xw_s rfl rfl,
  fun a0 a1 a2 a3 a4 a5 a6 a7 a8 a9 a10 a11 a12 y0 st M Q => xw_s rfl rfl,
  fun a0 a1 a2 a3 a4 a5 a6 a7 a8 a9 a10 a11 a12 st M Q => xw_s rfl rfl,
  fun a0 a1 a2 a3 a4 a5 a6 a7 a8 a9 a10 a11 a12 st M Q => xw_s rfl rfl,
  fun a0 a1 a2 a3 a4 a5 a6 a7 a8 a9 a10 a11 a12 y0 y1 st M Q => xw_brn (c0 := y1 ≠ y0) (c1 := y1 = y0) rfl rfl (Iff.rfl),
  fun a0 a1 a2 a3 a4 a5 a6 a7 a8 a9 a10 a11 a12 st M Q => xw_s rfl rfl,
  fun a0 a1 a2 a3 a4 a5 a6 a7 a8 a9 a10 a11 a12 st M Q => xw_s rfl rfl,
  fun a0 a1 a2 a3 a4 a5 a6 a7 a8 a9 a10 a11 a12 y0 y1 st M Q => xw_brn (c0 := y1 ≠ y0) (c1 := y1 = y0) rfl rfl (Iff.rfl),
  fun a0 a1 a2 a3 a4 a5 a6 a7 a8 a9 a10 a11 a12 st M Q => xw_s rfl rfl,
  fun a0 a1 a2 a3 a4 a5 a6 a7 a8 a9 a10 a11 a12 st M Q => xw_s rfl rfl,
  fun a0 a1 a2 a3 a4 a5 a6 a7 a8 a9 a10 a11 a12 st M Q => xw_s rfl rfl,
  fun a0 a1 a2 a3 a4 a5 a6 a7 a8 a9 a10 a11 a12 st M Q => xw_s rfl rfl,
  fun a0 a1 a2 a3 a4 a5 a6 a7 a8 a9 a10 a11 a12 y0 y1 st M Q => xw_br (c0 := y1 = y0) rfl rfl,
  fun a0 a1 a2 a3 a4 a5 a6 a7 a8 a9 a10 a11 a12 st M Q => xw_s rfl rfl,
  fun a0 a1 a2 a3 a4 a5 a6 a7 a8 a9 a10 a11 a12 st M Q => xw_s rfl rfl,
  fun a0 a1 a2 a3 a4 a5 a6 a7 a8 a9 a10 a11 a12 st M Q => xw_s rfl rfl,
  fun a0 a1 a2 a3 a4 a5 a6 a7 a8 a9 a10 a11 a12 y0 y1 M Q => xw_call rfl rfl rfl,
  fun a0 a1 a2 a3 a4 a5 a6 a7 a8 a9 a10 a11 a12 st M Q => xw_s rfl rfl,
  fun a0 a1 a2 a3 a4 a5 a6 a7 a8 a9 a10 a11 a12 y0 y1 st M Q => xw_brn (c0 := y1 ≠ y0) (c1 := y1 = y0) rfl rfl (Iff.rfl),
  fun a0 a1 a2 a3 a4 a5 a6 a7 a8 a9 a10 a11 a12 st M Q => xw_s rfl rfl,
  fun a0 a1 a2 a3 a4 a5 a6 a7 a8 a9 a10 a11 a12 st M Q => xw_s rfl rfl,
  fun a0 a1 a2 a3 a4 a5 a6 a7 a8 a9 a10 a11 a12 st M Q => xw_s rfl rfl,
  fun a0 a1 a2 a3 a4 a5 a6 a7 a8 a9 a10 a11 a12 y0 st M Q => xw_brn (c0 := y0 ≤ nI 0) (c1 := nI 0 < y0) rfl rfl (xge _ _),
  fun a0 a1 a2 a3 a4 a5 a6 a7 a8 a9 a10 a11 a12 st M Q => xw_s rfl rfl,
  fun a0 a1 a2 a3 a4 a5 a6 a7 a8 a9 a10 a11 a12 y0 st M Q => xw_brn (c0 := y0 ≠ nI 0) (c1 := y0 = nI 0) rfl rfl (Iff.rfl),
  fun a0 a1 a2 a3 a4 a5 a6 a7 a8 a9 a10 a11 a12 st M Q => xw_s rfl rfl,
  fun a0 a1 a2 a3 a4 a5 a6 a7 a8 a9 a10 a11 a12 y0 st M Q => xw_br (c0 := y0 = nI 0) rfl rfl,
  fun a0 a1 a2 a3 a4 a5 a6 a7 a8 a9 a10 a11 a12 st M Q => xw_s rfl rfl,
  fun a0 a1 a2 a3 a4 a5 a6 a7 a8 a9 a10 a11 a12 st M Q => xw_s rfl rfl,
  fun a0 a1 a2 a3 a4 a5 a6 a7 a8 a9 a10 a11 a12 st M Q => xw_s rfl rfl,
  fun a0 a1 a2 a3 a4 a5 a6 a7 a8 a9 a10 a11 a12 y0 y1 y3 M Q => xw_call rfl rfl rfl,
  fun a0 a1 a2 a3 a4 a5 a6 a7 a8 a9 a10 a11 a12 st M Q => xw_s rfl rfl,
  fun a0 a1 a2 a3 a4 a5 a6 a7 a8 a9 a10 a11 a12 st M Q => xw_s rfl rfl,
  fun a0 a1 a2 a3 a4 a5 a6 a7 a8 a9 a10 a11 a12 y0 y1 st M Q => xw_s rfl rfl,
  fun a0 a1 a2 a3 a4 a5 a6 a7 a8 a9 a10 a11 a12 y0 y1 M Q => xw_call rfl rfl rfl,
  fun a0 a1 a2 a3 a4 a5 a6 a7 a8 a9 a10 a11 a12 st M Q => xw_s rfl rfl,
  fun a0 a1 a2 a3 a4 a5 a6 a7 a8 a9 a10 a11 a12 M Q => xw_retv rfl rfl,
  fun a0 a1 a2 a3 a4 a5 a6 a7 a8 a9 a10 a11 a12 y0 y1 y2 y3 M Q => xw_call rfl rfl rfl,
  fun a0 a1 a2 a3 a4 a5 a6 a7 a8 a9 a10 a11 a12 y0 y1 M Q => xw_call rfl rfl rfl,
  fun a0 a1 a2 a3 a4 a5 a6 a7 a8 a9 a10 a11 a12 y0 y1 M Q => xw_call rfl rfl rfl,
  fun a0 a1 a2 a3 a4 a5 a6 a7 a8 a9 a10 a11 a12 y0 y1 y2 y3 M Q => xw_call rfl rfl rfl,
  fun a0 a1 a2 a3 a4 a5 a6 a7 a8 a9 a10 a11 a12 y0 y1 M Q => xw_call rfl rfl rfl,
  fun a0 a1 a2 a3 a4 a5 a6 a7 a8 a9 a10 a11 a12 y0 y1 M Q => xw_call rfl rfl rfl⟩
set_option maxRecDepth 20000 in
theorem h43_55 :
  (∀ (a0 : Nat) (a1 : Nat) (a2 : Nat) (a3 : Int32) (a4 : Int32) (a5 : Int32) (a6 : Int32) (a7 : Int32) (a8 : Value) (a9 : Value) (a10 : Value) (a11 : Value) (a12 : Value) (st : List Value) (M : xM) (Q : Option Value → xM → Prop), xW xSC 43 55 [.ref a0, .ref a1, .ref a2, .int a3, .int a4, .int a5, .int a6, .int a7, a8, a9, a10, a11, a12] (st) M Q = xW xSC 43 57 [.ref a0, .ref a1, .ref a2, .int a3, .int a4, .int a5, .int a6, .int a7, a8, a9, a10, a11, a12] (.int a7 :: st) M Q) :=
  fun a0 a1 a2 a3 a4 a5 a6 a7 a8 a9 a10 a11 a12 st M Q => xw_s rfl rfl
set_option maxRecDepth 20000 in
theorem h43_106 :
  (∀ (a0 : Nat) (a1 : Nat) (a2 : Nat) (a3 : Int32) (a4 : Int32) (a5 : Int32) (a6 : Int32) (a7 : Int32) (a8 : Int32) (a9 : Int32) (a10 : Int32) (a11 : Value) (a12 : Value) (st : List Value) (M : xM) (Q : Option Value → xM → Prop), xW xSC 43 106 [.ref a0, .ref a1, .ref a2, .int a3, .int a4, .int a5, .int a6, .int a7, .int a8, .int a9, .int a10, a11, a12] (st) M Q = xW xSC 43 107 [.ref a0, .ref a1, .ref a2, .int a3, .int a4, .int a5, .int a6, .int a7, .int a8, .int a9, .int a10, a11, a12] (.int (nI 0) :: st) M Q) :=
  fun a0 a1 a2 a3 a4 a5 a6 a7 a8 a9 a10 a11 a12 st M Q => xw_s rfl rfl
set_option maxRecDepth 20000 in
theorem h43_107 :
  (∀ (a0 : Nat) (a1 : Nat) (a2 : Nat) (a3 : Int32) (a4 : Int32) (a5 : Int32) (a6 : Int32) (a7 : Int32) (a8 : Int32) (a9 : Int32) (a10 : Int32) (a11 : Value) (a12 : Value) (y0 : Int32) (st : List Value) (M : xM) (Q : Option Value → xM → Prop), xW xSC 43 107 [.ref a0, .ref a1, .ref a2, .int a3, .int a4, .int a5, .int a6, .int a7, .int a8, .int a9, .int a10, a11, a12] (.int y0 :: st) M Q = xW xSC 43 109 [.ref a0, .ref a1, .ref a2, .int a3, .int a4, .int a5, .int a6, .int a7, .int a8, .int a9, .int a10, .int y0, a12] (st) M Q) :=
  fun a0 a1 a2 a3 a4 a5 a6 a7 a8 a9 a10 a11 a12 y0 st M Q => xw_s rfl rfl
set_option maxRecDepth 20000 in
theorem h43_132 :
  (∀ (a0 : Nat) (a1 : Nat) (a2 : Nat) (a3 : Int32) (a4 : Int32) (a5 : Int32) (a6 : Int32) (a7 : Int32) (a8 : Int32) (a9 : Int32) (a10 : Int32) (a11 : Int32) (a12 : Value) (st : List Value) (M : xM) (Q : Option Value → xM → Prop), xW xSC 43 132 [.ref a0, .ref a1, .ref a2, .int a3, .int a4, .int a5, .int a6, .int a7, .int a8, .int a9, .int a10, .int a11, a12] (st) M Q = xW xSC 43 133 [.ref a0, .ref a1, .ref a2, .int a3, .int a4, .int a5, .int a6, .int a7, .int a8, .int a9, .int a10, .int a11, a12] (.int (nI 0) :: st) M Q) :=
  fun a0 a1 a2 a3 a4 a5 a6 a7 a8 a9 a10 a11 a12 st M Q => xw_s rfl rfl
set_option maxRecDepth 20000 in
theorem h43_133 :
  (∀ (a0 : Nat) (a1 : Nat) (a2 : Nat) (a3 : Int32) (a4 : Int32) (a5 : Int32) (a6 : Int32) (a7 : Int32) (a8 : Int32) (a9 : Int32) (a10 : Int32) (a11 : Int32) (a12 : Value) (y0 : Int32) (st : List Value) (M : xM) (Q : Option Value → xM → Prop), xW xSC 43 133 [.ref a0, .ref a1, .ref a2, .int a3, .int a4, .int a5, .int a6, .int a7, .int a8, .int a9, .int a10, .int a11, a12] (.int y0 :: st) M Q = xW xSC 43 135 [.ref a0, .ref a1, .ref a2, .int a3, .int a4, .int a5, .int a6, .int a7, .int a8, .int a9, .int a10, .int a11, .int y0] (st) M Q) :=
  fun a0 a1 a2 a3 a4 a5 a6 a7 a8 a9 a10 a11 a12 y0 st M Q => xw_s rfl rfl
set_option maxRecDepth 20000 in
theorem h43_150 :
  (∀ (a0 : Nat) (a1 : Nat) (a2 : Nat) (a3 : Int32) (a4 : Int32) (a5 : Int32) (a6 : Int32) (a7 : Int32) (a8 : Int32) (a9 : Int32) (a10 : Int32) (a11 : Int32) (a12 : Int32) (st : List Value) (M : xM) (Q : Option Value → xM → Prop), xW xSC 43 150 [.ref a0, .ref a1, .ref a2, .int a3, .int a4, .int a5, .int a6, .int a7, .int a8, .int a9, .int a10, .int a11, .int a12] (st) M Q = xW xSC 43 151 [.ref a0, .ref a1, .ref a2, .int a3, .int a4, .int a5, .int a6, .int a7, .int a8, .int a9, .int a10, .int a11, .int a12] (.ref a0 :: st) M Q) :=
  fun a0 a1 a2 a3 a4 a5 a6 a7 a8 a9 a10 a11 a12 st M Q => xw_s rfl rfl
set_option maxRecDepth 20000 in
theorem h43_167 :
  (∀ (a0 : Nat) (a1 : Nat) (a2 : Nat) (a3 : Int32) (a4 : Int32) (a5 : Int32) (a6 : Int32) (a7 : Int32) (a8 : Int32) (a9 : Int32) (a10 : Int32) (a11 : Int32) (a12 : Int32) (st : List Value) (M : xM) (Q : Option Value → xM → Prop), xW xSC 43 167 [.ref a0, .ref a1, .ref a2, .int a3, .int a4, .int a5, .int a6, .int a7, .int a8, .int a9, .int a10, .int a11, .int a12] (st) M Q = xW xSC 43 170 [.ref a0, .ref a1, .ref a2, .int a3, .int a4, .int a5, .int a6, .int (a7 + nI 1), .int a8, .int a9, .int a10, .int a11, .int a12] (st) M Q) :=
  fun a0 a1 a2 a3 a4 a5 a6 a7 a8 a9 a10 a11 a12 st M Q => xw_s rfl rfl
set_option maxRecDepth 20000 in
theorem j43 :
  (∀ (a0 : Nat) (a1 : Nat) (a2 : Nat) (a3 : Int32) (a4 : Int32) (a5 : Int32) (a6 : Int32) (a7 : Int32) (a8 : Int32) (a9 : Int32) (a10 : Int32) (a11 : Value) (a12 : Value) (st : List Value) (M : xM) (Q : Option Value → xM → Prop), xW xSC 43 106 [.ref a0, .ref a1, .ref a2, .int a3, .int a4, .int a5, .int a6, .int a7, .int a8, .int a9, .int a10, a11, a12] (st) M Q = xW xSC 43 107 [.ref a0, .ref a1, .ref a2, .int a3, .int a4, .int a5, .int a6, .int a7, .int a8, .int a9, .int a10, a11, a12] (.int (nI 0) :: st) M Q) ∧
  (∀ (a0 : Nat) (a1 : Nat) (a2 : Nat) (a3 : Int32) (a4 : Int32) (a5 : Int32) (a6 : Int32) (a7 : Int32) (a8 : Int32) (a9 : Int32) (a10 : Int32) (a11 : Value) (a12 : Value) (y0 : Int32) (st : List Value) (M : xM) (Q : Option Value → xM → Prop), xW xSC 43 107 [.ref a0, .ref a1, .ref a2, .int a3, .int a4, .int a5, .int a6, .int a7, .int a8, .int a9, .int a10, a11, a12] (.int y0 :: st) M Q = xW xSC 43 109 [.ref a0, .ref a1, .ref a2, .int a3, .int a4, .int a5, .int a6, .int a7, .int a8, .int a9, .int a10, .int y0, a12] (st) M Q) ∧
  (∀ (a0 : Nat) (a1 : Nat) (a2 : Nat) (a3 : Int32) (a4 : Int32) (a5 : Int32) (a6 : Int32) (a7 : Int32) (a8 : Int32) (a9 : Int32) (a10 : Int32) (a11 : Int32) (a12 : Value) (st : List Value) (M : xM) (Q : Option Value → xM → Prop), xW xSC 43 132 [.ref a0, .ref a1, .ref a2, .int a3, .int a4, .int a5, .int a6, .int a7, .int a8, .int a9, .int a10, .int a11, a12] (st) M Q = xW xSC 43 133 [.ref a0, .ref a1, .ref a2, .int a3, .int a4, .int a5, .int a6, .int a7, .int a8, .int a9, .int a10, .int a11, a12] (.int (nI 0) :: st) M Q) ∧
  (∀ (a0 : Nat) (a1 : Nat) (a2 : Nat) (a3 : Int32) (a4 : Int32) (a5 : Int32) (a6 : Int32) (a7 : Int32) (a8 : Int32) (a9 : Int32) (a10 : Int32) (a11 : Int32) (a12 : Value) (y0 : Int32) (st : List Value) (M : xM) (Q : Option Value → xM → Prop), xW xSC 43 133 [.ref a0, .ref a1, .ref a2, .int a3, .int a4, .int a5, .int a6, .int a7, .int a8, .int a9, .int a10, .int a11, a12] (.int y0 :: st) M Q = xW xSC 43 135 [.ref a0, .ref a1, .ref a2, .int a3, .int a4, .int a5, .int a6, .int a7, .int a8, .int a9, .int a10, .int a11, .int y0] (st) M Q) ∧
  (∀ (a0 : Nat) (a1 : Nat) (a2 : Nat) (a3 : Int32) (a4 : Int32) (a5 : Int32) (a6 : Int32) (a7 : Int32) (a8 : Int32) (a9 : Int32) (a10 : Int32) (a11 : Int32) (a12 : Int32) (st : List Value) (M : xM) (Q : Option Value → xM → Prop), xW xSC 43 150 [.ref a0, .ref a1, .ref a2, .int a3, .int a4, .int a5, .int a6, .int a7, .int a8, .int a9, .int a10, .int a11, .int a12] (st) M Q = xW xSC 43 151 [.ref a0, .ref a1, .ref a2, .int a3, .int a4, .int a5, .int a6, .int a7, .int a8, .int a9, .int a10, .int a11, .int a12] (.ref a0 :: st) M Q) ∧
  (∀ (a0 : Nat) (a1 : Nat) (a2 : Nat) (a3 : Int32) (a4 : Int32) (a5 : Int32) (a6 : Int32) (a7 : Int32) (a8 : Int32) (a9 : Int32) (a10 : Int32) (a11 : Int32) (a12 : Int32) (st : List Value) (M : xM) (Q : Option Value → xM → Prop), xW xSC 43 167 [.ref a0, .ref a1, .ref a2, .int a3, .int a4, .int a5, .int a6, .int a7, .int a8, .int a9, .int a10, .int a11, .int a12] (st) M Q = xW xSC 43 170 [.ref a0, .ref a1, .ref a2, .int a3, .int a4, .int a5, .int a6, .int (a7 + nI 1), .int a8, .int a9, .int a10, .int a11, .int a12] (st) M Q) :=
  ⟨fun a0 a1 a2 a3 a4 a5 a6 a7 a8 a9 a10 a11 a12 st M Q => xw_s rfl rfl,
  fun a0 a1 a2 a3 a4 a5 a6 a7 a8 a9 a10 a11 a12 y0 st M Q => xw_s rfl rfl,
  fun a0 a1 a2 a3 a4 a5 a6 a7 a8 a9 a10 a11 a12 st M Q => xw_s rfl rfl,
  fun a0 a1 a2 a3 a4 a5 a6 a7 a8 a9 a10 a11 a12 y0 st M Q => xw_s rfl rfl,
  fun a0 a1 a2 a3 a4 a5 a6 a7 a8 a9 a10 a11 a12 st M Q => xw_s rfl rfl,
  fun a0 a1 a2 a3 a4 a5 a6 a7 a8 a9 a10 a11 a12 st M Q => xw_s rfl rfl⟩

set_option maxRecDepth 20000 in
theorem s44 :
  (∀ (a0 : Nat) (a1 : Nat) (a2 : Int32) (a3 : Int32) (st : List Value) (M : xM) (Q : Option Value → xM → Prop), xW xSC 44 0 [.ref a0, .ref a1, .int a2, .int a3] (st) M Q = xW xSC 44 1 [.ref a0, .ref a1, .int a2, .int a3] (.ref a0 :: st) M Q) ∧
  (∀ (a0 : Nat) (a1 : Nat) (a2 : Int32) (a3 : Int32) (st : List Value) (M : xM) (Q : Option Value → xM → Prop), xW xSC 44 1 [.ref a0, .ref a1, .int a2, .int a3] (st) M Q = xW xSC 44 2 [.ref a0, .ref a1, .int a2, .int a3] (.ref a1 :: st) M Q) ∧
  (∀ (a0 : Nat) (a1 : Nat) (a2 : Int32) (a3 : Int32) (st : List Value) (M : xM) (Q : Option Value → xM → Prop), xW xSC 44 2 [.ref a0, .ref a1, .int a2, .int a3] (st) M Q = xW xSC 44 3 [.ref a0, .ref a1, .int a2, .int a3] (.ref a1 :: st) M Q) ∧
  (∀ (a0 : Nat) (a1 : Nat) (a2 : Int32) (a3 : Int32) (st : List Value) (M : xM) (Q : Option Value → xM → Prop), xW xSC 44 3 [.ref a0, .ref a1, .int a2, .int a3] (st) M Q = xW xSC 44 4 [.ref a0, .ref a1, .int a2, .int a3] (.int a2 :: st) M Q) ∧
  (∀ (a0 : Nat) (a1 : Nat) (a2 : Int32) (a3 : Int32) (st : List Value) (M : xM) (Q : Option Value → xM → Prop), xW xSC 44 4 [.ref a0, .ref a1, .int a2, .int a3] (st) M Q = xW xSC 44 5 [.ref a0, .ref a1, .int a2, .int a3] (.int a3 :: st) M Q) ∧
  (∀ (a0 : Nat) (a1 : Nat) (a2 : Int32) (a3 : Int32) (y0 : Int32) (y1 : Int32) (y3 : Nat) (y4 : Nat) (M : xM) (Q : Option Value → xM → Prop), xW xSC 44 5 [.ref a0, .ref a1, .int a2, .int a3] (.int y0 :: .int y1 :: .ref 9 :: .ref y3 :: .ref y4 :: []) M Q = xW xSC 37 0 [.ref 9, .int y1, .int y0] [] M (fun v M' => xW xSC 44 8 [.ref a0, .ref a1, .int a2, .int a3] (xpush v [.ref y3, .ref y4]) M' Q)) ∧
  (∀ (a0 : Nat) (a1 : Nat) (a2 : Int32) (a3 : Int32) (st : List Value) (M : xM) (Q : Option Value → xM → Prop), xW xSC 44 8 [.ref a0, .ref a1, .int a2, .int a3] (st) M Q = xW xSC 44 9 [.ref a0, .ref a1, .int a2, .int a3] (.ref a1 :: st) M Q) ∧
  (∀ (a0 : Nat) (a1 : Nat) (a2 : Int32) (a3 : Int32) (st : List Value) (M : xM) (Q : Option Value → xM → Prop), xW xSC 44 9 [.ref a0, .ref a1, .int a2, .int a3] (st) M Q = xW xSC 44 10 [.ref a0, .ref a1, .int a2, .int a3] (.int a2 :: st) M Q) ∧
  (∀ (a0 : Nat) (a1 : Nat) (a2 : Int32) (a3 : Int32) (st : List Value) (M : xM) (Q : Option Value → xM → Prop), xW xSC 44 10 [.ref a0, .ref a1, .int a2, .int a3] (st) M Q = xW xSC 44 11 [.ref a0, .ref a1, .int a2, .int a3] (.int a3 :: st) M Q) ∧
  (∀ (a0 : Nat) (a1 : Nat) (a2 : Int32) (a3 : Int32) (y0 : Int32) (y1 : Int32) (y3 : Int32) (y4 : Nat) (y5 : Nat) (M : xM) (Q : Option Value → xM → Prop), xW xSC 44 11 [.ref a0, .ref a1, .int a2, .int a3] (.int y0 :: .int y1 :: .ref 9 :: .int y3 :: .ref y4 :: .ref y5 :: []) M Q = xW xSC 36 0 [.ref 9, .int y1, .int y0] [] M (fun v M' => xW xSC 44 14 [.ref a0, .ref a1, .int a2, .int a3] (xpush v [.int y3, .ref y4, .ref y5]) M' Q)) ∧
  (∀ (a0 : Nat) (a1 : Nat) (a2 : Int32) (a3 : Int32) (st : List Value) (M : xM) (Q : Option Value → xM → Prop), xW xSC 44 14 [.ref a0, .ref a1, .int a2, .int a3] (st) M Q = xW xSC 44 15 [.ref a0, .ref a1, .int a2, .int a3] (.ref a1 :: st) M Q) ∧
  (∀ (a0 : Nat) (a1 : Nat) (a2 : Int32) (a3 : Int32) (st : List Value) (M : xM) (Q : Option Value → xM → Prop), xW xSC 44 15 [.ref a0, .ref a1, .int a2, .int a3] (st) M Q = xW xSC 44 16 [.ref a0, .ref a1, .int a2, .int a3] (.int a2 :: st) M Q) ∧
  (∀ (a0 : Nat) (a1 : Nat) (a2 : Int32) (a3 : Int32) (st : List Value) (M : xM) (Q : Option Value → xM → Prop), xW xSC 44 16 [.ref a0, .ref a1, .int a2, .int a3] (st) M Q = xW xSC 44 17 [.ref a0, .ref a1, .int a2, .int a3] (.int (nI 1) :: st) M Q) ∧
  (∀ (a0 : Nat) (a1 : Nat) (a2 : Int32) (a3 : Int32) (st : List Value) (M : xM) (Q : Option Value → xM → Prop), xW xSC 44 17 [.ref a0, .ref a1, .int a2, .int a3] (st) M Q = xW xSC 44 18 [.ref a0, .ref a1, .int a2, .int a3] (.int a3 :: st) M Q) ∧
  (∀ (a0 : Nat) (a1 : Nat) (a2 : Int32) (a3 : Int32) (y0 : Int32) (y1 : Int32) (st : List Value) (M : xM) (Q : Option Value → xM → Prop), xW xSC 44 18 [.ref a0, .ref a1, .int a2, .int a3] (.int y0 :: .int y1 :: st) M Q = xW xSC 44 19 [.ref a0, .ref a1, .int a2, .int a3] (.int (y1 - y0) :: st) M Q) ∧
  (∀ (a0 : Nat) (a1 : Nat) (a2 : Int32) (a3 : Int32) (y0 : Int32) (y1 : Int32) (y3 : Int32) (y4 : Int32) (y5 : Nat) (y6 : Nat) (M : xM) (Q : Option Value → xM → Prop), xW xSC 44 19 [.ref a0, .ref a1, .int a2, .int a3] (.int y0 :: .int y1 :: .ref 9 :: .int y3 :: .int y4 :: .ref y5 :: .ref y6 :: []) M Q = xW xSC 36 0 [.ref 9, .int y1, .int y0] [] M (fun v M' => xW xSC 44 22 [.ref a0, .ref a1, .int a2, .int a3] (xpush v [.int y3, .int y4, .ref y5, .ref y6]) M' Q)) ∧
  (∀ (a0 : Nat) (a1 : Nat) (a2 : Int32) (a3 : Int32) (y0 : Int32) (y1 : Int32) (y2 : Int32) (y3 : Nat) (M : xM) (Q : Option Value → xM → Prop), xW xSC 44 22 [.ref a0, .ref a1, .int a2, .int a3] (.int y0 :: .int y1 :: .int y2 :: .ref y3 :: .ref 33 :: []) M Q = xW xSC 45 0 [.ref 33, .ref y3, .int y2, .int y1, .int y0, .null] [] M (fun v M' => xW xSC 44 25 [.ref a0, .ref a1, .int a2, .int a3] (xpush v []) M' Q)) ∧
  (∀ (a0 : Nat) (a1 : Nat) (a2 : Int32) (a3 : Int32) (M : xM) (Q : Option Value → xM → Prop), xW xSC 44 25 [.ref a0, .ref a1, .int a2, .int a3] ([]) M Q = Q none M) ∧
  (∀ (a0 : Nat) (a1 : Nat) (a2 : Int32) (a3 : Int32) (y0 : Int32) (y1 : Int32) (y2 : Int32) (y3 : Nat) (M : xM) (Q : Option Value → xM → Prop), xW xSC 44 22 [.ref a0, .ref a1, .int a2, .int a3] (.int y0 :: .int y1 :: .int y2 :: .ref y3 :: .ref 35 :: []) M Q = xW xSC 45 0 [.ref 35, .ref y3, .int y2, .int y1, .int y0, .null] [] M (fun v M' => xW xSC 44 25 [.ref a0, .ref a1, .int a2, .int a3] (xpush v []) M' Q)) ∧
  (∀ (a0 : Nat) (a1 : Nat) (a2 : Int32) (a3 : Int32) (y0 : Int32) (y1 : Int32) (y2 : Int32) (y3 : Nat) (M : xM) (Q : Option Value → xM → Prop), xW xSC 44 22 [.ref a0, .ref a1, .int a2, .int a3] (.int y0 :: .int y1 :: .int y2 :: .ref y3 :: .ref 40 :: []) M Q = xW xSC 45 0 [.ref 40, .ref y3, .int y2, .int y1, .int y0, .null] [] M (fun v M' => xW xSC 44 25 [.ref a0, .ref a1, .int a2, .int a3] (xpush v []) M' Q)) :=
  ⟨fun a0 a1 a2 a3 st M Q => xw_s rfl rfl,
  fun a0 a1 a2 a3 st M Q => xw_s rfl rfl,
  fun a0 a1 a2 a3 st M Q => xw_s rfl rfl,
  fun a0 a1 a2 a3 st M Q => xw_s rfl rfl,
  fun a0 a1 a2 a3 st M Q => xw_s rfl rfl,
  fun a0 a1 a2 a3 y0 y1 y3 y4 M Q => xw_call rfl rfl rfl,
  fun a0 a1 a2 a3 st M Q => xw_s rfl rfl,
  fun a0 a1 a2 a3 st M Q => xw_s rfl rfl,
  fun a0 a1 a2 a3 st M Q => xw_s rfl rfl,
  fun a0 a1 a2 a3 y0 y1 y3 y4 y5 M Q => xw_call rfl rfl rfl,
  fun a0 a1 a2 a3 st M Q => xw_s rfl rfl,
  fun a0 a1 a2 a3 st M Q => xw_s rfl rfl,
  fun a0 a1 a2 a3 st M Q => xw_s rfl rfl,
  fun a0 a1 a2 a3 st M Q => xw_s rfl rfl,
  fun a0 a1 a2 a3 y0 y1 st M Q => xw_s rfl rfl,
  fun a0 a1 a2 a3 y0 y1 y3 y4 y5 y6 M Q => xw_call rfl rfl rfl,
  fun a0 a1 a2 a3 y0 y1 y2 y3 M Q => xw_call rfl rfl rfl,
  fun a0 a1 a2 a3 M Q => xw_retv rfl rfl,
  fun a0 a1 a2 a3 y0 y1 y2 y3 M Q => xw_call rfl rfl rfl,
  fun a0 a1 a2 a3 y0 y1 y2 y3 M Q => xw_call rfl rfl rfl⟩
theorem j44 : True := trivial

set_option maxRecDepth 20000 in
theorem s45 :
  (∀ (a0 : Nat) (a1 : Nat) (a2 : Int32) (a3 : Int32) (a4 : Int32) (a5 : Value) (st : List Value) (M : xM) (Q : Option Value → xM → Prop), xW xSC 45 0 [.ref a0, .ref a1, .int a2, .int a3, .int a4, a5] (st) M Q = xW xSC 45 1 [.ref a0, .ref a1, .int a2, .int a3, .int a4, a5] (.ref a0 :: st) M Q) ∧
  (∀ (a0 : Nat) (a1 : Nat) (a2 : Int32) (a3 : Int32) (a4 : Int32) (a5 : Value) (st : List Value) (M : xM) (Q : Option Value → xM → Prop), xW xSC 45 1 [.ref a0, .ref a1, .int a2, .int a3, .int a4, a5] (st) M Q = xW xSC 45 2 [.ref a0, .ref a1, .int a2, .int a3, .int a4, a5] (.int (nI 1) :: st) M Q) ∧
  (∀ (a0 : Nat) (a1 : Nat) (a2 : Int32) (a3 : Int32) (a4 : Int32) (a5 : Value) (y0 : Int32) (st : List Value) (M : xM) (Q : Option Value → xM → Prop), xW xSC 45 2 [.ref a0, .ref a1, .int a2, .int a3, .int a4, a5] (.int y0 :: .ref 33 :: st) M Q = xW xSC 45 5 [.ref a0, .ref a1, .int a2, .int a3, .int a4, a5] (st) (xup M 33 0 y0) Q) ∧
  (∀ (a0 : Nat) (a1 : Nat) (a2 : Int32) (a3 : Int32) (a4 : Int32) (a5 : Value) (st : List Value) (M : xM) (Q : Option Value → xM → Prop), xW xSC 45 5 [.ref a0, .ref a1, .int a2, .int a3, .int a4, a5] (st) M Q = xW xSC 45 6 [.ref a0, .ref a1, .int a2, .int a3, .int a4, a5] (.ref a0 :: st) M Q) ∧
  (∀ (a0 : Nat) (a1 : Nat) (a2 : Int32) (a3 : Int32) (a4 : Int32) (a5 : Value) (st : List Value) (M : xM) (Q : Option Value → xM → Prop), xW xSC 45 6 [.ref a0, .ref a1, .int a2, .int a3, .int a4, a5] (st) M Q = xW xSC 45 7 [.ref a0, .ref a1, .int a2, .int a3, .int a4, a5] (.int (nI 1) :: st) M Q) ∧
  (∀ (a0 : Nat) (a1 : Nat) (a2 : Int32) (a3 : Int32) (a4 : Int32) (a5 : Value) (y0 : Int32) (st : List Value) (M : xM) (Q : Option Value → xM → Prop), xW xSC 45 7 [.ref a0, .ref a1, .int a2, .int a3, .int a4, a5] (.int y0 :: .ref 33 :: st) M Q = xW xSC 45 10 [.ref a0, .ref a1, .int a2, .int a3, .int a4, a5] (st) (xup M 33 1 y0) Q) ∧
  (∀ (a0 : Nat) (a1 : Nat) (a2 : Int32) (a3 : Int32) (a4 : Int32) (a5 : Value) (st : List Value) (M : xM) (Q : Option Value → xM → Prop), xW xSC 45 10 [.ref a0, .ref a1, .int a2, .int a3, .int a4, a5] (st) M Q = xW xSC 45 11 [.ref a0, .ref a1, .int a2, .int a3, .int a4, a5] (.ref a1 :: st) M Q) ∧
  (∀ (a0 : Nat) (a1 : Nat) (a2 : Int32) (a3 : Int32) (a4 : Int32) (a5 : Value) (st : List Value) (M : xM) (Q : Option Value → xM → Prop), xW xSC 45 11 [.ref a0, .ref a1, .int a2, .int a3, .int a4, a5] (st) M Q = xW xSC 45 12 [.ref a0, .ref a1, .int a2, .int a3, .int a4, a5] (.int (nI 2) :: st) M Q) ∧
  (∀ (a0 : Nat) (a1 : Nat) (a2 : Int32) (a3 : Int32) (a4 : Int32) (a5 : Value) (y0 : Int32) (M : xM) (Q : Option Value → xM → Prop), xW xSC 45 12 [.ref a0, .ref a1, .int a2, .int a3, .int a4, a5] (.int y0 :: .ref 9 :: []) M Q = xW xSC 34 0 [.ref 9, .int y0] [] M (fun v M' => xW xSC 45 15 [.ref a0, .ref a1, .int a2, .int a3, .int a4, a5] (xpush v []) M' Q)) ∧
  (∀ (a0 : Nat) (a1 : Nat) (a2 : Int32) (a3 : Int32) (a4 : Int32) (a5 : Value) (y0 : Int32) (st : List Value) (M : xM) (Q : Option Value → xM → Prop), xW xSC 45 15 [.ref a0, .ref a1, .int a2, .int a3, .int a4, a5] (.int y0 :: st) M Q = xW xSC 45 17 [.ref a0, .ref a1, .int a2, .int a3, .int a4, .int y0] (st) M Q) ∧
  (∀ (a0 : Nat) (a1 : Nat) (a2 : Int32) (a3 : Int32) (a4 : Int32) (a5 : Int32) (st : List Value) (M : xM) (Q : Option Value → xM → Prop), xW xSC 45 17 [.ref a0, .ref a1, .int a2, .int a3, .int a4, .int a5] (st) M Q = xW xSC 45 18 [.ref a0, .ref a1, .int a2, .int a3, .int a4, .int a5] (.int a3 :: st) M Q) ∧
  (∀ (a0 : Nat) (a1 : Nat) (a2 : Int32) (a3 : Int32) (a4 : Int32) (a5 : Int32) (st : List Value) (M : xM) (Q : Option Value → xM → Prop), xW xSC 45 18 [.ref a0, .ref a1, .int a2, .int a3, .int a4, .int a5] (st) M Q = xW xSC 45 19 [.ref a0, .ref a1, .int a2, .int a3, .int a4, .int a5] (.int (nI 1) :: st) M Q) ∧
  (∀ (a0 : Nat) (a1 : Nat) (a2 : Int32) (a3 : Int32) (a4 : Int32) (a5 : Int32) (y0 : Int32) (y1 : Int32) (st : List Value) (M : xM) (Q : Option Value → xM → Prop), xW xSC 45 19 [.ref a0, .ref a1, .int a2, .int a3, .int a4, .int a5] (.int y0 :: .int y1 :: st) M Q = xW xSC 45 20 [.ref a0, .ref a1, .int a2, .int a3, .int a4, .int a5] (.int (y1 &&& y0) :: st) M Q) ∧
  (∀ (a0 : Nat) (a1 : Nat) (a2 : Int32) (a3 : Int32) (a4 : Int32) (a5 : Int32) (y0 : Int32) (st : List Value) (M : xM) (Q : Option Value → xM → Prop), xW xSC 45 20 [.ref a0, .ref a1, .int a2, .int a3, .int a4, .int a5] (.int y0 :: st) M Q = if y0 = nI 0 then xW xSC 45 33 [.ref a0, .ref a1, .int a2, .int a3, .int a4, .int a5] (st) M Q else xW xSC 45 23 [.ref a0, .ref a1, .int a2, .int a3, .int a4, .int a5] (st) M Q) ∧
  (∀ (a0 : Nat) (a1 : Nat) (a2 : Int32) (a3 : Int32) (a4 : Int32) (a5 : Int32) (st : List Value) (M : xM) (Q : Option Value → xM → Prop), xW xSC 45 23 [.ref a0, .ref a1, .int a2, .int a3, .int a4, .int a5] (st) M Q = xW xSC 45 24 [.ref a0, .ref a1, .int a2, .int a3, .int a4, .int a5] (.ref a0 :: st) M Q) ∧
  (∀ (a0 : Nat) (a1 : Nat) (a2 : Int32) (a3 : Int32) (a4 : Int32) (a5 : Int32) (st : List Value) (M : xM) (Q : Option Value → xM → Prop), xW xSC 45 24 [.ref a0, .ref a1, .int a2, .int a3, .int a4, .int a5] (st) M Q = xW xSC 45 25 [.ref a0, .ref a1, .int a2, .int a3, .int a4, .int a5] (.int (nI 1) :: st) M Q) ∧
  (∀ (a0 : Nat) (a1 : Nat) (a2 : Int32) (a3 : Int32) (a4 : Int32) (a5 : Int32) (st : List Value) (M : xM) (Q : Option Value → xM → Prop), xW xSC 45 25 [.ref a0, .ref a1, .int a2, .int a3, .int a4, .int a5] (st) M Q = xW xSC 45 26 [.ref a0, .ref a1, .int a2, .int a3, .int a4, .int a5] (.ref a1 :: st) M Q) ∧
  (∀ (a0 : Nat) (a1 : Nat) (a2 : Int32) (a3 : Int32) (a4 : Int32) (a5 : Int32) (st : List Value) (M : xM) (Q : Option Value → xM → Prop), xW xSC 45 26 [.ref a0, .ref a1, .int a2, .int a3, .int a4, .int a5] (st) M Q = xW xSC 45 27 [.ref a0, .ref a1, .int a2, .int a3, .int a4, .int a5] (.int (nI 0) :: st) M Q) ∧
  (∀ (a0 : Nat) (a1 : Nat) (a2 : Int32) (a3 : Int32) (a4 : Int32) (a5 : Int32) (y0 : Int32) (y2 : Int32) (y3 : Nat) (M : xM) (Q : Option Value → xM → Prop), xW xSC 45 27 [.ref a0, .ref a1, .int a2, .int a3, .int a4, .int a5] (.int y0 :: .ref 9 :: .int y2 :: .ref y3 :: []) M Q = xW xSC 34 0 [.ref 9, .int y0] [] M (fun v M' => xW xSC 45 30 [.ref a0, .ref a1, .int a2, .int a3, .int a4, .int a5] (xpush v [.int y2, .ref y3]) M' Q)) ∧
  (∀ (a0 : Nat) (a1 : Nat) (a2 : Int32) (a3 : Int32) (a4 : Int32) (a5 : Int32) (y0 : Int32) (y1 : Int32) (M : xM) (Q : Option Value → xM → Prop), xW xSC 45 30 [.ref a0, .ref a1, .int a2, .int a3, .int a4, .int a5] (.int y0 :: .int y1 :: .ref 33 :: []) M Q = xW xSC 49 0 [.ref 33, .int y1, .int y0] [] M (fun v M' => xW xSC 45 33 [.ref a0, .ref a1, .int a2, .int a3, .int a4, .int a5] (xpush v []) M' Q)) ∧
  (∀ (a0 : Nat) (a1 : Nat) (a2 : Int32) (a3 : Int32) (a4 : Int32) (a5 : Int32) (st : List Value) (M : xM) (Q : Option Value → xM → Prop), xW xSC 45 34 [.ref a0, .ref a1, .int a2, .int a3, .int a4, .int a5] (st) M Q = xW xSC 45 35 [.ref a0, .ref a1, .int a2, .int a3, .int a4, .int a5] (.int (nI 2) :: st) M Q) ∧
  (∀ (a0 : Nat) (a1 : Nat) (a2 : Int32) (a3 : Int32) (a4 : Int32) (a5 : Int32) (y0 : Int32) (y1 : Int32) (st : List Value) (M : xM) (Q : Option Value → xM → Prop), xW xSC 45 35 [.ref a0, .ref a1, .int a2, .int a3, .int a4, .int a5] (.int y0 :: .int y1 :: st) M Q = xW xSC 45 36 [.ref a0, .ref a1, .int a2, .int a3, .int a4, .int a5] (.int (y1 &&& y0) :: st) M Q) ∧
  (∀ (a0 : Nat) (a1 : Nat) (a2 : Int32) (a3 : Int32) (a4 : Int32) (a5 : Int32) (y0 : Int32) (st : List Value) (M : xM) (Q : Option Value → xM → Prop), xW xSC 45 36 [.ref a0, .ref a1, .int a2, .int a3, .int a4, .int a5] (.int y0 :: st) M Q = if y0 = nI 0 then xW xSC 45 49 [.ref a0, .ref a1, .int a2, .int a3, .int a4, .int a5] (st) M Q else xW xSC 45 39 [.ref a0, .ref a1, .int a2, .int a3, .int a4, .int a5] (st) M Q) ∧
  (∀ (a0 : Nat) (a1 : Nat) (a2 : Int32) (a3 : Int32) (a4 : Int32) (a5 : Int32) (st : List Value) (M : xM) (Q : Option Value → xM → Prop), xW xSC 45 39 [.ref a0, .ref a1, .int a2, .int a3, .int a4, .int a5] (st) M Q = xW xSC 45 40 [.ref a0, .ref a1, .int a2, .int a3, .int a4, .int a5] (.ref a0 :: st) M Q) ∧
  (∀ (a0 : Nat) (a1 : Nat) (a2 : Int32) (a3 : Int32) (a4 : Int32) (a5 : Int32) (st : List Value) (M : xM) (Q : Option Value → xM → Prop), xW xSC 45 40 [.ref a0, .ref a1, .int a2, .int a3, .int a4, .int a5] (st) M Q = xW xSC 45 41 [.ref a0, .ref a1, .int a2, .int a3, .int a4, .int a5] (.int (nI 0) :: st) M Q) ∧
  (∀ (a0 : Nat) (a1 : Nat) (a2 : Int32) (a3 : Int32) (a4 : Int32) (a5 : Int32) (st : List Value) (M : xM) (Q : Option Value → xM → Prop), xW xSC 45 41 [.ref a0, .ref a1, .int a2, .int a3, .int a4, .int a5] (st) M Q = xW xSC 45 42 [.ref a0, .ref a1, .int a2, .int a3, .int a4, .int a5] (.ref a1 :: st) M Q) ∧
  (∀ (a0 : Nat) (a1 : Nat) (a2 : Int32) (a3 : Int32) (a4 : Int32) (a5 : Int32) (st : List Value) (M : xM) (Q : Option Value → xM → Prop), xW xSC 45 42 [.ref a0, .ref a1, .int a2, .int a3, .int a4, .int a5] (st) M Q = xW xSC 45 43 [.ref a0, .ref a1, .int a2, .int a3, .int a4, .int a5] (.int (nI 1) :: st) M Q) ∧
  (∀ (a0 : Nat) (a1 : Nat) (a2 : Int32) (a3 : Int32) (a4 : Int32) (a5 : Int32) (y0 : Int32) (y2 : Int32) (y3 : Nat) (M : xM) (Q : Option Value → xM → Prop), xW xSC 45 43 [.ref a0, .ref a1, .int a2, .int a3, .int a4, .int a5] (.int y0 :: .ref 9 :: .int y2 :: .ref y3 :: []) M Q = xW xSC 34 0 [.ref 9, .int y0] [] M (fun v M' => xW xSC 45 46 [.ref a0, .ref a1, .int a2, .int a3, .int a4, .int a5] (xpush v [.int y2, .ref y3]) M' Q)) ∧
  (∀ (a0 : Nat) (a1 : Nat) (a2 : Int32) (a3 : Int32) (a4 : Int32) (a5 : Int32) (y0 : Int32) (y1 : Int32) (M : xM) (Q : Option Value → xM → Prop), xW xSC 45 46 [.ref a0, .ref a1, .int a2, .int a3, .int a4, .int a5] (.int y0 :: .int y1 :: .ref 33 :: []) M Q = xW xSC 49 0 [.ref 33, .int y1, .int y0] [] M (fun v M' => xW xSC 45 49 [.ref a0, .ref a1, .int a2, .int a3, .int a4, .int a5] (xpush v []) M' Q)) ∧
  (∀ (a0 : Nat) (a1 : Nat) (a2 : Int32) (a3 : Int32) (a4 : Int32) (a5 : Int32) (st : List Value) (M : xM) (Q : Option Value → xM → Prop), xW xSC 45 50 [.ref a0, .ref a1, .int a2, .int a3, .int a4, .int a5] (st) M Q = xW xSC 45 51 [.ref a0, .ref a1, .int a2, .int a3, .int a4, .int a5] (.int a3 :: st) M Q) ∧
  (∀ (a0 : Nat) (a1 : Nat) (a2 : Int32) (a3 : Int32) (a4 : Int32) (a5 : Int32) (st : List Value) (M : xM) (Q : Option Value → xM → Prop), xW xSC 45 51 [.ref a0, .ref a1, .int a2, .int a3, .int a4, .int a5] (st) M Q = xW xSC 45 53 [.ref a0, .ref a1, .int a2, .int a3, .int a4, .int a5] (.int a5 :: st) M Q) ∧
  (∀ (a0 : Nat) (a1 : Nat) (a2 : Int32) (a3 : Int32) (a4 : Int32) (a5 : Int32) (y0 : Int32) (y1 : Int32) (M : xM) (Q : Option Value → xM → Prop), xW xSC 45 53 [.ref a0, .ref a1, .int a2, .int a3, .int a4, .int a5] (.int y0 :: .int y1 :: .ref 33 :: []) M Q = xW xSC 48 0 [.ref 33, .int y1, .int y0] [] M (fun v M' => xW xSC 45 56 [.ref a0, .ref a1, .int a2, .int a3, .int a4, .int a5] (xpush v []) M' Q)) ∧
  (∀ (a0 : Nat) (a1 : Nat) (a2 : Int32) (a3 : Int32) (a4 : Int32) (a5 : Int32) (st : List Value) (M : xM) (Q : Option Value → xM → Prop), xW xSC 45 56 [.ref a0, .ref a1, .int a2, .int a3, .int a4, .int a5] (st) M Q = xW xSC 45 57 [.ref a0, .ref a1, .int a2, .int a3, .int a4, .int a5] (.int a3 :: st) M Q) ∧
  (∀ (a0 : Nat) (a1 : Nat) (a2 : Int32) (a3 : Int32) (a4 : Int32) (a5 : Int32) (st : List Value) (M : xM) (Q : Option Value → xM → Prop), xW xSC 45 57 [.ref a0, .ref a1, .int a2, .int a3, .int a4, .int a5] (st) M Q = xW xSC 45 59 [.ref a0, .ref a1, .int a2, .int a3, .int a4, .int a5] (.int (nI 16) :: st) M Q) ∧
  (∀ (a0 : Nat) (a1 : Nat) (a2 : Int32) (a3 : Int32) (a4 : Int32) (a5 : Int32) (y0 : Int32) (y1 : Int32) (st : List Value) (M : xM) (Q : Option Value → xM → Prop), xW xSC 45 59 [.ref a0, .ref a1, .int a2, .int a3, .int a4, .int a5] (.int y0 :: .int y1 :: st) M Q = xW xSC 45 60 [.ref a0, .ref a1, .int a2, .int a3, .int a4, .int a5] (.int (y1 &&& y0) :: st) M Q) ∧
  (∀ (a0 : Nat) (a1 : Nat) (a2 : Int32) (a3 : Int32) (a4 : Int32) (a5 : Int32) (y0 : Int32) (st : List Value) (M : xM) (Q : Option Value → xM → Prop), xW xSC 45 60 [.ref a0, .ref a1, .int a2, .int a3, .int a4, .int a5] (.int y0 :: st) M Q = if y0 = nI 0 then xW xSC 45 73 [.ref a0, .ref a1, .int a2, .int a3, .int a4, .int a5] (st) M Q else xW xSC 45 63 [.ref a0, .ref a1, .int a2, .int a3, .int a4, .int a5] (st) M Q) ∧
  (∀ (a0 : Nat) (a1 : Nat) (a2 : Int32) (a3 : Int32) (a4 : Int32) (a5 : Int32) (st : List Value) (M : xM) (Q : Option Value → xM → Prop), xW xSC 45 63 [.ref a0, .ref a1, .int a2, .int a3, .int a4, .int a5] (st) M Q = xW xSC 45 64 [.ref a0, .ref a1, .int a2, .int a3, .int a4, .int a5] (.ref a0 :: st) M Q) ∧
  (∀ (a0 : Nat) (a1 : Nat) (a2 : Int32) (a3 : Int32) (a4 : Int32) (a5 : Int32) (st : List Value) (M : xM) (Q : Option Value → xM → Prop), xW xSC 45 64 [.ref a0, .ref a1, .int a2, .int a3, .int a4, .int a5] (st) M Q = xW xSC 45 65 [.ref a0, .ref a1, .int a2, .int a3, .int a4, .int a5] (.int a2 :: st) M Q) ∧
  (∀ (a0 : Nat) (a1 : Nat) (a2 : Int32) (a3 : Int32) (a4 : Int32) (a5 : Int32) (st : List Value) (M : xM) (Q : Option Value → xM → Prop), xW xSC 45 65 [.ref a0, .ref a1, .int a2, .int a3, .int a4, .int a5] (st) M Q = xW xSC 45 66 [.ref a0, .ref a1, .int a2, .int a3, .int a4, .int a5] (.ref a1 :: st) M Q) ∧
  (∀ (a0 : Nat) (a1 : Nat) (a2 : Int32) (a3 : Int32) (a4 : Int32) (a5 : Int32) (st : List Value) (M : xM) (Q : Option Value → xM → Prop), xW xSC 45 66 [.ref a0, .ref a1, .int a2, .int a3, .int a4, .int a5] (st) M Q = xW xSC 45 67 [.ref a0, .ref a1, .int a2, .int a3, .int a4, .int a5] (.int (nI 3) :: st) M Q) ∧
  (∀ (a0 : Nat) (a1 : Nat) (a2 : Int32) (a3 : Int32) (a4 : Int32) (a5 : Int32) (y0 : Int32) (y2 : Int32) (y3 : Nat) (M : xM) (Q : Option Value → xM → Prop), xW xSC 45 67 [.ref a0, .ref a1, .int a2, .int a3, .int a4, .int a5] (.int y0 :: .ref 9 :: .int y2 :: .ref y3 :: []) M Q = xW xSC 34 0 [.ref 9, .int y0] [] M (fun v M' => xW xSC 45 70 [.ref a0, .ref a1, .int a2, .int a3, .int a4, .int a5] (xpush v [.int y2, .ref y3]) M' Q)) ∧
  (∀ (a0 : Nat) (a1 : Nat) (a2 : Int32) (a3 : Int32) (a4 : Int32) (a5 : Int32) (y0 : Int32) (y1 : Int32) (M : xM) (Q : Option Value → xM → Prop), xW xSC 45 70 [.ref a0, .ref a1, .int a2, .int a3, .int a4, .int a5] (.int y0 :: .int y1 :: .ref 33 :: []) M Q = xW xSC 49 0 [.ref 33, .int y1, .int y0] [] M (fun v M' => xW xSC 45 73 [.ref a0, .ref a1, .int a2, .int a3, .int a4, .int a5] (xpush v []) M' Q)) ∧
  (∀ (a0 : Nat) (a1 : Nat) (a2 : Int32) (a3 : Int32) (a4 : Int32) (a5 : Int32) (st : List Value) (M : xM) (Q : Option Value → xM → Prop), xW xSC 45 74 [.ref a0, .ref a1, .int a2, .int a3, .int a4, .int a5] (st) M Q = xW xSC 45 76 [.ref a0, .ref a1, .int a2, .int a3, .int a4, .int a5] (.int (nI 32) :: st) M Q) ∧
  (∀ (a0 : Nat) (a1 : Nat) (a2 : Int32) (a3 : Int32) (a4 : Int32) (a5 : Int32) (y0 : Int32) (y1 : Int32) (st : List Value) (M : xM) (Q : Option Value → xM → Prop), xW xSC 45 76 [.ref a0, .ref a1, .int a2, .int a3, .int a4, .int a5] (.int y0 :: .int y1 :: st) M Q = xW xSC 45 77 [.ref a0, .ref a1, .int a2, .int a3, .int a4, .int a5] (.int (y1 &&& y0) :: st) M Q) ∧
  (∀ (a0 : Nat) (a1 : Nat) (a2 : Int32) (a3 : Int32) (a4 : Int32) (a5 : Int32) (y0 : Int32) (st : List Value) (M : xM) (Q : Option Value → xM → Prop), xW xSC 45 77 [.ref a0, .ref a1, .int a2, .int a3, .int a4, .int a5] (.int y0 :: st) M Q = if y0 = nI 0 then xW xSC 45 90 [.ref a0, .ref a1, .int a2, .int a3, .int a4, .int a5] (st) M Q else xW xSC 45 80 [.ref a0, .ref a1, .int a2, .int a3, .int a4, .int a5] (st) M Q) ∧
  (∀ (a0 : Nat) (a1 : Nat) (a2 : Int32) (a3 : Int32) (a4 : Int32) (a5 : Int32) (st : List Value) (M : xM) (Q : Option Value → xM → Prop), xW xSC 45 80 [.ref a0, .ref a1, .int a2, .int a3, .int a4, .int a5] (st) M Q = xW xSC 45 81 [.ref a0, .ref a1, .int a2, .int a3, .int a4, .int a5] (.ref a0 :: st) M Q) ∧
  (∀ (a0 : Nat) (a1 : Nat) (a2 : Int32) (a3 : Int32) (a4 : Int32) (a5 : Int32) (st : List Value) (M : xM) (Q : Option Value → xM → Prop), xW xSC 45 81 [.ref a0, .ref a1, .int a2, .int a3, .int a4, .int a5] (st) M Q = xW xSC 45 83 [.ref a0, .ref a1, .int a2, .int a3, .int a4, .int a5] (.int a4 :: st) M Q) ∧
  (∀ (a0 : Nat) (a1 : Nat) (a2 : Int32) (a3 : Int32) (a4 : Int32) (a5 : Int32) (st : List Value) (M : xM) (Q : Option Value → xM → Prop), xW xSC 45 83 [.ref a0, .ref a1, .int a2, .int a3, .int a4, .int a5] (st) M Q = xW xSC 45 85 [.ref a0, .ref a1, .int a2, .int a3, .int a4, .int a5] (.int a5 :: st) M Q) ∧
  (∀ (a0 : Nat) (a1 : Nat) (a2 : Int32) (a3 : Int32) (a4 : Int32) (a5 : Int32) (st : List Value) (M : xM) (Q : Option Value → xM → Prop), xW xSC 45 85 [.ref a0, .ref a1, .int a2, .int a3, .int a4, .int a5] (st) M Q = xW xSC 45 86 [.ref a0, .ref a1, .int a2, .int a3, .int a4, .int a5] (.int (nI 2) :: st) M Q) ∧
  (∀ (a0 : Nat) (a1 : Nat) (a2 : Int32) (a3 : Int32) (a4 : Int32) (a5 : Int32) (y0 : Nat) (y1 : Int32) (st : List Value) (M : xM) (Q : Option Value → xM → Prop), 0 < y0 → y0 < 2 ^ 31 → xW xSC 45 86 [.ref a0, .ref a1, .int a2, .int a3, .int a4, .int a5] (.int (nI y0) :: .int y1 :: st) M Q = xW xSC 45 87 [.ref a0, .ref a1, .int a2, .int a3, .int a4, .int a5] (.int (y1 / nI y0) :: st) M Q) ∧
  (∀ (a0 : Nat) (a1 : Nat) (a2 : Int32) (a3 : Int32) (a4 : Int32) (a5 : Int32) (y0 : Int32) (y1 : Int32) (M : xM) (Q : Option Value → xM → Prop), xW xSC 45 87 [.ref a0, .ref a1, .int a2, .int a3, .int a4, .int a5] (.int y0 :: .int y1 :: .ref 33 :: []) M Q = xW xSC 48 0 [.ref 33, .int y1, .int y0] [] M (fun v M' => xW xSC 45 90 [.ref a0, .ref a1, .int a2, .int a3, .int a4, .int a5] (xpush v []) M' Q)) ∧
  (∀ (a0 : Nat) (a1 : Nat) (a2 : Int32) (a3 : Int32) (a4 : Int32) (a5 : Value) (y0 : Int32) (st : List Value) (M : xM) (Q : Option Value → xM → Prop), xW xSC 45 2 [.ref a0, .ref a1, .int a2, .int a3, .int a4, a5] (.int y0 :: .ref 35 :: st) M Q = xW xSC 45 5 [.ref a0, .ref a1, .int a2, .int a3, .int a4, a5] (st) (xup M 35 0 y0) Q) ∧
  (∀ (a0 : Nat) (a1 : Nat) (a2 : Int32) (a3 : Int32) (a4 : Int32) (a5 : Value) (y0 : Int32) (st : List Value) (M : xM) (Q : Option Value → xM → Prop), xW xSC 45 7 [.ref a0, .ref a1, .int a2, .int a3, .int a4, a5] (.int y0 :: .ref 35 :: st) M Q = xW xSC 45 10 [.ref a0, .ref a1, .int a2, .int a3, .int a4, a5] (st) (xup M 35 1 y0) Q) ∧
  (∀ (a0 : Nat) (a1 : Nat) (a2 : Int32) (a3 : Int32) (a4 : Int32) (a5 : Int32) (y0 : Int32) (y1 : Int32) (M : xM) (Q : Option Value → xM → Prop), xW xSC 45 30 [.ref a0, .ref a1, .int a2, .int a3, .int a4, .int a5] (.int y0 :: .int y1 :: .ref 35 :: []) M Q = xW xSC 49 0 [.ref 35, .int y1, .int y0] [] M (fun v M' => xW xSC 45 33 [.ref a0, .ref a1, .int a2, .int a3, .int a4, .int a5] (xpush v []) M' Q)) ∧
  (∀ (a0 : Nat) (a1 : Nat) (a2 : Int32) (a3 : Int32) (a4 : Int32) (a5 : Int32) (y0 : Int32) (y1 : Int32) (M : xM) (Q : Option Value → xM → Prop), xW xSC 45 46 [.ref a0, .ref a1, .int a2, .int a3, .int a4, .int a5] (.int y0 :: .int y1 :: .ref 35 :: []) M Q = xW xSC 49 0 [.ref 35, .int y1, .int y0] [] M (fun v M' => xW xSC 45 49 [.ref a0, .ref a1, .int a2, .int a3, .int a4, .int a5] (xpush v []) M' Q)) ∧
  (∀ (a0 : Nat) (a1 : Nat) (a2 : Int32) (a3 : Int32) (a4 : Int32) (a5 : Int32) (y0 : Int32) (y1 : Int32) (M : xM) (Q : Option Value → xM → Prop), xW xSC 45 53 [.ref a0, .ref a1, .int a2, .int a3, .int a4, .int a5] (.int y0 :: .int y1 :: .ref 35 :: []) M Q = xW xSC 48 0 [.ref 35, .int y1, .int y0] [] M (fun v M' => xW xSC 45 56 [.ref a0, .ref a1, .int a2, .int a3, .int a4, .int a5] (xpush v []) M' Q)) ∧
  (∀ (a0 : Nat) (a1 : Nat) (a2 : Int32) (a3 : Int32) (a4 : Int32) (a5 : Int32) (y0 : Int32) (y1 : Int32) (M : xM) (Q : Option Value → xM → Prop), xW xSC 45 70 [.ref a0, .ref a1, .int a2, .int a3, .int a4, .int a5] (.int y0 :: .int y1 :: .ref 35 :: []) M Q = xW xSC 49 0 [.ref 35, .int y1, .int y0] [] M (fun v M' => xW xSC 45 73 [.ref a0, .ref a1, .int a2, .int a3, .int a4, .int a5] (xpush v []) M' Q)) ∧
  (∀ (a0 : Nat) (a1 : Nat) (a2 : Int32) (a3 : Int32) (a4 : Int32) (a5 : Int32) (y0 : Int32) (y1 : Int32) (M : xM) (Q : Option Value → xM → Prop), xW xSC 45 87 [.ref a0, .ref a1, .int a2, .int a3, .int a4, .int a5] (.int y0 :: .int y1 :: .ref 35 :: []) M Q = xW xSC 48 0 [.ref 35, .int y1, .int y0] [] M (fun v M' => xW xSC 45 90 [.ref a0, .ref a1, .int a2, .int a3, .int a4, .int a5] (xpush v []) M' Q)) ∧
  (∀ (a0 : Nat) (a1 : Nat) (a2 : Int32) (a3 : Int32) (a4 : Int32) (a5 : Value) (y0 : Int32) (st : List Value) (M : xM) (Q : Option Value → xM → Prop), xW xSC 45 2 [.ref a0, .ref a1, .int a2, .int a3, .int a4, a5] (.int y0 :: .ref 40 :: st) M Q = xW xSC 45 5 [.ref a0, .ref a1, .int a2, .int a3, .int a4, a5] (st) (xup M 40 0 y0) Q) ∧
  (∀ (a0 : Nat) (a1 : Nat) (a2 : Int32) (a3 : Int32) (a4 : Int32) (a5 : Value) (y0 : Int32) (st : List Value) (M : xM) (Q : Option Value → xM → Prop), xW xSC 45 7 [.ref a0, .ref a1, .int a2, .int a3, .int a4, a5] (.int y0 :: .ref 40 :: st) M Q = xW xSC 45 10 [.ref a0, .ref a1, .int a2, .int a3, .int a4, a5] (st) (xup M 40 1 y0) Q) ∧
  (∀ (a0 : Nat) (a1 : Nat) (a2 : Int32) (a3 : Int32) (a4 : Int32) (a5 : Int32) (y0 : Int32) (y1 : Int32) (M : xM) (Q : Option Value → xM → Prop), xW xSC 45 30 [.ref a0, .ref a1, .int a2, .int a3, .int a4, .int a5] (.int y0 :: .int y1 :: .ref 40 :: []) M Q = xW xSC 49 0 [.ref 40, .int y1, .int y0] [] M (fun v M' => xW xSC 45 33 [.ref a0, .ref a1, .int a2, .int a3, .int a4, .int a5] (xpush v []) M' Q)) ∧
  (∀ (a0 : Nat) (a1 : Nat) (a2 : Int32) (a3 : Int32) (a4 : Int32) (a5 : Int32) (y0 : Int32) (y1 : Int32) (M : xM) (Q : Option Value → xM → Prop), xW xSC 45 46 [.ref a0, .ref a1, .int a2, .int a3, .int a4, .int a5] (.int y0 :: .int y1 :: .ref 40 :: []) M Q = xW xSC 49 0 [.ref 40, .int y1, .int y0] [] M (fun v M' => xW xSC 45 49 [.ref a0, .ref a1, .int a2, .int a3, .int a4, .int a5] (xpush v []) M' Q)) ∧
  (∀ (a0 : Nat) (a1 : Nat) (a2 : Int32) (a3 : Int32) (a4 : Int32) (a5 : Int32) (y0 : Int32) (y1 : Int32) (M : xM) (Q : Option Value → xM → Prop), xW xSC 45 53 [.ref a0, .ref a1, .int a2, .int a3, .int a4, .int a5] (.int y0 :: .int y1 :: .ref 40 :: []) M Q = xW xSC 48 0 [.ref 40, .int y1, .int y0] [] M (fun v M' => xW xSC 45 56 [.ref a0, .ref a1, .int a2, .int a3, .int a4, .int a5] (xpush v []) M' Q)) ∧
  (∀ (a0 : Nat) (a1 : Nat) (a2 : Int32) (a3 : Int32) (a4 : Int32) (a5 : Int32) (y0 : Int32) (y1 : Int32) (M : xM) (Q : Option Value → xM → Prop), xW xSC 45 70 [.ref a0, .ref a1, .int a2, .int a3, .int a4, .int a5] (.int y0 :: .int y1 :: .ref 40 :: []) M Q = xW xSC 49 0 [.ref 40, .int y1, .int y0] [] M (fun v M' => xW xSC 45 73 [.ref a0, .ref a1, .int a2, .int a3, .int a4, .int a5] (xpush v []) M' Q)) ∧
  (∀ (a0 : Nat) (a1 : Nat) (a2 : Int32) (a3 : Int32) (a4 : Int32) (a5 : Int32) (y0 : Int32) (y1 : Int32) (M : xM) (Q : Option Value → xM → Prop), xW xSC 45 87 [.ref a0, .ref a1, .int a2, .int a3, .int a4, .int a5] (.int y0 :: .int y1 :: .ref 40 :: []) M Q = xW xSC 48 0 [.ref 40, .int y1, .int y0] [] M (fun v M' => xW xSC 45 90 [.ref a0, .ref a1, .int a2, .int a3, .int a4, .int a5] (xpush v []) M' Q)) :=
  ⟨fun a0 a1 a2 a3 a4 a5 st M Q => xw_s rfl rfl,
  fun a0 a1 a2 a3 a4 a5 st M Q => xw_s rfl rfl,
  fun a0 a1 a2 a3 a4 a5 y0 st M Q => xw_s rfl rfl,
  fun a0 a1 a2 a3 a4 a5 st M Q => xw_s rfl rfl,
  fun a0 a1 a2 a3 a4 a5 st M Q => xw_s rfl rfl,
  fun a0 a1 a2 a3 a4 a5 y0 st M Q => xw_s rfl rfl,
  fun a0 a1 a2 a3 a4 a5 st M Q => xw_s rfl rfl,
  fun a0 a1 a2 a3 a4 a5 st M Q => xw_s rfl rfl,
  fun a0 a1 a2 a3 a4 a5 y0 M Q => xw_call rfl rfl rfl,
  fun a0 a1 a2 a3 a4 a5 y0 st M Q => xw_s rfl rfl,
  fun a0 a1 a2 a3 a4 a5 st M Q => xw_s rfl rfl,
  fun a0 a1 a2 a3 a4 a5 st M Q => xw_s rfl rfl,
  fun a0 a1 a2 a3 a4 a5 y0 y1 st M Q => xw_s rfl rfl,
  fun a0 a1 a2 a3 a4 a5 y0 st M Q => xw_br (c0 := y0 = nI 0) rfl rfl,
  fun a0 a1 a2 a3 a4 a5 st M Q => xw_s rfl rfl,
  fun a0 a1 a2 a3 a4 a5 st M Q => xw_s rfl rfl,
  fun a0 a1 a2 a3 a4 a5 st M Q => xw_s rfl rfl,
  fun a0 a1 a2 a3 a4 a5 st M Q => xw_s rfl rfl,
  fun a0 a1 a2 a3 a4 a5 y0 y2 y3 M Q => xw_call rfl rfl rfl,
  fun a0 a1 a2 a3 a4 a5 y0 y1 M Q => xw_call rfl rfl rfl,
  fun a0 a1 a2 a3 a4 a5 st M Q => xw_s rfl rfl,
  fun a0 a1 a2 a3 a4 a5 y0 y1 st M Q => xw_s rfl rfl,
  fun a0 a1 a2 a3 a4 a5 y0 st M Q => xw_br (c0 := y0 = nI 0) rfl rfl,
  fun a0 a1 a2 a3 a4 a5 st M Q => xw_s rfl rfl,
  fun a0 a1 a2 a3 a4 a5 st M Q => xw_s rfl rfl,
  fun a0 a1 a2 a3 a4 a5 st M Q => xw_s rfl rfl,
  fun a0 a1 a2 a3 a4 a5 st M Q => xw_s rfl rfl,
  fun a0 a1 a2 a3 a4 a5 y0 y2 y3 M Q => xw_call rfl rfl rfl,
  fun a0 a1 a2 a3 a4 a5 y0 y1 M Q => xw_call rfl rfl rfl,
  fun a0 a1 a2 a3 a4 a5 st M Q => xw_s rfl rfl,
  fun a0 a1 a2 a3 a4 a5 st M Q => xw_s rfl rfl,
  fun a0 a1 a2 a3 a4 a5 y0 y1 M Q => xw_call rfl rfl rfl,
  fun a0 a1 a2 a3 a4 a5 st M Q => xw_s rfl rfl,
  fun a0 a1 a2 a3 a4 a5 st M Q => xw_s rfl rfl,
  fun a0 a1 a2 a3 a4 a5 y0 y1 st M Q => xw_s rfl rfl,
  fun a0 a1 a2 a3 a4 a5 y0 st M Q => xw_br (c0 := y0 = nI 0) rfl rfl,
  fun a0 a1 a2 a3 a4 a5 st M Q => xw_s rfl rfl,
  fun a0 a1 a2 a3 a4 a5 st M Q => xw_s rfl rfl,
  fun a0 a1 a2 a3 a4 a5 st M Q => xw_s rfl rfl,
  fun a0 a1 a2 a3 a4 a5 st M Q => xw_s rfl rfl,
  fun a0 a1 a2 a3 a4 a5 y0 y2 y3 M Q => xw_call rfl rfl rfl,
  fun a0 a1 a2 a3 a4 a5 y0 y1 M Q => xw_call rfl rfl rfl,
  fun a0 a1 a2 a3 a4 a5 st M Q => xw_s rfl rfl,
  fun a0 a1 a2 a3 a4 a5 y0 y1 st M Q => xw_s rfl rfl,
  fun a0 a1 a2 a3 a4 a5 y0 st M Q => xw_br (c0 := y0 = nI 0) rfl rfl,
  fun a0 a1 a2 a3 a4 a5 st M Q => xw_s rfl rfl,
  fun a0 a1 a2 a3 a4 a5 st M Q => xw_s rfl rfl,
  fun a0 a1 a2 a3 a4 a5 st M Q => xw_s rfl rfl,
  fun a0 a1 a2 a3 a4 a5 st M Q => xw_s rfl rfl,
  fun a0 a1 a2 a3 a4 a5 y0 y1 st M Q h0 h1 => xw_div (f := fun x y => x / y) rfl rfl (nI_ne0 h0 h1),
  fun a0 a1 a2 a3 a4 a5 y0 y1 M Q => xw_call rfl rfl rfl,
  fun a0 a1 a2 a3 a4 a5 y0 st M Q => xw_s rfl rfl,
  fun a0 a1 a2 a3 a4 a5 y0 st M Q => xw_s rfl rfl,
  fun a0 a1 a2 a3 a4 a5 y0 y1 M Q => xw_call rfl rfl rfl,
  fun a0 a1 a2 a3 a4 a5 y0 y1 M Q => xw_call rfl rfl rfl,
  fun a0 a1 a2 a3 a4 a5 y0 y1 M Q => xw_call rfl rfl rfl,
  fun a0 a1 a2 a3 a4 a5 y0 y1 M Q => xw_call rfl rfl rfl,
  fun a0 a1 a2 a3 a4 a5 y0 y1 M Q => xw_call rfl rfl rfl,
  fun a0 a1 a2 a3 a4 a5 y0 st M Q => xw_s rfl rfl,
  fun a0 a1 a2 a3 a4 a5 y0 st M Q => xw_s rfl rfl,
  fun a0 a1 a2 a3 a4 a5 y0 y1 M Q => xw_call rfl rfl rfl,
  fun a0 a1 a2 a3 a4 a5 y0 y1 M Q => xw_call rfl rfl rfl,
  fun a0 a1 a2 a3 a4 a5 y0 y1 M Q => xw_call rfl rfl rfl,
  fun a0 a1 a2 a3 a4 a5 y0 y1 M Q => xw_call rfl rfl rfl,
  fun a0 a1 a2 a3 a4 a5 y0 y1 M Q => xw_call rfl rfl rfl⟩
set_option maxRecDepth 20000 in
theorem h45_33 :
  (∀ (a0 : Nat) (a1 : Nat) (a2 : Int32) (a3 : Int32) (a4 : Int32) (a5 : Int32) (st : List Value) (M : xM) (Q : Option Value → xM → Prop), xW xSC 45 33 [.ref a0, .ref a1, .int a2, .int a3, .int a4, .int a5] (st) M Q = xW xSC 45 34 [.ref a0, .ref a1, .int a2, .int a3, .int a4, .int a5] (.int a3 :: st) M Q) :=
  fun a0 a1 a2 a3 a4 a5 st M Q => xw_s rfl rfl
set_option maxRecDepth 20000 in
theorem h45_49 :
  (∀ (a0 : Nat) (a1 : Nat) (a2 : Int32) (a3 : Int32) (a4 : Int32) (a5 : Int32) (st : List Value) (M : xM) (Q : Option Value → xM → Prop), xW xSC 45 49 [.ref a0, .ref a1, .int a2, .int a3, .int a4, .int a5] (st) M Q = xW xSC 45 50 [.ref a0, .ref a1, .int a2, .int a3, .int a4, .int a5] (.ref a0 :: st) M Q) :=
  fun a0 a1 a2 a3 a4 a5 st M Q => xw_s rfl rfl
set_option maxRecDepth 20000 in
theorem h45_73 :
  (∀ (a0 : Nat) (a1 : Nat) (a2 : Int32) (a3 : Int32) (a4 : Int32) (a5 : Int32) (st : List Value) (M : xM) (Q : Option Value → xM → Prop), xW xSC 45 73 [.ref a0, .ref a1, .int a2, .int a3, .int a4, .int a5] (st) M Q = xW xSC 45 74 [.ref a0, .ref a1, .int a2, .int a3, .int a4, .int a5] (.int a3 :: st) M Q) :=
  fun a0 a1 a2 a3 a4 a5 st M Q => xw_s rfl rfl
set_option maxRecDepth 20000 in
theorem h45_90 :
  (∀ (a0 : Nat) (a1 : Nat) (a2 : Int32) (a3 : Int32) (a4 : Int32) (a5 : Int32) (M : xM) (Q : Option Value → xM → Prop), xW xSC 45 90 [.ref a0, .ref a1, .int a2, .int a3, .int a4, .int a5] ([]) M Q = Q none M) :=
  fun a0 a1 a2 a3 a4 a5 M Q => xw_retv rfl rfl
set_option maxRecDepth 20000 in
theorem j45 :
  (∀ (a0 : Nat) (a1 : Nat) (a2 : Int32) (a3 : Int32) (a4 : Int32) (a5 : Int32) (st : List Value) (M : xM) (Q : Option Value → xM → Prop), xW xSC 45 33 [.ref a0, .ref a1, .int a2, .int a3, .int a4, .int a5] (st) M Q = xW xSC 45 34 [.ref a0, .ref a1, .int a2, .int a3, .int a4, .int a5] (.int a3 :: st) M Q) ∧
  (∀ (a0 : Nat) (a1 : Nat) (a2 : Int32) (a3 : Int32) (a4 : Int32) (a5 : Int32) (st : List Value) (M : xM) (Q : Option Value → xM → Prop), xW xSC 45 49 [.ref a0, .ref a1, .int a2, .int a3, .int a4, .int a5] (st) M Q = xW xSC 45 50 [.ref a0, .ref a1, .int a2, .int a3, .int a4, .int a5] (.ref a0 :: st) M Q) ∧
  (∀ (a0 : Nat) (a1 : Nat) (a2 : Int32) (a3 : Int32) (a4 : Int32) (a5 : Int32) (st : List Value) (M : xM) (Q : Option Value → xM → Prop), xW xSC 45 73 [.ref a0, .ref a1, .int a2, .int a3, .int a4, .int a5] (st) M Q = xW xSC 45 74 [.ref a0, .ref a1, .int a2, .int a3, .int a4, .int a5] (.int a3 :: st) M Q) ∧
  (∀ (a0 : Nat) (a1 : Nat) (a2 : Int32) (a3 : Int32) (a4 : Int32) (a5 : Int32) (M : xM) (Q : Option Value → xM → Prop), xW xSC 45 90 [.ref a0, .ref a1, .int a2, .int a3, .int a4, .int a5] ([]) M Q = Q none M) :=
  ⟨fun a0 a1 a2 a3 a4 a5 st M Q => xw_s rfl rfl,
  fun a0 a1 a2 a3 a4 a5 st M Q => xw_s rfl rfl,
  fun a0 a1 a2 a3 a4 a5 st M Q => xw_s rfl rfl,
  fun a0 a1 a2 a3 a4 a5 M Q => xw_retv rfl rfl⟩

set_option maxRecDepth 20000 in
theorem s48 :
  (∀ (a0 : Nat) (a1 : Int32) (a2 : Int32) (st : List Value) (M : xM) (Q : Option Value → xM → Prop), xW xSC 48 0 [.ref a0, .int a1, .int a2] (st) M Q = xW xSC 48 1 [.ref a0, .int a1, .int a2] (.int a1 :: st) M Q) ∧
  (∀ (a0 : Nat) (a1 : Int32) (a2 : Int32) (st : List Value) (M : xM) (Q : Option Value → xM → Prop), xW xSC 48 1 [.ref a0, .int a1, .int a2] (st) M Q = xW xSC 48 2 [.ref a0, .int a1, .int a2] (.int (nI 4) :: st) M Q) ∧
  (∀ (a0 : Nat) (a1 : Int32) (a2 : Int32) (y0 : Int32) (y1 : Int32) (st : List Value) (M : xM) (Q : Option Value → xM → Prop), xW xSC 48 2 [.ref a0, .int a1, .int a2] (.int y0 :: .int y1 :: st) M Q = xW xSC 48 3 [.ref a0, .int a1, .int a2] (.int (y1 &&& y0) :: st) M Q) ∧
  (∀ (a0 : Nat) (a1 : Int32) (a2 : Int32) (y0 : Int32) (st : List Value) (M : xM) (Q : Option Value → xM → Prop), xW xSC 48 3 [.ref a0, .int a1, .int a2] (.int y0 :: st) M Q = if y0 = nI 0 then xW xSC 48 12 [.ref a0, .int a1, .int a2] (st) M Q else xW xSC 48 6 [.ref a0, .int a1, .int a2] (st) M Q) ∧
  (∀ (a0 : Nat) (a1 : Int32) (a2 : Int32) (st : List Value) (M : xM) (Q : Option Value → xM → Prop), xW xSC 48 6 [.ref a0, .int a1, .int a2] (st) M Q = xW xSC 48 7 [.ref a0, .int a1, .int a2] (.ref a0 :: st) M Q) ∧
  (∀ (a0 : Nat) (a1 : Int32) (a2 : Int32) (st : List Value) (M : xM) (Q : Option Value → xM → Prop), xW xSC 48 7 [.ref a0, .int a1, .int a2] (st) M Q = xW xSC 48 8 [.ref a0, .int a1, .int a2] (.int (nI 0) :: st) M Q) ∧
  (∀ (a0 : Nat) (a1 : Int32) (a2 : Int32) (st : List Value) (M : xM) (Q : Option Value → xM → Prop), xW xSC 48 8 [.ref a0, .int a1, .int a2] (st) M Q = xW xSC 48 9 [.ref a0, .int a1, .int a2] (.int a2 :: st) M Q) ∧
  (∀ (a0 : Nat) (a1 : Int32) (a2 : Int32) (y0 : Int32) (y1 : Int32) (M : xM) (Q : Option Value → xM → Prop), xW xSC 48 9 [.ref a0, .int a1, .int a2] (.int y0 :: .int y1 :: .ref 33 :: []) M Q = xW xSC 49 0 [.ref 33, .int y1, .int y0] [] M (fun v M' => xW xSC 48 12 [.ref a0, .int a1, .int a2] (xpush v []) M' Q)) ∧
  (∀ (a0 : Nat) (a1 : Int32) (a2 : Int32) (st : List Value) (M : xM) (Q : Option Value → xM → Prop), xW xSC 48 13 [.ref a0, .int a1, .int a2] (st) M Q = xW xSC 48 15 [.ref a0, .int a1, .int a2] (.int (nI 8) :: st) M Q) ∧
  (∀ (a0 : Nat) (a1 : Int32) (a2 : Int32) (y0 : Int32) (y1 : Int32) (st : List Value) (M : xM) (Q : Option Value → xM → Prop), xW xSC 48 15 [.ref a0, .int a1, .int a2] (.int y0 :: .int y1 :: st) M Q = xW xSC 48 16 [.ref a0, .int a1, .int a2] (.int (y1 &&& y0) :: st) M Q) ∧
  (∀ (a0 : Nat) (a1 : Int32) (a2 : Int32) (y0 : Int32) (st : List Value) (M : xM) (Q : Option Value → xM → Prop), xW xSC 48 16 [.ref a0, .int a1, .int a2] (.int y0 :: st) M Q = if y0 = nI 0 then xW xSC 48 25 [.ref a0, .int a1, .int a2] (st) M Q else xW xSC 48 19 [.ref a0, .int a1, .int a2] (st) M Q) ∧
  (∀ (a0 : Nat) (a1 : Int32) (a2 : Int32) (st : List Value) (M : xM) (Q : Option Value → xM → Prop), xW xSC 48 19 [.ref a0, .int a1, .int a2] (st) M Q = xW xSC 48 20 [.ref a0, .int a1, .int a2] (.ref a0 :: st) M Q) ∧
  (∀ (a0 : Nat) (a1 : Int32) (a2 : Int32) (st : List Value) (M : xM) (Q : Option Value → xM → Prop), xW xSC 48 20 [.ref a0, .int a1, .int a2] (st) M Q = xW xSC 48 21 [.ref a0, .int a1, .int a2] (.int (nI 1) :: st) M Q) ∧
  (∀ (a0 : Nat) (a1 : Int32) (a2 : Int32) (st : List Value) (M : xM) (Q : Option Value → xM → Prop), xW xSC 48 21 [.ref a0, .int a1, .int a2] (st) M Q = xW xSC 48 22 [.ref a0, .int a1, .int a2] (.int a2 :: st) M Q) ∧
  (∀ (a0 : Nat) (a1 : Int32) (a2 : Int32) (y0 : Int32) (y1 : Int32) (M : xM) (Q : Option Value → xM → Prop), xW xSC 48 22 [.ref a0, .int a1, .int a2] (.int y0 :: .int y1 :: .ref 33 :: []) M Q = xW xSC 49 0 [.ref 33, .int y1, .int y0] [] M (fun v M' => xW xSC 48 25 [.ref a0, .int a1, .int a2] (xpush v []) M' Q)) ∧
  (∀ (a0 : Nat) (a1 : Int32) (a2 : Int32) (y0 : Int32) (y1 : Int32) (M : xM) (Q : Option Value → xM → Prop), xW xSC 48 9 [.ref a0, .int a1, .int a2] (.int y0 :: .int y1 :: .ref 35 :: []) M Q = xW xSC 49 0 [.ref 35, .int y1, .int y0] [] M (fun v M' => xW xSC 48 12 [.ref a0, .int a1, .int a2] (xpush v []) M' Q)) ∧
  (∀ (a0 : Nat) (a1 : Int32) (a2 : Int32) (y0 : Int32) (y1 : Int32) (M : xM) (Q : Option Value → xM → Prop), xW xSC 48 22 [.ref a0, .int a1, .int a2] (.int y0 :: .int y1 :: .ref 35 :: []) M Q = xW xSC 49 0 [.ref 35, .int y1, .int y0] [] M (fun v M' => xW xSC 48 25 [.ref a0, .int a1, .int a2] (xpush v []) M' Q)) ∧
  (∀ (a0 : Nat) (a1 : Int32) (a2 : Int32) (y0 : Int32) (y1 : Int32) (M : xM) (Q : Option Value → xM → Prop), xW xSC 48 9 [.ref a0, .int a1, .int a2] (.int y0 :: .int y1 :: .ref 40 :: []) M Q = xW xSC 49 0 [.ref 40, .int y1, .int y0] [] M (fun v M' => xW xSC 48 12 [.ref a0, .int a1, .int a2] (xpush v []) M' Q)) ∧
  (∀ (a0 : Nat) (a1 : Int32) (a2 : Int32) (y0 : Int32) (y1 : Int32) (M : xM) (Q : Option Value → xM → Prop), xW xSC 48 22 [.ref a0, .int a1, .int a2] (.int y0 :: .int y1 :: .ref 40 :: []) M Q = xW xSC 49 0 [.ref 40, .int y1, .int y0] [] M (fun v M' => xW xSC 48 25 [.ref a0, .int a1, .int a2] (xpush v []) M' Q)) :=
  ⟨fun a0 a1 a2 st M Q => xw_s rfl rfl,
  fun a0 a1 a2 st M Q => xw_s rfl rfl,
  fun a0 a1 a2 y0 y1 st M Q => xw_s rfl rfl,
  fun a0 a1 a2 y0 st M Q => xw_br (c0 := y0 = nI 0) rfl rfl,
  fun a0 a1 a2 st M Q => xw_s rfl rfl,
  fun a0 a1 a2 st M Q => xw_s rfl rfl,
  fun a0 a1 a2 st M Q => xw_s rfl rfl,
  fun a0 a1 a2 y0 y1 M Q => xw_call rfl rfl rfl,
  fun a0 a1 a2 st M Q => xw_s rfl rfl,
  fun a0 a1 a2 y0 y1 st M Q => xw_s rfl rfl,
  fun a0 a1 a2 y0 st M Q => xw_br (c0 := y0 = nI 0) rfl rfl,
  fun a0 a1 a2 st M Q => xw_s rfl rfl,
  fun a0 a1 a2 st M Q => xw_s rfl rfl,
  fun a0 a1 a2 st M Q => xw_s rfl rfl,
  fun a0 a1 a2 y0 y1 M Q => xw_call rfl rfl rfl,
  fun a0 a1 a2 y0 y1 M Q => xw_call rfl rfl rfl,
  fun a0 a1 a2 y0 y1 M Q => xw_call rfl rfl rfl,
  fun a0 a1 a2 y0 y1 M Q => xw_call rfl rfl rfl,
  fun a0 a1 a2 y0 y1 M Q => xw_call rfl rfl rfl⟩
set_option maxRecDepth 20000 in
theorem h48_12 :
  (∀ (a0 : Nat) (a1 : Int32) (a2 : Int32) (st : List Value) (M : xM) (Q : Option Value → xM → Prop), xW xSC 48 12 [.ref a0, .int a1, .int a2] (st) M Q = xW xSC 48 13 [.ref a0, .int a1, .int a2] (.int a1 :: st) M Q) :=
  fun a0 a1 a2 st M Q => xw_s rfl rfl
set_option maxRecDepth 20000 in
theorem h48_25 :
  (∀ (a0 : Nat) (a1 : Int32) (a2 : Int32) (M : xM) (Q : Option Value → xM → Prop), xW xSC 48 25 [.ref a0, .int a1, .int a2] ([]) M Q = Q none M) :=
  fun a0 a1 a2 M Q => xw_retv rfl rfl
set_option maxRecDepth 20000 in
theorem j48 :
  (∀ (a0 : Nat) (a1 : Int32) (a2 : Int32) (st : List Value) (M : xM) (Q : Option Value → xM → Prop), xW xSC 48 12 [.ref a0, .int a1, .int a2] (st) M Q = xW xSC 48 13 [.ref a0, .int a1, .int a2] (.int a1 :: st) M Q) ∧
  (∀ (a0 : Nat) (a1 : Int32) (a2 : Int32) (M : xM) (Q : Option Value → xM → Prop), xW xSC 48 25 [.ref a0, .int a1, .int a2] ([]) M Q = Q none M) :=
  ⟨fun a0 a1 a2 st M Q => xw_s rfl rfl,
  fun a0 a1 a2 M Q => xw_retv rfl rfl⟩

set_option maxRecDepth 20000 in
theorem s49 :
  (∀ (a0 : Nat) (a1 : Int32) (a2 : Int32) (st : List Value) (M : xM) (Q : Option Value → xM → Prop), xW xSC 49 0 [.ref a0, .int a1, .int a2] (st) M Q = xW xSC 49 1 [.ref a0, .int a1, .int a2] (.int a1 :: st) M Q) ∧
  (∀ (a0 : Nat) (a1 : Int32) (a2 : Int32) (y0 : Int32) (st : List Value) (M : xM) (Q : Option Value → xM → Prop), xW xSC 49 1 [.ref a0, .int a1, .int a2] (.int y0 :: st) M Q = if y0 = nI 0 then xW xSC 49 4 [.ref a0, .int a1, .int a2] (st) M Q else xW xSC 49 17 [.ref a0, .int a1, .int a2] (st) M Q) ∧
  (∀ (a0 : Nat) (a1 : Int32) (a2 : Int32) (st : List Value) (M : xM) (Q : Option Value → xM → Prop), xW xSC 49 4 [.ref a0, .int a1, .int a2] (st) M Q = xW xSC 49 5 [.ref a0, .int a1, .int a2] (.ref a0 :: st) M Q) ∧
  (∀ (a0 : Nat) (a1 : Int32) (a2 : Int32) (y0 : Nat) (st : List Value) (M : xM) (Q : Option Value → xM → Prop), xW xSC 49 5 [.ref a0, .int a1, .int a2] (.ref y0 :: st) M Q = xW xSC 49 6 [.ref a0, .int a1, .int a2] (.ref y0 :: .ref y0 :: st) M Q) ∧
  (∀ (a0 : Nat) (a1 : Int32) (a2 : Int32) (st : List Value) (M : xM) (Q : Option Value → xM → Prop), xW xSC 49 6 [.ref a0, .int a1, .int a2] (.ref 33 :: st) M Q = xW xSC 49 9 [.ref a0, .int a1, .int a2] (.int (M 33 0) :: st) M Q) ∧
  (∀ (a0 : Nat) (a1 : Int32) (a2 : Int32) (st : List Value) (M : xM) (Q : Option Value → xM → Prop), xW xSC 49 9 [.ref a0, .int a1, .int a2] (st) M Q = xW xSC 49 10 [.ref a0, .int a1, .int a2] (.int a2 :: st) M Q) ∧
  (∀ (a0 : Nat) (a1 : Int32) (a2 : Int32) (y0 : Int32) (y1 : Int32) (st : List Value) (M : xM) (Q : Option Value → xM → Prop), xW xSC 49 10 [.ref a0, .int a1, .int a2] (.int y0 :: .int y1 :: st) M Q = xW xSC 49 11 [.ref a0, .int a1, .int a2] (.int (y1 + y0) :: st) M Q) ∧
  (∀ (a0 : Nat) (a1 : Int32) (a2 : Int32) (y0 : Int32) (st : List Value) (M : xM) (Q : Option Value → xM → Prop), xW xSC 49 11 [.ref a0, .int a1, .int a2] (.int y0 :: .ref 33 :: st) M Q = xW xSC 49 14 [.ref a0, .int a1, .int a2] (st) (xup M 33 0 y0) Q) ∧
  (∀ (a0 : Nat) (a1 : Int32) (a2 : Int32) (st : List Value) (M : xM) (Q : Option Value → xM → Prop), xW xSC 49 14 [.ref a0, .int a1, .int a2] (st) M Q = xW xSC 49 32 [.ref a0, .int a1, .int a2] (st) M Q) ∧
  (∀ (a0 : Nat) (a1 : Int32) (a2 : Int32) (st : List Value) (M : xM) (Q : Option Value → xM → Prop), xW xSC 49 17 [.ref a0, .int a1, .int a2] (st) M Q = xW xSC 49 18 [.ref a0, .int a1, .int a2] (.int a1 :: st) M Q) ∧
  (∀ (a0 : Nat) (a1 : Int32) (a2 : Int32) (st : List Value) (M : xM) (Q : Option Value → xM → Prop), xW xSC 49 18 [.ref a0, .int a1, .int a2] (st) M Q = xW xSC 49 19 [.ref a0, .int a1, .int a2] (.int (nI 1) :: st) M Q) ∧
  (∀ (a0 : Nat) (a1 : Int32) (a2 : Int32) (y0 : Int32) (y1 : Int32) (st : List Value) (M : xM) (Q : Option Value → xM → Prop), xW xSC 49 19 [.ref a0, .int a1, .int a2] (.int y0 :: .int y1 :: st) M Q = if y1 = y0 then xW xSC 49 22 [.ref a0, .int a1, .int a2] (st) M Q else xW xSC 49 32 [.ref a0, .int a1, .int a2] (st) M Q) ∧
  (∀ (a0 : Nat) (a1 : Int32) (a2 : Int32) (st : List Value) (M : xM) (Q : Option Value → xM → Prop), xW xSC 49 22 [.ref a0, .int a1, .int a2] (st) M Q = xW xSC 49 23 [.ref a0, .int a1, .int a2] (.ref a0 :: st) M Q) ∧
  (∀ (a0 : Nat) (a1 : Int32) (a2 : Int32) (y0 : Nat) (st : List Value) (M : xM) (Q : Option Value → xM → Prop), xW xSC 49 23 [.ref a0, .int a1, .int a2] (.ref y0 :: st) M Q = xW xSC 49 24 [.ref a0, .int a1, .int a2] (.ref y0 :: .ref y0 :: st) M Q) ∧
  (∀ (a0 : Nat) (a1 : Int32) (a2 : Int32) (st : List Value) (M : xM) (Q : Option Value → xM → Prop), xW xSC 49 24 [.ref a0, .int a1, .int a2] (.ref 33 :: st) M Q = xW xSC 49 27 [.ref a0, .int a1, .int a2] (.int (M 33 1) :: st) M Q) ∧
  (∀ (a0 : Nat) (a1 : Int32) (a2 : Int32) (st : List Value) (M : xM) (Q : Option Value → xM → Prop), xW xSC 49 27 [.ref a0, .int a1, .int a2] (st) M Q = xW xSC 49 28 [.ref a0, .int a1, .int a2] (.int a2 :: st) M Q) ∧
  (∀ (a0 : Nat) (a1 : Int32) (a2 : Int32) (y0 : Int32) (y1 : Int32) (st : List Value) (M : xM) (Q : Option Value → xM → Prop), xW xSC 49 28 [.ref a0, .int a1, .int a2] (.int y0 :: .int y1 :: st) M Q = xW xSC 49 29 [.ref a0, .int a1, .int a2] (.int (y1 + y0) :: st) M Q) ∧
  (∀ (a0 : Nat) (a1 : Int32) (a2 : Int32) (y0 : Int32) (st : List Value) (M : xM) (Q : Option Value → xM → Prop), xW xSC 49 29 [.ref a0, .int a1, .int a2] (.int y0 :: .ref 33 :: st) M Q = xW xSC 49 32 [.ref a0, .int a1, .int a2] (st) (xup M 33 1 y0) Q) ∧
  (∀ (a0 : Nat) (a1 : Int32) (a2 : Int32) (st : List Value) (M : xM) (Q : Option Value → xM → Prop), xW xSC 49 6 [.ref a0, .int a1, .int a2] (.ref 35 :: st) M Q = xW xSC 49 9 [.ref a0, .int a1, .int a2] (.int (M 35 0) :: st) M Q) ∧
  (∀ (a0 : Nat) (a1 : Int32) (a2 : Int32) (y0 : Int32) (st : List Value) (M : xM) (Q : Option Value → xM → Prop), xW xSC 49 11 [.ref a0, .int a1, .int a2] (.int y0 :: .ref 35 :: st) M Q = xW xSC 49 14 [.ref a0, .int a1, .int a2] (st) (xup M 35 0 y0) Q) ∧
  (∀ (a0 : Nat) (a1 : Int32) (a2 : Int32) (st : List Value) (M : xM) (Q : Option Value → xM → Prop), xW xSC 49 24 [.ref a0, .int a1, .int a2] (.ref 35 :: st) M Q = xW xSC 49 27 [.ref a0, .int a1, .int a2] (.int (M 35 1) :: st) M Q) ∧
  (∀ (a0 : Nat) (a1 : Int32) (a2 : Int32) (y0 : Int32) (st : List Value) (M : xM) (Q : Option Value → xM → Prop), xW xSC 49 29 [.ref a0, .int a1, .int a2] (.int y0 :: .ref 35 :: st) M Q = xW xSC 49 32 [.ref a0, .int a1, .int a2] (st) (xup M 35 1 y0) Q) ∧
  (∀ (a0 : Nat) (a1 : Int32) (a2 : Int32) (st : List Value) (M : xM) (Q : Option Value → xM → Prop), xW xSC 49 6 [.ref a0, .int a1, .int a2] (.ref 40 :: st) M Q = xW xSC 49 9 [.ref a0, .int a1, .int a2] (.int (M 40 0) :: st) M Q) ∧
  (∀ (a0 : Nat) (a1 : Int32) (a2 : Int32) (y0 : Int32) (st : List Value) (M : xM) (Q : Option Value → xM → Prop), xW xSC 49 11 [.ref a0, .int a1, .int a2] (.int y0 :: .ref 40 :: st) M Q = xW xSC 49 14 [.ref a0, .int a1, .int a2] (st) (xup M 40 0 y0) Q) ∧
  (∀ (a0 : Nat) (a1 : Int32) (a2 : Int32) (st : List Value) (M : xM) (Q : Option Value → xM → Prop), xW xSC 49 24 [.ref a0, .int a1, .int a2] (.ref 40 :: st) M Q = xW xSC 49 27 [.ref a0, .int a1, .int a2] (.int (M 40 1) :: st) M Q) ∧
  (∀ (a0 : Nat) (a1 : Int32) (a2 : Int32) (y0 : Int32) (st : List Value) (M : xM) (Q : Option Value → xM → Prop), xW xSC 49 29 [.ref a0, .int a1, .int a2] (.int y0 :: .ref 40 :: st) M Q = xW xSC 49 32 [.ref a0, .int a1, .int a2] (st) (xup M 40 1 y0) Q) :=
  ⟨fun a0 a1 a2 st M Q => xw_s rfl rfl,
  fun a0 a1 a2 y0 st M Q => xw_brn (c0 := y0 ≠ nI 0) (c1 := y0 = nI 0) rfl rfl (Iff.rfl),
  fun a0 a1 a2 st M Q => xw_s rfl rfl,
  fun a0 a1 a2 y0 st M Q => xw_s rfl rfl,
  fun a0 a1 a2 st M Q => xw_s rfl rfl,
  fun a0 a1 a2 st M Q => xw_s rfl rfl,
  fun a0 a1 a2 y0 y1 st M Q => xw_s rfl rfl,
  fun a0 a1 a2 y0 st M Q => xw_s rfl rfl,
  fun a0 a1 a2 st M Q => xw_s rfl rfl,
  fun a0 a1 a2 st M Q => xw_s rfl rfl,
  fun a0 a1 a2 st M Q => xw_s rfl rfl,
  fun a0 a1 a2 y0 y1 st M Q => xw_brn (c0 := y1 ≠ y0) (c1 := y1 = y0) rfl rfl (Iff.rfl),
  fun a0 a1 a2 st M Q => xw_s rfl rfl,
  fun a0 a1 a2 y0 st M Q => xw_s rfl rfl,
  fun a0 a1 a2 st M Q => xw_s rfl rfl,
  fun a0 a1 a2 st M Q => xw_s rfl rfl,
  fun a0 a1 a2 y0 y1 st M Q => xw_s rfl rfl,
  fun a0 a1 a2 y0 st M Q => xw_s rfl rfl,
  fun a0 a1 a2 st M Q => xw_s rfl rfl,
  fun a0 a1 a2 y0 st M Q => xw_s rfl rfl,
  fun a0 a1 a2 st M Q => xw_s rfl rfl,
  fun a0 a1 a2 y0 st M Q => xw_s rfl rfl,
  fun a0 a1 a2 st M Q => xw_s rfl rfl,
  fun a0 a1 a2 y0 st M Q => xw_s rfl rfl,
  fun a0 a1 a2 st M Q => xw_s rfl rfl,
  fun a0 a1 a2 y0 st M Q => xw_s rfl rfl⟩
set_option maxRecDepth 20000 in
theorem h49_32 :
  (∀ (a0 : Nat) (a1 : Int32) (a2 : Int32) (M : xM) (Q : Option Value → xM → Prop), xW xSC 49 32 [.ref a0, .int a1, .int a2] ([]) M Q = Q none M) :=
  fun a0 a1 a2 M Q => xw_retv rfl rfl
set_option maxRecDepth 20000 in
theorem j49 :
  (∀ (a0 : Nat) (a1 : Int32) (a2 : Int32) (M : xM) (Q : Option Value → xM → Prop), xW xSC 49 32 [.ref a0, .int a1, .int a2] ([]) M Q = Q none M) :=
  fun a0 a1 a2 M Q => xw_retv rfl rfl

set_option maxRecDepth 20000 in
theorem s50 :
  (∀ (a0 : Nat) (a1 : Nat) (a2 : Nat) (a3 : Int32) (a4 : Int32) (a5 : Value) (a6 : Value) (st : List Value) (M : xM) (Q : Option Value → xM → Prop), xW xSC 50 0 [.ref a0, .ref a1, .ref a2, .int a3, .int a4, a5, a6] (st) M Q = xW xSC 50 1 [.ref a0, .ref a1, .ref a2, .int a3, .int a4, a5, a6] (.ref a0 :: st) M Q) ∧
  (∀ (a0 : Nat) (a1 : Nat) (a2 : Nat) (a3 : Int32) (a4 : Int32) (a5 : Value) (a6 : Value) (st : List Value) (M : xM) (Q : Option Value → xM → Prop), xW xSC 50 1 [.ref a0, .ref a1, .ref a2, .int a3, .int a4, a5, a6] (st) M Q = xW xSC 50 2 [.ref a0, .ref a1, .ref a2, .int a3, .int a4, a5, a6] (.ref a1 :: st) M Q) ∧
  (∀ (a0 : Nat) (a1 : Nat) (a2 : Nat) (a3 : Int32) (a4 : Int32) (a5 : Value) (a6 : Value) (st : List Value) (M : xM) (Q : Option Value → xM → Prop), xW xSC 50 2 [.ref a0, .ref a1, .ref a2, .int a3, .int a4, a5, a6] (st) M Q = xW xSC 50 3 [.ref a0, .ref a1, .ref a2, .int a3, .int a4, a5, a6] (.ref a2 :: st) M Q) ∧
  (∀ (a0 : Nat) (a1 : Nat) (a2 : Nat) (a3 : Int32) (a4 : Int32) (a5 : Value) (a6 : Value) (st : List Value) (M : xM) (Q : Option Value → xM → Prop), xW xSC 50 3 [.ref a0, .ref a1, .ref a2, .int a3, .int a4, a5, a6] (st) M Q = xW xSC 50 4 [.ref a0, .ref a1, .ref a2, .int a3, .int a4, a5, a6] (.int a3 :: st) M Q) ∧
  (∀ (a0 : Nat) (a1 : Nat) (a2 : Nat) (a3 : Int32) (a4 : Int32) (a5 : Value) (a6 : Value) (st : List Value) (M : xM) (Q : Option Value → xM → Prop), xW xSC 50 4 [.ref a0, .ref a1, .ref a2, .int a3, .int a4, a5, a6] (st) M Q = xW xSC 50 6 [.ref a0, .ref a1, .ref a2, .int a3, .int a4, a5, a6] (.int a4 :: st) M Q) ∧
  (∀ (a0 : Nat) (a1 : Nat) (a2 : Nat) (a3 : Int32) (a4 : Int32) (a5 : Value) (a6 : Value) (y0 : Int32) (y1 : Int32) (y2 : Nat) (y3 : Nat) (M : xM) (Q : Option Value → xM → Prop), xW xSC 50 6 [.ref a0, .ref a1, .ref a2, .int a3, .int a4, a5, a6] (.int y0 :: .int y1 :: .ref y2 :: .ref y3 :: .ref 33 :: []) M Q = xW xSC 43 0 [.ref 33, .ref y3, .ref y2, .int y1, .int y0, .null, .null, .null, .null, .null, .null, .null, .null] [] M (fun v M' => xW xSC 50 9 [.ref a0, .ref a1, .ref a2, .int a3, .int a4, a5, a6] (xpush v []) M' Q)) ∧
  (∀ (a0 : Nat) (a1 : Nat) (a2 : Nat) (a3 : Int32) (a4 : Int32) (a5 : Value) (a6 : Value) (st : List Value) (M : xM) (Q : Option Value → xM → Prop), xW xSC 50 9 [.ref a0, .ref a1, .ref a2, .int a3, .int a4, a5, a6] (st) M Q = xW xSC 50 10 [.ref a0, .ref a1, .ref a2, .int a3, .int a4, a5, a6] (.ref a2 :: st) M Q) ∧
  (∀ (a0 : Nat) (a1 : Nat) (a2 : Nat) (a3 : Int32) (a4 : Int32) (a5 : Value) (a6 : Value) (st : List Value) (M : xM) (Q : Option Value → xM → Prop), xW xSC 50 10 [.ref a0, .ref a1, .ref a2, .int a3, .int a4, a5, a6] (.ref 31 :: st) M Q = xW xSC 50 13 [.ref a0, .ref a1, .ref a2, .int a3, .int a4, a5, a6] (.ref 32 :: st) M Q) ∧
  (∀ (a0 : Nat) (a1 : Nat) (a2 : Nat) (a3 : Int32) (a4 : Int32) (a5 : Value) (a6 : Value) (st : List Value) (M : xM) (Q : Option Value → xM → Prop), xW xSC 50 13 [.ref a0, .ref a1, .ref a2, .int a3, .int a4, a5, a6] (st) M Q = xW xSC 50 14 [.ref a0, .ref a1, .ref a2, .int a3, .int a4, a5, a6] (.int (nI 2) :: st) M Q) ∧
  (∀ (a0 : Nat) (a1 : Nat) (a2 : Nat) (a3 : Int32) (a4 : Int32) (a5 : Value) (a6 : Value) (st : List Value) (M : xM) (Q : Option Value → xM → Prop), xW xSC 50 14 [.ref a0, .ref a1, .ref a2, .int a3, .int a4, a5, a6] (st) M Q = xW xSC 50 15 [.ref a0, .ref a1, .ref a2, .int a3, .int a4, a5, a6] (.int a3 :: st) M Q) ∧
  (∀ (a0 : Nat) (a1 : Nat) (a2 : Nat) (a3 : Int32) (a4 : Int32) (a5 : Value) (a6 : Value) (y0 : Int32) (y1 : Int32) (st : List Value) (M : xM) (Q : Option Value → xM → Prop), xW xSC 50 15 [.ref a0, .ref a1, .ref a2, .int a3, .int a4, a5, a6] (.int y0 :: .int y1 :: st) M Q = xW xSC 50 16 [.ref a0, .ref a1, .ref a2, .int a3, .int a4, a5, a6] (.int (y1 * y0) :: st) M Q) ∧
  (∀ (a0 : Nat) (a1 : Nat) (a2 : Nat) (a3 : Int32) (a4 : Int32) (a5 : Value) (a6 : Value) (y0 : Int32) (y1 : Nat) (M : xM) (Q : Option Value → xM → Prop), xW xSC 50 16 [.ref a0, .ref a1, .ref a2, .int a3, .int a4, a5, a6] (.int y0 :: .ref y1 :: []) M Q = xW xSC 0 0 [.ref y1, .int y0] [] M (fun v M' => xW xSC 50 19 [.ref a0, .ref a1, .ref a2, .int a3, .int a4, a5, a6] (xpush v []) M' Q)) ∧
  (∀ (a0 : Nat) (a1 : Nat) (a2 : Nat) (a3 : Int32) (a4 : Int32) (a5 : Value) (a6 : Value) (st : List Value) (M : xM) (Q : Option Value → xM → Prop), xW xSC 50 19 [.ref a0, .ref a1, .ref a2, .int a3, .int a4, a5, a6] (st) M Q = xW xSC 50 20 [.ref a0, .ref a1, .ref a2, .int a3, .int a4, a5, a6] (.ref a2 :: st) M Q) ∧
  (∀ (a0 : Nat) (a1 : Nat) (a2 : Nat) (a3 : Int32) (a4 : Int32) (a5 : Value) (a6 : Value) (st : List Value) (M : xM) (Q : Option Value → xM → Prop), xW xSC 50 20 [.ref a0, .ref a1, .ref a2, .int a3, .int a4, a5, a6] (.ref 31 :: st) M Q = xW xSC 50 23 [.ref a0, .ref a1, .ref a2, .int a3, .int a4, a5, a6] (.ref 32 :: st) M Q) ∧
  (∀ (a0 : Nat) (a1 : Nat) (a2 : Nat) (a3 : Int32) (a4 : Int32) (a5 : Value) (a6 : Value) (st : List Value) (M : xM) (Q : Option Value → xM → Prop), xW xSC 50 23 [.ref a0, .ref a1, .ref a2, .int a3, .int a4, a5, a6] (st) M Q = xW xSC 50 24 [.ref a0, .ref a1, .ref a2, .int a3, .int a4, a5, a6] (.int (nI 2) :: st) M Q) ∧
  (∀ (a0 : Nat) (a1 : Nat) (a2 : Nat) (a3 : Int32) (a4 : Int32) (a5 : Value) (a6 : Value) (st : List Value) (M : xM) (Q : Option Value → xM → Prop), xW xSC 50 24 [.ref a0, .ref a1, .ref a2, .int a3, .int a4, a5, a6] (st) M Q = xW xSC 50 25 [.ref a0, .ref a1, .ref a2, .int a3, .int a4, a5, a6] (.int a3 :: st) M Q) ∧
  (∀ (a0 : Nat) (a1 : Nat) (a2 : Nat) (a3 : Int32) (a4 : Int32) (a5 : Value) (a6 : Value) (y0 : Int32) (y1 : Int32) (st : List Value) (M : xM) (Q : Option Value → xM → Prop), xW xSC 50 25 [.ref a0, .ref a1, .ref a2, .int a3, .int a4, a5, a6] (.int y0 :: .int y1 :: st) M Q = xW xSC 50 26 [.ref a0, .ref a1, .ref a2, .int a3, .int a4, a5, a6] (.int (y1 * y0) :: st) M Q) ∧
  (∀ (a0 : Nat) (a1 : Nat) (a2 : Nat) (a3 : Int32) (a4 : Int32) (a5 : Value) (a6 : Value) (st : List Value) (M : xM) (Q : Option Value → xM → Prop), xW xSC 50 26 [.ref a0, .ref a1, .ref a2, .int a3, .int a4, a5, a6] (st) M Q = xW xSC 50 27 [.ref a0, .ref a1, .ref a2, .int a3, .int a4, a5, a6] (.int (nI 1) :: st) M Q) ∧
  (∀ (a0 : Nat) (a1 : Nat) (a2 : Nat) (a3 : Int32) (a4 : Int32) (a5 : Value) (a6 : Value) (y0 : Int32) (y1 : Int32) (st : List Value) (M : xM) (Q : Option Value → xM → Prop), xW xSC 50 27 [.ref a0, .ref a1, .ref a2, .int a3, .int a4, a5, a6] (.int y0 :: .int y1 :: st) M Q = xW xSC 50 28 [.ref a0, .ref a1, .ref a2, .int a3, .int a4, a5, a6] (.int (y1 + y0) :: st) M Q) ∧
  (∀ (a0 : Nat) (a1 : Nat) (a2 : Nat) (a3 : Int32) (a4 : Int32) (a5 : Value) (a6 : Value) (y0 : Int32) (y1 : Nat) (y2 : Int32) (M : xM) (Q : Option Value → xM → Prop), xW xSC 50 28 [.ref a0, .ref a1, .ref a2, .int a3, .int a4, a5, a6] (.int y0 :: .ref y1 :: .int y2 :: []) M Q = xW xSC 0 0 [.ref y1, .int y0] [] M (fun v M' => xW xSC 50 31 [.ref a0, .ref a1, .ref a2, .int a3, .int a4, a5, a6] (xpush v [.int y2]) M' Q)) ∧
  (∀ (a0 : Nat) (a1 : Nat) (a2 : Nat) (a3 : Int32) (a4 : Int32) (a5 : Value) (a6 : Value) (y0 : Int32) (y1 : Int32) (st : List Value) (M : xM) (Q : Option Value → xM → Prop), xW xSC 50 31 [.ref a0, .ref a1, .ref a2, .int a3, .int a4, a5, a6] (.int y0 :: .int y1 :: st) M Q = xW xSC 50 32 [.ref a0, .ref a1, .ref a2, .int a3, .int a4, a5, a6] (.int (y1 + y0) :: st) M Q) ∧
  (∀ (a0 : Nat) (a1 : Nat) (a2 : Nat) (a3 : Int32) (a4 : Int32) (a5 : Value) (a6 : Value) (y0 : Int32) (st : List Value) (M : xM) (Q : Option Value → xM → Prop), xW xSC 50 32 [.ref a0, .ref a1, .ref a2, .int a3, .int a4, a5, a6] (.int y0 :: st) M Q = xW xSC 50 34 [.ref a0, .ref a1, .ref a2, .int a3, .int a4, .int y0, a6] (st) M Q) ∧
  (∀ (a0 : Nat) (a1 : Nat) (a2 : Nat) (a3 : Int32) (a4 : Int32) (a5 : Int32) (a6 : Value) (st : List Value) (M : xM) (Q : Option Value → xM → Prop), xW xSC 50 34 [.ref a0, .ref a1, .ref a2, .int a3, .int a4, .int a5, a6] (st) M Q = xW xSC 50 35 [.ref a0, .ref a1, .ref a2, .int a3, .int a4, .int a5, a6] (.ref a1 :: st) M Q) ∧
  (∀ (a0 : Nat) (a1 : Nat) (a2 : Nat) (a3 : Int32) (a4 : Int32) (a5 : Int32) (a6 : Value) (st : List Value) (M : xM) (Q : Option Value → xM → Prop), xW xSC 50 35 [.ref a0, .ref a1, .ref a2, .int a3, .int a4, .int a5, a6] (st) M Q = xW xSC 50 36 [.ref a0, .ref a1, .ref a2, .int a3, .int a4, .int a5, a6] (.int a3 :: st) M Q) ∧
  (∀ (a0 : Nat) (a1 : Nat) (a2 : Nat) (a3 : Int32) (a4 : Int32) (a5 : Int32) (a6 : Value) (st : List Value) (M : xM) (Q : Option Value → xM → Prop), xW xSC 50 36 [.ref a0, .ref a1, .ref a2, .int a3, .int a4, .int a5, a6] (st) M Q = xW xSC 50 37 [.ref a0, .ref a1, .ref a2, .int a3, .int a4, .int a5, a6] (.int (nI 3) :: st) M Q) ∧
  (∀ (a0 : Nat) (a1 : Nat) (a2 : Nat) (a3 : Int32) (a4 : Int32) (a5 : Int32) (a6 : Value) (y0 : Int32) (y1 : Int32) (M : xM) (Q : Option Value → xM → Prop), xW xSC 50 37 [.ref a0, .ref a1, .ref a2, .int a3, .int a4, .int a5, a6] (.int y0 :: .int y1 :: .ref 9 :: []) M Q = xW xSC 28 0 [.ref 9, .int y1, .int y0] [] M (fun v M' => xW xSC 50 40 [.ref a0, .ref a1, .ref a2, .int a3, .int a4, .int a5, a6] (xpush v []) M' Q)) ∧
  (∀ (a0 : Nat) (a1 : Nat) (a2 : Nat) (a3 : Int32) (a4 : Int32) (a5 : Int32) (a6 : Value) (y0 : Int32) (st : List Value) (M : xM) (Q : Option Value → xM → Prop), xW xSC 50 40 [.ref a0, .ref a1, .ref a2, .int a3, .int a4, .int a5, a6] (.int y0 :: st) M Q = xW xSC 50 42 [.ref a0, .ref a1, .ref a2, .int a3, .int a4, .int a5, .int y0] (st) M Q) ∧
  (∀ (a0 : Nat) (a1 : Nat) (a2 : Nat) (a3 : Int32) (a4 : Int32) (a5 : Int32) (a6 : Int32) (st : List Value) (M : xM) (Q : Option Value → xM → Prop), xW xSC 50 42 [.ref a0, .ref a1, .ref a2, .int a3, .int a4, .int a5, .int a6] (st) M Q = xW xSC 50 43 [.ref a0, .ref a1, .ref a2, .int a3, .int a4, .int a5, .int a6] (.ref a0 :: st) M Q) ∧
  (∀ (a0 : Nat) (a1 : Nat) (a2 : Nat) (a3 : Int32) (a4 : Int32) (a5 : Int32) (a6 : Int32) (st : List Value) (M : xM) (Q : Option Value → xM → Prop), xW xSC 50 43 [.ref a0, .ref a1, .ref a2, .int a3, .int a4, .int a5, .int a6] (st) M Q = xW xSC 50 44 [.ref a0, .ref a1, .ref a2, .int a3, .int a4, .int a5, .int a6] (.ref a1 :: st) M Q) ∧
  (∀ (a0 : Nat) (a1 : Nat) (a2 : Nat) (a3 : Int32) (a4 : Int32) (a5 : Int32) (a6 : Int32) (st : List Value) (M : xM) (Q : Option Value → xM → Prop), xW xSC 50 44 [.ref a0, .ref a1, .ref a2, .int a3, .int a4, .int a5, .int a6] (st) M Q = xW xSC 50 45 [.ref a0, .ref a1, .ref a2, .int a3, .int a4, .int a5, .int a6] (.int a3 :: st) M Q) ∧
  (∀ (a0 : Nat) (a1 : Nat) (a2 : Nat) (a3 : Int32) (a4 : Int32) (a5 : Int32) (a6 : Int32) (st : List Value) (M : xM) (Q : Option Value → xM → Prop), xW xSC 50 45 [.ref a0, .ref a1, .ref a2, .int a3, .int a4, .int a5, .int a6] (st) M Q = xW xSC 50 47 [.ref a0, .ref a1, .ref a2, .int a3, .int a4, .int a5, .int a6] (.int a4 :: st) M Q) ∧
  (∀ (a0 : Nat) (a1 : Nat) (a2 : Nat) (a3 : Int32) (a4 : Int32) (a5 : Int32) (a6 : Int32) (y0 : Int32) (y1 : Int32) (y3 : Nat) (M : xM) (Q : Option Value → xM → Prop), xW xSC 50 47 [.ref a0, .ref a1, .ref a2, .int a3, .int a4, .int a5, .int a6] (.int y0 :: .int y1 :: .ref 9 :: .ref y3 :: []) M Q = xW xSC 37 0 [.ref 9, .int y1, .int y0] [] M (fun v M' => xW xSC 50 50 [.ref a0, .ref a1, .ref a2, .int a3, .int a4, .int a5, .int a6] (xpush v [.ref y3]) M' Q)) ∧
  (∀ (a0 : Nat) (a1 : Nat) (a2 : Nat) (a3 : Int32) (a4 : Int32) (a5 : Int32) (a6 : Int32) (st : List Value) (M : xM) (Q : Option Value → xM → Prop), xW xSC 50 50 [.ref a0, .ref a1, .ref a2, .int a3, .int a4, .int a5, .int a6] (st) M Q = xW xSC 50 51 [.ref a0, .ref a1, .ref a2, .int a3, .int a4, .int a5, .int a6] (.ref a2 :: st) M Q) ∧
  (∀ (a0 : Nat) (a1 : Nat) (a2 : Nat) (a3 : Int32) (a4 : Int32) (a5 : Int32) (a6 : Int32) (st : List Value) (M : xM) (Q : Option Value → xM → Prop), xW xSC 50 51 [.ref a0, .ref a1, .ref a2, .int a3, .int a4, .int a5, .int a6] (.ref 31 :: st) M Q = xW xSC 50 54 [.ref a0, .ref a1, .ref a2, .int a3, .int a4, .int a5, .int a6] (.int (M 31 1) :: st) M Q) ∧
  (∀ (a0 : Nat) (a1 : Nat) (a2 : Nat) (a3 : Int32) (a4 : Int32) (a5 : Int32) (a6 : Int32) (st : List Value) (M : xM) (Q : Option Value → xM → Prop), xW xSC 50 54 [.ref a0, .ref a1, .ref a2, .int a3, .int a4, .int a5, .int a6] (st) M Q = xW xSC 50 56 [.ref a0, .ref a1, .ref a2, .int a3, .int a4, .int a5, .int a6] (.int a6 :: st) M Q) ∧
  (∀ (a0 : Nat) (a1 : Nat) (a2 : Nat) (a3 : Int32) (a4 : Int32) (a5 : Int32) (a6 : Int32) (st : List Value) (M : xM) (Q : Option Value → xM → Prop), xW xSC 50 56 [.ref a0, .ref a1, .ref a2, .int a3, .int a4, .int a5, .int a6] (st) M Q = xW xSC 50 58 [.ref a0, .ref a1, .ref a2, .int a3, .int a4, .int a5, .int a6] (.int a5 :: st) M Q) ∧
  (∀ (a0 : Nat) (a1 : Nat) (a2 : Nat) (a3 : Int32) (a4 : Int32) (a5 : Int32) (a6 : Int32) (y0 : Int32) (y1 : Int32) (y2 : Int32) (y3 : Int32) (M : xM) (Q : Option Value → xM → Prop), xW xSC 50 58 [.ref a0, .ref a1, .ref a2, .int a3, .int a4, .int a5, .int a6] (.int y0 :: .int y1 :: .int y2 :: .int y3 :: .ref 33 :: []) M Q = xW xSC 51 0 [.ref 33, .int y3, .int y2, .int y1, .int y0, .null, .null] [] M (fun v M' => xW xSC 50 61 [.ref a0, .ref a1, .ref a2, .int a3, .int a4, .int a5, .int a6] (xpush v []) M' Q)) ∧
  (∀ (a0 : Nat) (a1 : Nat) (a2 : Nat) (a3 : Int32) (a4 : Int32) (a5 : Int32) (a6 : Int32) (M : xM) (Q : Option Value → xM → Prop), xW xSC 50 61 [.ref a0, .ref a1, .ref a2, .int a3, .int a4, .int a5, .int a6] ([]) M Q = Q none M) ∧
  (∀ (a0 : Nat) (a1 : Nat) (a2 : Nat) (a3 : Int32) (a4 : Int32) (a5 : Value) (a6 : Value) (y0 : Int32) (y1 : Int32) (y2 : Nat) (y3 : Nat) (M : xM) (Q : Option Value → xM → Prop), xW xSC 50 6 [.ref a0, .ref a1, .ref a2, .int a3, .int a4, a5, a6] (.int y0 :: .int y1 :: .ref y2 :: .ref y3 :: .ref 35 :: []) M Q = xW xSC 43 0 [.ref 35, .ref y3, .ref y2, .int y1, .int y0, .null, .null, .null, .null, .null, .null, .null, .null] [] M (fun v M' => xW xSC 50 9 [.ref a0, .ref a1, .ref a2, .int a3, .int a4, a5, a6] (xpush v []) M' Q)) ∧
  (∀ (a0 : Nat) (a1 : Nat) (a2 : Nat) (a3 : Int32) (a4 : Int32) (a5 : Int32) (a6 : Int32) (y0 : Int32) (y1 : Int32) (y2 : Int32) (y3 : Int32) (M : xM) (Q : Option Value → xM → Prop), xW xSC 50 58 [.ref a0, .ref a1, .ref a2, .int a3, .int a4, .int a5, .int a6] (.int y0 :: .int y1 :: .int y2 :: .int y3 :: .ref 35 :: []) M Q = xW xSC 51 0 [.ref 35, .int y3, .int y2, .int y1, .int y0, .null, .null] [] M (fun v M' => xW xSC 50 61 [.ref a0, .ref a1, .ref a2, .int a3, .int a4, .int a5, .int a6] (xpush v []) M' Q)) ∧
  (∀ (a0 : Nat) (a1 : Nat) (a2 : Nat) (a3 : Int32) (a4 : Int32) (a5 : Value) (a6 : Value) (y0 : Int32) (y1 : Int32) (y2 : Nat) (y3 : Nat) (M : xM) (Q : Option Value → xM → Prop), xW xSC 50 6 [.ref a0, .ref a1, .ref a2, .int a3, .int a4, a5, a6] (.int y0 :: .int y1 :: .ref y2 :: .ref y3 :: .ref 40 :: []) M Q = xW xSC 43 0 [.ref 40, .ref y3, .ref y2, .int y1, .int y0, .null, .null, .null, .null, .null, .null, .null, .null] [] M (fun v M' => xW xSC 50 9 [.ref a0, .ref a1, .ref a2, .int a3, .int a4, a5, a6] (xpush v []) M' Q)) ∧
  (∀ (a0 : Nat) (a1 : Nat) (a2 : Nat) (a3 : Int32) (a4 : Int32) (a5 : Int32) (a6 : Int32) (y0 : Int32) (y1 : Int32) (y2 : Int32) (y3 : Int32) (M : xM) (Q : Option Value → xM → Prop), xW xSC 50 58 [.ref a0, .ref a1, .ref a2, .int a3, .int a4, .int a5, .int a6] (.int y0 :: .int y1 :: .int y2 :: .int y3 :: .ref 40 :: []) M Q = xW xSC 51 0 [.ref 40, .int y3, .int y2, .int y1, .int y0, .null, .null] [] M (fun v M' => xW xSC 50 61 [.ref a0, .ref a1, .ref a2, .int a3, .int a4, .int a5, .int a6] (xpush v []) M' Q)) :=
  ⟨fun a0 a1 a2 a3 a4 a5 a6 st M Q => xw_s rfl rfl,
  fun a0 a1 a2 a3 a4 a5 a6 st M Q => xw_s rfl rfl,
  fun a0 a1 a2 a3 a4 a5 a6 st M Q => xw_s rfl rfl,
  fun a0 a1 a2 a3 a4 a5 a6 st M Q => xw_s rfl rfl,
  fun a0 a1 a2 a3 a4 a5 a6 st M Q => xw_s rfl rfl,
  fun a0 a1 a2 a3 a4 a5 a6 y0 y1 y2 y3 M Q => xw_call rfl rfl rfl,
  fun a0 a1 a2 a3 a4 a5 a6 st M Q => xw_s rfl rfl,
  fun a0 a1 a2 a3 a4 a5 a6 st M Q => xw_s rfl rfl,
  fun a0 a1 a2 a3 a4 a5 a6 st M Q => xw_s rfl rfl,
  fun a0 a1 a2 a3 a4 a5 a6 st M Q => xw_s rfl rfl,
  fun a0 a1 a2 a3 a4 a5 a6 y0 y1 st M Q => xw_s rfl rfl,
  fun a0 a1 a2 a3 a4 a5 a6 y0 y1 M Q => xw_call rfl rfl rfl,
  fun a0 a1 a2 a3 a4 a5 a6 st M Q => xw_s rfl rfl,
  fun a0 a1 a2 a3 a4 a5 a6 st M Q => xw_s rfl rfl,
  fun a0 a1 a2 a3 a4 a5 a6 st M Q => xw_s rfl rfl,
  fun a0 a1 a2 a3 a4 a5 a6 st M Q => xw_s rfl rfl,
  fun a0 a1 a2 a3 a4 a5 a6 y0 y1 st M Q => xw_s rfl rfl,
  fun a0 a1 a2 a3 a4 a5 a6 st M Q => xw_s rfl rfl,
  fun a0 a1 a2 a3 a4 a5 a6 y0 y1 st M Q => xw_s rfl rfl,
  fun a0 a1 a2 a3 a4 a5 a6 y0 y1 y2 M Q => xw_call rfl rfl rfl,
  fun a0 a1 a2 a3 a4 a5 a6 y0 y1 st M Q => xw_s rfl rfl,
  fun a0 a1 a2 a3 a4 a5 a6 y0 st M Q => xw_s rfl rfl,
  fun a0 a1 a2 a3 a4 a5 a6 st M Q => xw_s rfl rfl,
  fun a0 a1 a2 a3 a4 a5 a6 st M Q => xw_s rfl rfl,
  fun a0 a1 a2 a3 a4 a5 a6 st M Q => xw_s rfl rfl,
  fun a0 a1 a2 a3 a4 a5 a6 y0 y1 M Q => xw_call rfl rfl rfl,
  fun a0 a1 a2 a3 a4 a5 a6 y0 st M Q => xw_s rfl rfl,
  fun a0 a1 a2 a3 a4 a5 a6 st M Q => xw_s rfl rfl,
  fun a0 a1 a2 a3 a4 a5 a6 st M Q => xw_s rfl rfl,
  fun a0 a1 a2 a3 a4 a5 a6 st M Q => xw_s rfl rfl,
  fun a0 a1 a2 a3 a4 a5 a6 st M Q => xw_s rfl rfl,
  fun a0 a1 a2 a3 a4 a5 a6 y0 y1 y3 M Q => xw_call rfl rfl rfl,
  fun a0 a1 a2 a3 a4 a5 a6 st M Q => xw_s rfl rfl,
  fun a0 a1 a2 a3 a4 a5 a6 st M Q => xw_s rfl rfl,
  fun a0 a1 a2 a3 a4 a5 a6 st M Q => xw_s rfl rfl,
  fun a0 a1 a2 a3 a4 a5 a6 st M Q => xw_s rfl rfl,
  fun a0 a1 a2 a3 a4 a5 a6 y0 y1 y2 y3 M Q => xw_call rfl rfl rfl,
  fun a0 a1 a2 a3 a4 a5 a6 M Q => xw_retv rfl rfl,
  fun a0 a1 a2 a3 a4 a5 a6 y0 y1 y2 y3 M Q => xw_call rfl rfl rfl,
  fun a0 a1 a2 a3 a4 a5 a6 y0 y1 y2 y3 M Q => xw_call rfl rfl rfl,
  fun a0 a1 a2 a3 a4 a5 a6 y0 y1 y2 y3 M Q => xw_call rfl rfl rfl,
  fun a0 a1 a2 a3 a4 a5 a6 y0 y1 y2 y3 M Q => xw_call rfl rfl rfl⟩
theorem j50 : True := trivial

set_option maxRecDepth 20000 in
theorem s51 :
  (∀ (a0 : Nat) (a1 : Int32) (a2 : Int32) (a3 : Int32) (a4 : Int32) (a5 : Value) (a6 : Value) (st : List Value) (M : xM) (Q : Option Value → xM → Prop), xW xSC 51 0 [.ref a0, .int a1, .int a2, .int a3, .int a4, a5, a6] (st) M Q = xW xSC 51 1 [.ref a0, .int a1, .int a2, .int a3, .int a4, a5, a6] (.ref a0 :: st) M Q) ∧
  (∀ (a0 : Nat) (a1 : Int32) (a2 : Int32) (a3 : Int32) (a4 : Int32) (a5 : Value) (a6 : Value) (st : List Value) (M : xM) (Q : Option Value → xM → Prop), xW xSC 51 1 [.ref a0, .int a1, .int a2, .int a3, .int a4, a5, a6] (.ref 33 :: st) M Q = xW xSC 51 4 [.ref a0, .int a1, .int a2, .int a3, .int a4, a5, a6] (.int (M 33 0) :: st) M Q) ∧
  (∀ (a0 : Nat) (a1 : Int32) (a2 : Int32) (a3 : Int32) (a4 : Int32) (a5 : Value) (a6 : Value) (st : List Value) (M : xM) (Q : Option Value → xM → Prop), xW xSC 51 4 [.ref a0, .int a1, .int a2, .int a3, .int a4, a5, a6] (st) M Q = xW xSC 51 5 [.ref a0, .int a1, .int a2, .int a3, .int a4, a5, a6] (.ref a0 :: st) M Q) ∧
  (∀ (a0 : Nat) (a1 : Int32) (a2 : Int32) (a3 : Int32) (a4 : Int32) (a5 : Value) (a6 : Value) (st : List Value) (M : xM) (Q : Option Value → xM → Prop), xW xSC 51 5 [.ref a0, .int a1, .int a2, .int a3, .int a4, a5, a6] (.ref 33 :: st) M Q = xW xSC 51 8 [.ref a0, .int a1, .int a2, .int a3, .int a4, a5, a6] (.int (M 33 1) :: st) M Q) ∧
  (∀ (a0 : Nat) (a1 : Int32) (a2 : Int32) (a3 : Int32) (a4 : Int32) (a5 : Value) (a6 : Value) (y0 : Int32) (y1 : Int32) (st : List Value) (M : xM) (Q : Option Value → xM → Prop), xW xSC 51 8 [.ref a0, .int a1, .int a2, .int a3, .int a4, a5, a6] (.int y0 :: .int y1 :: st) M Q = xW xSC 51 9 [.ref a0, .int a1, .int a2, .int a3, .int a4, a5, a6] (.int (y1 + y0) :: st) M Q) ∧
  (∀ (a0 : Nat) (a1 : Int32) (a2 : Int32) (a3 : Int32) (a4 : Int32) (a5 : Value) (a6 : Value) (y0 : Int32) (st : List Value) (M : xM) (Q : Option Value → xM → Prop), xW xSC 51 9 [.ref a0, .int a1, .int a2, .int a3, .int a4, a5, a6] (.int y0 :: st) M Q = xW xSC 51 11 [.ref a0, .int a1, .int a2, .int a3, .int a4, .int y0, a6] (st) M Q) ∧
  (∀ (a0 : Nat) (a1 : Int32) (a2 : Int32) (a3 : Int32) (a4 : Int32) (a5 : Int32) (a6 : Value) (st : List Value) (M : xM) (Q : Option Value → xM → Prop), xW xSC 51 11 [.ref a0, .int a1, .int a2, .int a3, .int a4, .int a5, a6] (st) M Q = xW xSC 51 12 [.ref a0, .int a1, .int a2, .int a3, .int a4, .int a5, a6] (.ref a0 :: st) M Q) ∧
  (∀ (a0 : Nat) (a1 : Int32) (a2 : Int32) (a3 : Int32) (a4 : Int32) (a5 : Int32) (a6 : Value) (st : List Value) (M : xM) (Q : Option Value → xM → Prop), xW xSC 51 12 [.ref a0, .int a1, .int a2, .int a3, .int a4, .int a5, a6] (st) M Q = xW xSC 51 13 [.ref a0, .int a1, .int a2, .int a3, .int a4, .int a5, a6] (.int a2 :: st) M Q) ∧
  (∀ (a0 : Nat) (a1 : Int32) (a2 : Int32) (a3 : Int32) (a4 : Int32) (a5 : Int32) (a6 : Value) (y0 : Int32) (st : List Value) (M : xM) (Q : Option Value → xM → Prop), xW xSC 51 13 [.ref a0, .int a1, .int a2, .int a3, .int a4, .int a5, a6] (.int y0 :: st) M Q = if y0 = nI 0 then xW xSC 51 20 [.ref a0, .int a1, .int a2, .int a3, .int a4, .int a5, a6] (st) M Q else xW xSC 51 16 [.ref a0, .int a1, .int a2, .int a3, .int a4, .int a5, a6] (st) M Q) ∧
  (∀ (a0 : Nat) (a1 : Int32) (a2 : Int32) (a3 : Int32) (a4 : Int32) (a5 : Int32) (a6 : Value) (st : List Value) (M : xM) (Q : Option Value → xM → Prop), xW xSC 51 16 [.ref a0, .int a1, .int a2, .int a3, .int a4, .int a5, a6] (st) M Q = xW xSC 51 17 [.ref a0, .int a1, .int a2, .int a3, .int a4, .int a5, a6] (.int (nI 0) :: st) M Q) ∧
  (∀ (a0 : Nat) (a1 : Int32) (a2 : Int32) (a3 : Int32) (a4 : Int32) (a5 : Int32) (a6 : Value) (st : List Value) (M : xM) (Q : Option Value → xM → Prop), xW xSC 51 17 [.ref a0, .int a1, .int a2, .int a3, .int a4, .int a5, a6] (st) M Q = xW xSC 51 25 [.ref a0, .int a1, .int a2, .int a3, .int a4, .int a5, a6] (st) M Q) ∧
  (∀ (a0 : Nat) (a1 : Int32) (a2 : Int32) (a3 : Int32) (a4 : Int32) (a5 : Int32) (a6 : Value) (st : List Value) (M : xM) (Q : Option Value → xM → Prop), xW xSC 51 20 [.ref a0, .int a1, .int a2, .int a3, .int a4, .int a5, a6] (st) M Q = xW xSC 51 21 [.ref a0, .int a1, .int a2, .int a3, .int a4, .int a5, a6] (.ref a0 :: st) M Q) ∧
  (∀ (a0 : Nat) (a1 : Int32) (a2 : Int32) (a3 : Int32) (a4 : Int32) (a5 : Int32) (a6 : Value) (st : List Value) (M : xM) (Q : Option Value → xM → Prop), xW xSC 51 21 [.ref a0, .int a1, .int a2, .int a3, .int a4, .int a5, a6] (st) M Q = xW xSC 51 22 [.ref a0, .int a1, .int a2, .int a3, .int a4, .int a5, a6] (.int a1 :: st) M Q) ∧
  (∀ (a0 : Nat) (a1 : Int32) (a2 : Int32) (a3 : Int32) (a4 : Int32) (a5 : Int32) (a6 : Value) (y0 : Int32) (y2 : Nat) (M : xM) (Q : Option Value → xM → Prop), xW xSC 51 22 [.ref a0, .int a1, .int a2, .int a3, .int a4, .int a5, a6] (.int y0 :: .ref 33 :: .ref y2 :: []) M Q = xW xSC 52 0 [.ref 33, .int y0] [] M (fun v M' => xW xSC 51 25 [.ref a0, .int a1, .int a2, .int a3, .int a4, .int a5, a6] (xpush v [.ref y2]) M' Q)) ∧
  (∀ (a0 : Nat) (a1 : Int32) (a2 : Int32) (a3 : Int32) (a4 : Int32) (a5 : Int32) (a6 : Value) (st : List Value) (M : xM) (Q : Option Value → xM → Prop), xW xSC 51 28 [.ref a0, .int a1, .int a2, .int a3, .int a4, .int a5, a6] (st) M Q = xW xSC 51 29 [.ref a0, .int a1, .int a2, .int a3, .int a4, .int a5, a6] (.ref a0 :: st) M Q) ∧
  (∀ (a0 : Nat) (a1 : Int32) (a2 : Int32) (a3 : Int32) (a4 : Int32) (a5 : Int32) (a6 : Value) (st : List Value) (M : xM) (Q : Option Value → xM → Prop), xW xSC 51 29 [.ref a0, .int a1, .int a2, .int a3, .int a4, .int a5, a6] (st) M Q = xW xSC 51 31 [.ref a0, .int a1, .int a2, .int a3, .int a4, .int a5, a6] (.int a5 :: st) M Q) ∧
  (∀ (a0 : Nat) (a1 : Int32) (a2 : Int32) (a3 : Int32) (a4 : Int32) (a5 : Int32) (a6 : Value) (y0 : Int32) (st : List Value) (M : xM) (Q : Option Value → xM → Prop), xW xSC 51 31 [.ref a0, .int a1, .int a2, .int a3, .int a4, .int a5, a6] (.int y0 :: .ref 33 :: st) M Q = xW xSC 51 34 [.ref a0, .int a1, .int a2, .int a3, .int a4, .int a5, a6] (st) (xup M 33 3 y0) Q) ∧
  (∀ (a0 : Nat) (a1 : Int32) (a2 : Int32) (a3 : Int32) (a4 : Int32) (a5 : Int32) (a6 : Value) (st : List Value) (M : xM) (Q : Option Value → xM → Prop), xW xSC 51 34 [.ref a0, .int a1, .int a2, .int a3, .int a4, .int a5, a6] (st) M Q = xW xSC 51 35 [.ref a0, .int a1, .int a2, .int a3, .int a4, .int a5, a6] (.int a3 :: st) M Q) ∧
  (∀ (a0 : Nat) (a1 : Int32) (a2 : Int32) (a3 : Int32) (a4 : Int32) (a5 : Int32) (a6 : Value) (st : List Value) (M : xM) (Q : Option Value → xM → Prop), xW xSC 51 35 [.ref a0, .int a1, .int a2, .int a3, .int a4, .int a5, a6] (st) M Q = xW xSC 51 36 [.ref a0, .int a1, .int a2, .int a3, .int a4, .int a5, a6] (.int (nI 2) :: st) M Q) ∧
  (∀ (a0 : Nat) (a1 : Int32) (a2 : Int32) (a3 : Int32) (a4 : Int32) (a5 : Int32) (a6 : Value) (y0 : Int32) (y1 : Int32) (st : List Value) (M : xM) (Q : Option Value → xM → Prop), xW xSC 51 36 [.ref a0, .int a1, .int a2, .int a3, .int a4, .int a5, a6] (.int y0 :: .int y1 :: st) M Q = if y1 = y0 then xW xSC 51 39 [.ref a0, .int a1, .int a2, .int a3, .int a4, .int a5, a6] (st) M Q else xW xSC 51 68 [.ref a0, .int a1, .int a2, .int a3, .int a4, .int a5, a6] (st) M Q) ∧
  (∀ (a0 : Nat) (a1 : Int32) (a2 : Int32) (a3 : Int32) (a4 : Int32) (a5 : Int32) (a6 : Value) (st : List Value) (M : xM) (Q : Option Value → xM → Prop), xW xSC 51 39 [.ref a0, .int a1, .int a2, .int a3, .int a4, .int a5, a6] (st) M Q = xW xSC 51 40 [.ref a0, .int a1, .int a2, .int a3, .int a4, .int a5, a6] (.int (nI 2) :: st) M Q) ∧
  (∀ (a0 : Nat) (a1 : Int32) (a2 : Int32) (a3 : Int32) (a4 : Int32) (a5 : Int32) (a6 : Value) (st : List Value) (M : xM) (Q : Option Value → xM → Prop), xW xSC 51 40 [.ref a0, .int a1, .int a2, .int a3, .int a4, .int a5, a6] (st) M Q = xW xSC 51 42 [.ref a0, .int a1, .int a2, .int a3, .int a4, .int a5, a6] (.int a4 :: st) M Q) ∧
  (∀ (a0 : Nat) (a1 : Int32) (a2 : Int32) (a3 : Int32) (a4 : Int32) (a5 : Int32) (a6 : Value) (y0 : Int32) (y1 : Int32) (st : List Value) (M : xM) (Q : Option Value → xM → Prop), xW xSC 51 42 [.ref a0, .int a1, .int a2, .int a3, .int a4, .int a5, a6] (.int y0 :: .int y1 :: st) M Q = xW xSC 51 43 [.ref a0, .int a1, .int a2, .int a3, .int a4, .int a5, a6] (.int (y1 + y0) :: st) M Q) ∧
  (∀ (a0 : Nat) (a1 : Int32) (a2 : Int32) (a3 : Int32) (a4 : Int32) (a5 : Int32) (a6 : Value) (y0 : Int32) (st : List Value) (M : xM) (Q : Option Value → xM → Prop), xW xSC 51 43 [.ref a0, .int a1, .int a2, .int a3, .int a4, .int a5, a6] (.int y0 :: st) M Q = xW xSC 51 45 [.ref a0, .int a1, .int a2, .int a3, .int a4, .int a5, .int y0] (st) M Q) ∧
  (∀ (a0 : Nat) (a1 : Int32) (a2 : Int32) (a3 : Int32) (a4 : Int32) (a5 : Int32) (a6 : Int32) (st : List Value) (M : xM) (Q : Option Value → xM → Prop), xW xSC 51 45 [.ref a0, .int a1, .int a2, .int a3, .int a4, .int a5, .int a6] (st) M Q = xW xSC 51 46 [.ref a0, .int a1, .int a2, .int a3, .int a4, .int a5, .int a6] (.ref a0 :: st) M Q) ∧
  (∀ (a0 : Nat) (a1 : Int32) (a2 : Int32) (a3 : Int32) (a4 : Int32) (a5 : Int32) (a6 : Int32) (st : List Value) (M : xM) (Q : Option Value → xM → Prop), xW xSC 51 46 [.ref a0, .int a1, .int a2, .int a3, .int a4, .int a5, .int a6] (st) M Q = xW xSC 51 47 [.ref a0, .int a1, .int a2, .int a3, .int a4, .int a5, .int a6] (.ref a0 :: st) M Q) ∧
  (∀ (a0 : Nat) (a1 : Int32) (a2 : Int32) (a3 : Int32) (a4 : Int32) (a5 : Int32) (a6 : Int32) (st : List Value) (M : xM) (Q : Option Value → xM → Prop), xW xSC 51 47 [.ref a0, .int a1, .int a2, .int a3, .int a4, .int a5, .int a6] (.ref 33 :: st) M Q = xW xSC 51 50 [.ref a0, .int a1, .int a2, .int a3, .int a4, .int a5, .int a6] (.int (M 33 2) :: st) M Q) ∧
  (∀ (a0 : Nat) (a1 : Int32) (a2 : Int32) (a3 : Int32) (a4 : Int32) (a5 : Int32) (a6 : Int32) (st : List Value) (M : xM) (Q : Option Value → xM → Prop), xW xSC 51 50 [.ref a0, .int a1, .int a2, .int a3, .int a4, .int a5, .int a6] (st) M Q = xW xSC 51 52 [.ref a0, .int a1, .int a2, .int a3, .int a4, .int a5, .int a6] (.int a6 :: st) M Q) ∧
  (∀ (a0 : Nat) (a1 : Int32) (a2 : Int32) (a3 : Int32) (a4 : Int32) (a5 : Int32) (a6 : Int32) (y0 : Int32) (y1 : Int32) (st : List Value) (M : xM) (Q : Option Value → xM → Prop), xW xSC 51 52 [.ref a0, .int a1, .int a2, .int a3, .int a4, .int a5, .int a6] (.int y0 :: .int y1 :: st) M Q = xW xSC 51 53 [.ref a0, .int a1, .int a2, .int a3, .int a4, .int a5, .int a6] (.int (y1 * y0) :: st) M Q) ∧
  (∀ (a0 : Nat) (a1 : Int32) (a2 : Int32) (a3 : Int32) (a4 : Int32) (a5 : Int32) (a6 : Int32) (st : List Value) (M : xM) (Q : Option Value → xM → Prop), xW xSC 51 53 [.ref a0, .int a1, .int a2, .int a3, .int a4, .int a5, .int a6] (st) M Q = xW xSC 51 55 [.ref a0, .int a1, .int a2, .int a3, .int a4, .int a5, .int a6] (.int a5 :: st) M Q) ∧
  (∀ (a0 : Nat) (a1 : Int32) (a2 : Int32) (a3 : Int32) (a4 : Int32) (a5 : Int32) (a6 : Int32) (y0 : Int32) (y1 : Int32) (st : List Value) (M : xM) (Q : Option Value → xM → Prop), xW xSC 51 55 [.ref a0, .int a1, .int a2, .int a3, .int a4, .int a5, .int a6] (.int y0 :: .int y1 :: st) M Q = xW xSC 51 56 [.ref a0, .int a1, .int a2, .int a3, .int a4, .int a5, .int a6] (.int (y1 + y0) :: st) M Q) ∧
  (∀ (a0 : Nat) (a1 : Int32) (a2 : Int32) (a3 : Int32) (a4 : Int32) (a5 : Int32) (a6 : Int32) (y0 : Int32) (st : List Value) (M : xM) (Q : Option Value → xM → Prop), xW xSC 51 56 [.ref a0, .int a1, .int a2, .int a3, .int a4, .int a5, .int a6] (.int y0 :: .ref 33 :: st) M Q = xW xSC 51 59 [.ref a0, .int a1, .int a2, .int a3, .int a4, .int a5, .int a6] (st) (xup M 33 2 y0) Q) ∧
  (∀ (a0 : Nat) (a1 : Int32) (a2 : Int32) (a3 : Int32) (a4 : Int32) (a5 : Int32) (a6 : Int32) (st : List Value) (M : xM) (Q : Option Value → xM → Prop), xW xSC 51 59 [.ref a0, .int a1, .int a2, .int a3, .int a4, .int a5, .int a6] (st) M Q = xW xSC 51 60 [.ref a0, .int a1, .int a2, .int a3, .int a4, .int a5, .int a6] (.ref a0 :: st) M Q) ∧
  (∀ (a0 : Nat) (a1 : Int32) (a2 : Int32) (a3 : Int32) (a4 : Int32) (a5 : Int32) (a6 : Int32) (st : List Value) (M : xM) (Q : Option Value → xM → Prop), xW xSC 51 60 [.ref a0, .int a1, .int a2, .int a3, .int a4, .int a5, .int a6] (st) M Q = xW xSC 51 62 [.ref a0, .int a1, .int a2, .int a3, .int a4, .int a5, .int a6] (.int a5 :: st) M Q) ∧
  (∀ (a0 : Nat) (a1 : Int32) (a2 : Int32) (a3 : Int32) (a4 : Int32) (a5 : Int32) (a6 : Int32) (st : List Value) (M : xM) (Q : Option Value → xM → Prop), xW xSC 51 62 [.ref a0, .int a1, .int a2, .int a3, .int a4, .int a5, .int a6] (st) M Q = xW xSC 51 64 [.ref a0, .int a1, .int a2, .int a3, .int a4, .int a5, .int a6] (.int a6 :: st) M Q) ∧
  (∀ (a0 : Nat) (a1 : Int32) (a2 : Int32) (a3 : Int32) (a4 : Int32) (a5 : Int32) (a6 : Int32) (y0 : Int32) (y1 : Int32) (st : List Value) (M : xM) (Q : Option Value → xM → Prop), xW xSC 51 64 [.ref a0, .int a1, .int a2, .int a3, .int a4, .int a5, .int a6] (.int y0 :: .int y1 :: st) M Q = xW xSC 51 65 [.ref a0, .int a1, .int a2, .int a3, .int a4, .int a5, .int a6] (.int (y1 * y0) :: st) M Q) ∧
  (∀ (a0 : Nat) (a1 : Int32) (a2 : Int32) (a3 : Int32) (a4 : Int32) (a5 : Int32) (a6 : Int32) (y0 : Int32) (st : List Value) (M : xM) (Q : Option Value → xM → Prop), xW xSC 51 65 [.ref a0, .int a1, .int a2, .int a3, .int a4, .int a5, .int a6] (.int y0 :: .ref 33 :: st) M Q = xW xSC 51 68 [.ref a0, .int a1, .int a2, .int a3, .int a4, .int a5, .int a6] (st) (xup M 33 3 y0) Q) ∧
  (∀ (a0 : Nat) (a1 : Int32) (a2 : Int32) (a3 : Int32) (a4 : Int32) (a5 : Value) (a6 : Value) (st : List Value) (M : xM) (Q : Option Value → xM → Prop), xW xSC 51 1 [.ref a0, .int a1, .int a2, .int a3, .int a4, a5, a6] (.ref 35 :: st) M Q = xW xSC 51 4 [.ref a0, .int a1, .int a2, .int a3, .int a4, a5, a6] (.int (M 35 0) :: st) M Q) ∧
  (∀ (a0 : Nat) (a1 : Int32) (a2 : Int32) (a3 : Int32) (a4 : Int32) (a5 : Value) (a6 : Value) (st : List Value) (M : xM) (Q : Option Value → xM → Prop), xW xSC 51 5 [.ref a0, .int a1, .int a2, .int a3, .int a4, a5, a6] (.ref 35 :: st) M Q = xW xSC 51 8 [.ref a0, .int a1, .int a2, .int a3, .int a4, a5, a6] (.int (M 35 1) :: st) M Q) ∧
  (∀ (a0 : Nat) (a1 : Int32) (a2 : Int32) (a3 : Int32) (a4 : Int32) (a5 : Int32) (a6 : Value) (y0 : Int32) (y2 : Nat) (M : xM) (Q : Option Value → xM → Prop), xW xSC 51 22 [.ref a0, .int a1, .int a2, .int a3, .int a4, .int a5, a6] (.int y0 :: .ref 35 :: .ref y2 :: []) M Q = xW xSC 52 0 [.ref 35, .int y0] [] M (fun v M' => xW xSC 51 25 [.ref a0, .int a1, .int a2, .int a3, .int a4, .int a5, a6] (xpush v [.ref y2]) M' Q)) ∧
  (∀ (a0 : Nat) (a1 : Int32) (a2 : Int32) (a3 : Int32) (a4 : Int32) (a5 : Int32) (a6 : Value) (y0 : Int32) (st : List Value) (M : xM) (Q : Option Value → xM → Prop), xW xSC 51 31 [.ref a0, .int a1, .int a2, .int a3, .int a4, .int a5, a6] (.int y0 :: .ref 35 :: st) M Q = xW xSC 51 34 [.ref a0, .int a1, .int a2, .int a3, .int a4, .int a5, a6] (st) (xup M 35 3 y0) Q) ∧
  (∀ (a0 : Nat) (a1 : Int32) (a2 : Int32) (a3 : Int32) (a4 : Int32) (a5 : Int32) (a6 : Int32) (st : List Value) (M : xM) (Q : Option Value → xM → Prop), xW xSC 51 47 [.ref a0, .int a1, .int a2, .int a3, .int a4, .int a5, .int a6] (.ref 35 :: st) M Q = xW xSC 51 50 [.ref a0, .int a1, .int a2, .int a3, .int a4, .int a5, .int a6] (.int (M 35 2) :: st) M Q) ∧
  (∀ (a0 : Nat) (a1 : Int32) (a2 : Int32) (a3 : Int32) (a4 : Int32) (a5 : Int32) (a6 : Int32) (y0 : Int32) (st : List Value) (M : xM) (Q : Option Value → xM → Prop), xW xSC 51 56 [.ref a0, .int a1, .int a2, .int a3, .int a4, .int a5, .int a6] (.int y0 :: .ref 35 :: st) M Q = xW xSC 51 59 [.ref a0, .int a1, .int a2, .int a3, .int a4, .int a5, .int a6] (st) (xup M 35 2 y0) Q) ∧
  (∀ (a0 : Nat) (a1 : Int32) (a2 : Int32) (a3 : Int32) (a4 : Int32) (a5 : Int32) (a6 : Int32) (y0 : Int32) (st : List Value) (M : xM) (Q : Option Value → xM → Prop), xW xSC 51 65 [.ref a0, .int a1, .int a2, .int a3, .int a4, .int a5, .int a6] (.int y0 :: .ref 35 :: st) M Q = xW xSC 51 68 [.ref a0, .int a1, .int a2, .int a3, .int a4, .int a5, .int a6] (st) (xup M 35 3 y0) Q) ∧
  (∀ (a0 : Nat) (a1 : Int32) (a2 : Int32) (a3 : Int32) (a4 : Int32) (a5 : Value) (a6 : Value) (st : List Value) (M : xM) (Q : Option Value → xM → Prop), xW xSC 51 1 [.ref a0, .int a1, .int a2, .int a3, .int a4, a5, a6] (.ref 40 :: st) M Q = xW xSC 51 4 [.ref a0, .int a1, .int a2, .int a3, .int a4, a5, a6] (.int (M 40 0) :: st) M Q) ∧
  (∀ (a0 : Nat) (a1 : Int32) (a2 : Int32) (a3 : Int32) (a4 : Int32) (a5 : Value) (a6 : Value) (st : List Value) (M : xM) (Q : Option Value → xM → Prop), xW xSC 51 5 [.ref a0, .int a1, .int a2, .int a3, .int a4, a5, a6] (.ref 40 :: st) M Q = xW xSC 51 8 [.ref a0, .int a1, .int a2, .int a3, .int a4, a5, a6] (.int (M 40 1) :: st) M Q) ∧
  (∀ (a0 : Nat) (a1 : Int32) (a2 : Int32) (a3 : Int32) (a4 : Int32) (a5 : Int32) (a6 : Value) (y0 : Int32) (y2 : Nat) (M : xM) (Q : Option Value → xM → Prop), xW xSC 51 22 [.ref a0, .int a1, .int a2, .int a3, .int a4, .int a5, a6] (.int y0 :: .ref 40 :: .ref y2 :: []) M Q = xW xSC 52 0 [.ref 40, .int y0] [] M (fun v M' => xW xSC 51 25 [.ref a0, .int a1, .int a2, .int a3, .int a4, .int a5, a6] (xpush v [.ref y2]) M' Q)) ∧
  (∀ (a0 : Nat) (a1 : Int32) (a2 : Int32) (a3 : Int32) (a4 : Int32) (a5 : Int32) (a6 : Value) (y0 : Int32) (st : List Value) (M : xM) (Q : Option Value → xM → Prop), xW xSC 51 31 [.ref a0, .int a1, .int a2, .int a3, .int a4, .int a5, a6] (.int y0 :: .ref 40 :: st) M Q = xW xSC 51 34 [.ref a0, .int a1, .int a2, .int a3, .int a4, .int a5, a6] (st) (xup M 40 3 y0) Q) ∧
  (∀ (a0 : Nat) (a1 : Int32) (a2 : Int32) (a3 : Int32) (a4 : Int32) (a5 : Int32) (a6 : Int32) (st : List Value) (M : xM) (Q : Option Value → xM → Prop), xW xSC 51 47 [.ref a0, .int a1, .int a2, .int a3, .int a4, .int a5, .int a6] (.ref 40 :: st) M Q = xW xSC 51 50 [.ref a0, .int a1, .int a2, .int a3, .int a4, .int a5, .int a6] (.int (M 40 2) :: st) M Q) ∧
  (∀ (a0 : Nat) (a1 : Int32) (a2 : Int32) (a3 : Int32) (a4 : Int32) (a5 : Int32) (a6 : Int32) (y0 : Int32) (st : List Value) (M : xM) (Q : Option Value → xM → Prop), xW xSC 51 56 [.ref a0, .int a1, .int a2, .int a3, .int a4, .int a5, .int a6] (.int y0 :: .ref 40 :: st) M Q = xW xSC 51 59 [.ref a0, .int a1, .int a2, .int a3, .int a4, .int a5, .int a6] (st) (xup M 40 2 y0) Q) ∧
  (∀ (a0 : Nat) (a1 : Int32) (a2 : Int32) (a3 : Int32) (a4 : Int32) (a5 : Int32) (a6 : Int32) (y0 : Int32) (st : List Value) (M : xM) (Q : Option Value → xM → Prop), xW xSC 51 65 [.ref a0, .int a1, .int a2, .int a3, .int a4, .int a5, .int a6] (.int y0 :: .ref 40 :: st) M Q = xW xSC 51 68 [.ref a0, .int a1, .int a2, .int a3, .int a4, .int a5, .int a6] (st) (xup M 40 3 y0) Q) :=
  ⟨fun a0 a1 a2 a3 a4 a5 a6 st M Q => xw_s rfl rfl,
  fun a0 a1 a2 a3 a4 a5 a6 st M Q => xw_s rfl rfl,
  fun a0 a1 a2 a3 a4 a5 a6 st M Q => xw_s rfl rfl,
  fun a0 a1 a2 a3 a4 a5 a6 st M Q => xw_s rfl rfl,
  fun a0 a1 a2 a3 a4 a5 a6 y0 y1 st M Q => xw_s rfl rfl,
  fun a0 a1 a2 a3 a4 a5 a6 y0 st M Q => xw_s rfl rfl,
  fun a0 a1 a2 a3 a4 a5 a6 st M Q => xw_s rfl rfl,
  fun a0 a1 a2 a3 a4 a5 a6 st M Q => xw_s rfl rfl,
  fun a0 a1 a2 a3 a4 a5 a6 y0 st M Q => xw_br (c0 := y0 = nI 0) rfl rfl,
  fun a0 a1 a2 a3 a4 a5 a6 st M Q => xw_s rfl rfl,
  fun a0 a1 a2 a3 a4 a5 a6 st M Q => xw_s rfl rfl,
  fun a0 a1 a2 a3 a4 a5 a6 st M Q => xw_s rfl rfl,
  fun a0 a1 a2 a3 a4 a5 a6 st M Q => xw_s rfl rfl,
  fun a0 a1 a2 a3 a4 a5 a6 y0 y2 M Q => xw_call rfl rfl rfl,
  fun a0 a1 a2 a3 a4 a5 a6 st M Q => xw_s rfl rfl,
  fun a0 a1 a2 a3 a4 a5 a6 st M Q => xw_s rfl rfl,
  fun a0 a1 a2 a3 a4 a5 a6 y0 st M Q => xw_s rfl rfl,
  fun a0 a1 a2 a3 a4 a5 a6 st M Q => xw_s rfl rfl,
  fun a0 a1 a2 a3 a4 a5 a6 st M Q => xw_s rfl rfl,
  fun a0 a1 a2 a3 a4 a5 a6 y0 y1 st M Q => xw_brn (c0 := y1 ≠ y0) (c1 := y1 = y0) rfl rfl (Iff.rfl),
  fun a0 a1 a2 a3 a4 a5 a6 st M Q => xw_s rfl rfl,
  fun a0 a1 a2 a3 a4 a5 a6 st M Q => xw_s rfl rfl,
  fun a0 a1 a2 a3 a4 a5 a6 y0 y1 st M Q => xw_s rfl rfl,
  fun a0 a1 a2 a3 a4 a5 a6 y0 st M Q => xw_s rfl rfl,
  fun a0 a1 a2 a3 a4 a5 a6 st M Q => xw_s rfl rfl,
  fun a0 a1 a2 a3 a4 a5 a6 st M Q => xw_s rfl rfl,
  fun a0 a1 a2 a3 a4 a5 a6 st M Q => xw_s rfl rfl,
  fun a0 a1 a2 a3 a4 a5 a6 st M Q => xw_s rfl rfl,
  fun a0 a1 a2 a3 a4 a5 a6 y0 y1 st M Q => xw_s rfl rfl,
  fun a0 a1 a2 a3 a4 a5 a6 st M Q => xw_s rfl rfl,
  fun a0 a1 a2 a3 a4 a5 a6 y0 y1 st M Q => xw_s rfl rfl,
  fun a0 a1 a2 a3 a4 a5 a6 y0 st M Q => xw_s rfl rfl,
  fun a0 a1 a2 a3 a4 a5 a6 st M Q => xw_s rfl rfl,
  fun a0 a1 a2 a3 a4 a5 a6 st M Q => xw_s rfl rfl,
  fun a0 a1 a2 a3 a4 a5 a6 st M Q => xw_s rfl rfl,
  fun a0 a1 a2 a3 a4 a5 a6 y0 y1 st M Q => xw_s rfl rfl,
  fun a0 a1 a2 a3 a4 a5 a6 y0 st M Q => xw_s rfl rfl,
  fun a0 a1 a2 a3 a4 a5 a6 st M Q => xw_s rfl rfl,
  fun a0 a1 a2 a3 a4 a5 a6 st M Q => xw_s rfl rfl,
  fun a0 a1 a2 a3 a4 a5 a6 y0 y2 M Q => xw_call rfl rfl rfl,
  fun a0 a1 a2 a3 a4 a5 a6 y0 st M Q => xw_s rfl rfl,
  fun a0 a1 a2 a3 a4 a5 a6 st M Q => xw_s rfl rfl,
  fun a0 a1 a2 a3 a4 a5 a6 y0 st M Q => xw_s rfl rfl,
  fun a0 a1 a2 a3 a4 a5 a6 y0 st M Q => xw_s rfl rfl,
  fun a0 a1 a2 a3 a4 a5 a6 st M Q => xw_s rfl rfl,
  fun a0 a1 a2 a3 a4 a5 a6 st M Q => xw_s rfl rfl,
  fun a0 a1 a2 a3 a4 a5 a6 y0 y2 M Q => xw_call rfl rfl rfl,
  fun a0 a1 a2 a3 a4 a5 a6 y0 st M Q => xw_s rfl rfl,
  fun a0 a1 a2 a3 a4 a5 a6 st M Q => xw_s rfl rfl,
  fun a0 a1 a2 a3 a4 a5 a6 y0 st M Q => xw_s rfl rfl,
  fun a0 a1 a2 a3 a4 a5 a6 y0 st M Q => xw_s rfl rfl⟩
set_option maxRecDepth 20000 in
theorem h51_25 :
  (∀ (a0 : Nat) (a1 : Int32) (a2 : Int32) (a3 : Int32) (a4 : Int32) (a5 : Int32) (a6 : Value) (y0 : Int32) (st : List Value) (M : xM) (Q : Option Value → xM → Prop), xW xSC 51 25 [.ref a0, .int a1, .int a2, .int a3, .int a4, .int a5, a6] (.int y0 :: .ref 33 :: st) M Q = xW xSC 51 28 [.ref a0, .int a1, .int a2, .int a3, .int a4, .int a5, a6] (st) (xup M 33 2 y0) Q) ∧
  (∀ (a0 : Nat) (a1 : Int32) (a2 : Int32) (a3 : Int32) (a4 : Int32) (a5 : Int32) (a6 : Value) (y0 : Int32) (st : List Value) (M : xM) (Q : Option Value → xM → Prop), xW xSC 51 25 [.ref a0, .int a1, .int a2, .int a3, .int a4, .int a5, a6] (.int y0 :: .ref 35 :: st) M Q = xW xSC 51 28 [.ref a0, .int a1, .int a2, .int a3, .int a4, .int a5, a6] (st) (xup M 35 2 y0) Q) ∧
  (∀ (a0 : Nat) (a1 : Int32) (a2 : Int32) (a3 : Int32) (a4 : Int32) (a5 : Int32) (a6 : Value) (y0 : Int32) (st : List Value) (M : xM) (Q : Option Value → xM → Prop), xW xSC 51 25 [.ref a0, .int a1, .int a2, .int a3, .int a4, .int a5, a6] (.int y0 :: .ref 40 :: st) M Q = xW xSC 51 28 [.ref a0, .int a1, .int a2, .int a3, .int a4, .int a5, a6] (st) (xup M 40 2 y0) Q) :=
  ⟨fun a0 a1 a2 a3 a4 a5 a6 y0 st M Q => xw_s rfl rfl,
  fun a0 a1 a2 a3 a4 a5 a6 y0 st M Q => xw_s rfl rfl,
  fun a0 a1 a2 a3 a4 a5 a6 y0 st M Q => xw_s rfl rfl⟩
set_option maxRecDepth 20000 in
theorem h51_68 :
  (∀ (a0 : Nat) (a1 : Int32) (a2 : Int32) (a3 : Int32) (a4 : Int32) (a5 : Int32) (a6 : Value) (M : xM) (Q : Option Value → xM → Prop), xW xSC 51 68 [.ref a0, .int a1, .int a2, .int a3, .int a4, .int a5, a6] ([]) M Q = Q none M) :=
  fun a0 a1 a2 a3 a4 a5 a6 M Q => xw_retv rfl rfl
set_option maxRecDepth 20000 in
theorem j51 :
  (∀ (a0 : Nat) (a1 : Int32) (a2 : Int32) (a3 : Int32) (a4 : Int32) (a5 : Int32) (a6 : Value) (y0 : Int32) (st : List Value) (M : xM) (Q : Option Value → xM → Prop), xW xSC 51 25 [.ref a0, .int a1, .int a2, .int a3, .int a4, .int a5, a6] (.int y0 :: .ref 33 :: st) M Q = xW xSC 51 28 [.ref a0, .int a1, .int a2, .int a3, .int a4, .int a5, a6] (st) (xup M 33 2 y0) Q) ∧
  (∀ (a0 : Nat) (a1 : Int32) (a2 : Int32) (a3 : Int32) (a4 : Int32) (a5 : Int32) (a6 : Value) (M : xM) (Q : Option Value → xM → Prop), xW xSC 51 68 [.ref a0, .int a1, .int a2, .int a3, .int a4, .int a5, a6] ([]) M Q = Q none M) ∧
  (∀ (a0 : Nat) (a1 : Int32) (a2 : Int32) (a3 : Int32) (a4 : Int32) (a5 : Int32) (a6 : Value) (y0 : Int32) (st : List Value) (M : xM) (Q : Option Value → xM → Prop), xW xSC 51 25 [.ref a0, .int a1, .int a2, .int a3, .int a4, .int a5, a6] (.int y0 :: .ref 35 :: st) M Q = xW xSC 51 28 [.ref a0, .int a1, .int a2, .int a3, .int a4, .int a5, a6] (st) (xup M 35 2 y0) Q) ∧
  (∀ (a0 : Nat) (a1 : Int32) (a2 : Int32) (a3 : Int32) (a4 : Int32) (a5 : Int32) (a6 : Value) (y0 : Int32) (st : List Value) (M : xM) (Q : Option Value → xM → Prop), xW xSC 51 25 [.ref a0, .int a1, .int a2, .int a3, .int a4, .int a5, a6] (.int y0 :: .ref 40 :: st) M Q = xW xSC 51 28 [.ref a0, .int a1, .int a2, .int a3, .int a4, .int a5, a6] (st) (xup M 40 2 y0) Q) :=
  ⟨fun a0 a1 a2 a3 a4 a5 a6 y0 st M Q => xw_s rfl rfl,
  fun a0 a1 a2 a3 a4 a5 a6 M Q => xw_retv rfl rfl,
  fun a0 a1 a2 a3 a4 a5 a6 y0 st M Q => xw_s rfl rfl,
  fun a0 a1 a2 a3 a4 a5 a6 y0 st M Q => xw_s rfl rfl⟩

set_option maxRecDepth 20000 in
theorem s52 :
  (∀ (a0 : Nat) (a1 : Int32) (st : List Value) (M : xM) (Q : Option Value → xM → Prop), xW xSC 52 0 [.ref a0, .int a1] (st) M Q = xW xSC 52 1 [.ref a0, .int a1] (.int a1 :: st) M Q) ∧
  (∀ (a0 : Nat) (a1 : Int32) (st : List Value) (M : xM) (Q : Option Value → xM → Prop), xW xSC 52 1 [.ref a0, .int a1] (st) M Q = xW xSC 52 2 [.ref a0, .int a1] (.int (nI 2) :: st) M Q) ∧
  (∀ (a0 : Nat) (a1 : Int32) (y0 : Int32) (y1 : Int32) (st : List Value) (M : xM) (Q : Option Value → xM → Prop), xW xSC 52 2 [.ref a0, .int a1] (.int y0 :: .int y1 :: st) M Q = if y1 = y0 then xW xSC 52 5 [.ref a0, .int a1] (st) M Q else xW xSC 52 7 [.ref a0, .int a1] (st) M Q) ∧
  (∀ (a0 : Nat) (a1 : Int32) (st : List Value) (M : xM) (Q : Option Value → xM → Prop), xW xSC 52 5 [.ref a0, .int a1] (st) M Q = xW xSC 52 6 [.ref a0, .int a1] (.int (nI 0) :: st) M Q) ∧
  (∀ (a0 : Nat) (a1 : Int32) (y0 : Int32) (M : xM) (Q : Option Value → xM → Prop), xW xSC 52 6 [.ref a0, .int a1] ([.int y0]) M Q = Q (some (.int y0)) M) ∧
  (∀ (a0 : Nat) (a1 : Int32) (st : List Value) (M : xM) (Q : Option Value → xM → Prop), xW xSC 52 7 [.ref a0, .int a1] (st) M Q = xW xSC 52 8 [.ref a0, .int a1] (.int a1 :: st) M Q) ∧
  (∀ (a0 : Nat) (a1 : Int32) (y0 : Int32) (st : List Value) (M : xM) (Q : Option Value → xM → Prop), xW xSC 52 8 [.ref a0, .int a1] (.int y0 :: st) M Q = if y0 = nI 0 then xW xSC 52 11 [.ref a0, .int a1] (st) M Q else xW xSC 52 18 [.ref a0, .int a1] (st) M Q) ∧
  (∀ (a0 : Nat) (a1 : Int32) (st : List Value) (M : xM) (Q : Option Value → xM → Prop), xW xSC 52 11 [.ref a0, .int a1] (st) M Q = xW xSC 52 12 [.ref a0, .int a1] (.ref a0 :: st) M Q) ∧
  (∀ (a0 : Nat) (a1 : Int32) (st : List Value) (M : xM) (Q : Option Value → xM → Prop), xW xSC 52 12 [.ref a0, .int a1] (.ref 33 :: st) M Q = xW xSC 52 15 [.ref a0, .int a1] (.int (M 33 1) :: st) M Q) ∧
  (∀ (a0 : Nat) (a1 : Int32) (st : List Value) (M : xM) (Q : Option Value → xM → Prop), xW xSC 52 15 [.ref a0, .int a1] (st) M Q = xW xSC 52 22 [.ref a0, .int a1] (st) M Q) ∧
  (∀ (a0 : Nat) (a1 : Int32) (st : List Value) (M : xM) (Q : Option Value → xM → Prop), xW xSC 52 18 [.ref a0, .int a1] (st) M Q = xW xSC 52 19 [.ref a0, .int a1] (.ref a0 :: st) M Q) ∧
  (∀ (a0 : Nat) (a1 : Int32) (st : List Value) (M : xM) (Q : Option Value → xM → Prop), xW xSC 52 19 [.ref a0, .int a1] (.ref 33 :: st) M Q = xW xSC 52 22 [.ref a0, .int a1] (.int (M 33 0) :: st) M Q) ∧
  (∀ (a0 : Nat) (a1 : Int32) (st : List Value) (M : xM) (Q : Option Value → xM → Prop), xW xSC 52 12 [.ref a0, .int a1] (.ref 35 :: st) M Q = xW xSC 52 15 [.ref a0, .int a1] (.int (M 35 1) :: st) M Q) ∧
  (∀ (a0 : Nat) (a1 : Int32) (st : List Value) (M : xM) (Q : Option Value → xM → Prop), xW xSC 52 19 [.ref a0, .int a1] (.ref 35 :: st) M Q = xW xSC 52 22 [.ref a0, .int a1] (.int (M 35 0) :: st) M Q) ∧
  (∀ (a0 : Nat) (a1 : Int32) (st : List Value) (M : xM) (Q : Option Value → xM → Prop), xW xSC 52 12 [.ref a0, .int a1] (.ref 40 :: st) M Q = xW xSC 52 15 [.ref a0, .int a1] (.int (M 40 1) :: st) M Q) ∧
  (∀ (a0 : Nat) (a1 : Int32) (st : List Value) (M : xM) (Q : Option Value → xM → Prop), xW xSC 52 19 [.ref a0, .int a1] (.ref 40 :: st) M Q = xW xSC 52 22 [.ref a0, .int a1] (.int (M 40 0) :: st) M Q) :=
  ⟨fun a0 a1 st M Q => xw_s rfl rfl,
  fun a0 a1 st M Q => xw_s rfl rfl,
  fun a0 a1 y0 y1 st M Q => xw_brn (c0 := y1 ≠ y0) (c1 := y1 = y0) rfl rfl (Iff.rfl),
  fun a0 a1 st M Q => xw_s rfl rfl,
  fun a0 a1 y0 M Q => xw_ret rfl rfl,
  fun a0 a1 st M Q => xw_s rfl rfl,
  fun a0 a1 y0 st M Q => xw_brn (c0 := y0 ≠ nI 0) (c1 := y0 = nI 0) rfl rfl (Iff.rfl),
  fun a0 a1 st M Q => xw_s rfl rfl,
  fun a0 a1 st M Q => xw_s rfl rfl,
  fun a0 a1 st M Q => xw_s rfl rfl,
  fun a0 a1 st M Q => xw_s rfl rfl,
  fun a0 a1 st M Q => xw_s rfl rfl,
  fun a0 a1 st M Q => xw_s rfl rfl,
  fun a0 a1 st M Q => xw_s rfl rfl,
  fun a0 a1 st M Q => xw_s rfl rfl,
  fun a0 a1 st M Q => xw_s rfl rfl⟩
set_option maxRecDepth 20000 in
theorem h52_22 :
  (∀ (a0 : Nat) (a1 : Int32) (y0 : Int32) (M : xM) (Q : Option Value → xM → Prop), xW xSC 52 22 [.ref a0, .int a1] ([.int y0]) M Q = Q (some (.int y0)) M) :=
  fun a0 a1 y0 M Q => xw_ret rfl rfl
set_option maxRecDepth 20000 in
theorem j52 :
  (∀ (a0 : Nat) (a1 : Int32) (y0 : Int32) (M : xM) (Q : Option Value → xM → Prop), xW xSC 52 22 [.ref a0, .int a1] ([.int y0]) M Q = Q (some (.int y0)) M) :=
  fun a0 a1 y0 M Q => xw_ret rfl rfl

set_option maxRecDepth 20000 in
theorem s53 :
  (∀ (a0 : Nat) (a1 : Int32) (st : List Value) (M : xM) (Q : Option Value → xM → Prop), xW xSC 53 0 [.ref a0, .int a1] (st) M Q = xW xSC 53 1 [.ref a0, .int a1] (.int (nI 2) :: st) M Q) ∧
  (∀ (a0 : Nat) (a1 : Int32) (st : List Value) (M : xM) (Q : Option Value → xM → Prop), xW xSC 53 1 [.ref a0, .int a1] (st) M Q = xW xSC 53 2 [.ref a0, .int a1] (.ref a0 :: st) M Q) ∧
  (∀ (a0 : Nat) (a1 : Int32) (st : List Value) (M : xM) (Q : Option Value → xM → Prop), xW xSC 53 2 [.ref a0, .int a1] (st) M Q = xW xSC 53 3 [.ref a0, .int a1] (.int a1 :: st) M Q) ∧
  (∀ (a0 : Nat) (a1 : Int32) (y0 : Int32) (y2 : Int32) (M : xM) (Q : Option Value → xM → Prop), xW xSC 53 3 [.ref a0, .int a1] (.int y0 :: .ref 33 :: .int y2 :: []) M Q = xW xSC 52 0 [.ref 33, .int y0] [] M (fun v M' => xW xSC 53 6 [.ref a0, .int a1] (xpush v [.int y2]) M' Q)) ∧
  (∀ (a0 : Nat) (a1 : Int32) (y0 : Int32) (y1 : Int32) (st : List Value) (M : xM) (Q : Option Value → xM → Prop), xW xSC 53 6 [.ref a0, .int a1] (.int y0 :: .int y1 :: st) M Q = xW xSC 53 7 [.ref a0, .int a1] (.int (y1 * y0) :: st) M Q) ∧
  (∀ (a0 : Nat) (a1 : Int32) (st : List Value) (M : xM) (Q : Option Value → xM → Prop), xW xSC 53 7 [.ref a0, .int a1] (st) M Q = xW xSC 53 8 [.ref a0, .int a1] (.ref a0 :: st) M Q) ∧
  (∀ (a0 : Nat) (a1 : Int32) (st : List Value) (M : xM) (Q : Option Value → xM → Prop), xW xSC 53 8 [.ref a0, .int a1] (.ref 33 :: st) M Q = xW xSC 53 11 [.ref a0, .int a1] (.int (M 33 0) :: st) M Q) ∧
  (∀ (a0 : Nat) (a1 : Int32) (st : List Value) (M : xM) (Q : Option Value → xM → Prop), xW xSC 53 11 [.ref a0, .int a1] (st) M Q = xW xSC 53 12 [.ref a0, .int a1] (.ref a0 :: st) M Q) ∧
  (∀ (a0 : Nat) (a1 : Int32) (st : List Value) (M : xM) (Q : Option Value → xM → Prop), xW xSC 53 12 [.ref a0, .int a1] (.ref 33 :: st) M Q = xW xSC 53 15 [.ref a0, .int a1] (.int (M 33 1) :: st) M Q) ∧
  (∀ (a0 : Nat) (a1 : Int32) (y0 : Int32) (y1 : Int32) (st : List Value) (M : xM) (Q : Option Value → xM → Prop), xW xSC 53 15 [.ref a0, .int a1] (.int y0 :: .int y1 :: st) M Q = xW xSC 53 16 [.ref a0, .int a1] (.int (y1 + y0) :: st) M Q) ∧
  (∀ (a0 : Nat) (a1 : Int32) (y0 : Int32) (y1 : Int32) (st : List Value) (M : xM) (Q : Option Value → xM → Prop), xW xSC 53 16 [.ref a0, .int a1] (.int y0 :: .int y1 :: st) M Q = if y0 < y1 then xW xSC 53 19 [.ref a0, .int a1] (st) M Q else xW xSC 53 23 [.ref a0, .int a1] (st) M Q) ∧
  (∀ (a0 : Nat) (a1 : Int32) (st : List Value) (M : xM) (Q : Option Value → xM → Prop), xW xSC 53 19 [.ref a0, .int a1] (st) M Q = xW xSC 53 20 [.ref a0, .int a1] (.int (nI 1) :: st) M Q) ∧
  (∀ (a0 : Nat) (a1 : Int32) (st : List Value) (M : xM) (Q : Option Value → xM → Prop), xW xSC 53 20 [.ref a0, .int a1] (st) M Q = xW xSC 53 24 [.ref a0, .int a1] (st) M Q) ∧
  (∀ (a0 : Nat) (a1 : Int32) (st : List Value) (M : xM) (Q : Option Value → xM → Prop), xW xSC 53 23 [.ref a0, .int a1] (st) M Q = xW xSC 53 24 [.ref a0, .int a1] (.int (nI 0) :: st) M Q) ∧
  (∀ (a0 : Nat) (a1 : Int32) (y0 : Int32) (y2 : Int32) (M : xM) (Q : Option Value → xM → Prop), xW xSC 53 3 [.ref a0, .int a1] (.int y0 :: .ref 35 :: .int y2 :: []) M Q = xW xSC 52 0 [.ref 35, .int y0] [] M (fun v M' => xW xSC 53 6 [.ref a0, .int a1] (xpush v [.int y2]) M' Q)) ∧
  (∀ (a0 : Nat) (a1 : Int32) (st : List Value) (M : xM) (Q : Option Value → xM → Prop), xW xSC 53 8 [.ref a0, .int a1] (.ref 35 :: st) M Q = xW xSC 53 11 [.ref a0, .int a1] (.int (M 35 0) :: st) M Q) ∧
  (∀ (a0 : Nat) (a1 : Int32) (st : List Value) (M : xM) (Q : Option Value → xM → Prop), xW xSC 53 12 [.ref a0, .int a1] (.ref 35 :: st) M Q = xW xSC 53 15 [.ref a0, .int a1] (.int (M 35 1) :: st) M Q) ∧
  (∀ (a0 : Nat) (a1 : Int32) (y0 : Int32) (y2 : Int32) (M : xM) (Q : Option Value → xM → Prop), xW xSC 53 3 [.ref a0, .int a1] (.int y0 :: .ref 40 :: .int y2 :: []) M Q = xW xSC 52 0 [.ref 40, .int y0] [] M (fun v M' => xW xSC 53 6 [.ref a0, .int a1] (xpush v [.int y2]) M' Q)) ∧
  (∀ (a0 : Nat) (a1 : Int32) (st : List Value) (M : xM) (Q : Option Value → xM → Prop), xW xSC 53 8 [.ref a0, .int a1] (.ref 40 :: st) M Q = xW xSC 53 11 [.ref a0, .int a1] (.int (M 40 0) :: st) M Q) ∧
  (∀ (a0 : Nat) (a1 : Int32) (st : List Value) (M : xM) (Q : Option Value → xM → Prop), xW xSC 53 12 [.ref a0, .int a1] (.ref 40 :: st) M Q = xW xSC 53 15 [.ref a0, .int a1] (.int (M 40 1) :: st) M Q) :=
  ⟨fun a0 a1 st M Q => xw_s rfl rfl,
  fun a0 a1 st M Q => xw_s rfl rfl,
  fun a0 a1 st M Q => xw_s rfl rfl,
  fun a0 a1 y0 y2 M Q => xw_call rfl rfl rfl,
  fun a0 a1 y0 y1 st M Q => xw_s rfl rfl,
  fun a0 a1 st M Q => xw_s rfl rfl,
  fun a0 a1 st M Q => xw_s rfl rfl,
  fun a0 a1 st M Q => xw_s rfl rfl,
  fun a0 a1 st M Q => xw_s rfl rfl,
  fun a0 a1 y0 y1 st M Q => xw_s rfl rfl,
  fun a0 a1 y0 y1 st M Q => xw_brn (c0 := y1 ≤ y0) (c1 := y0 < y1) rfl rfl (xge _ _),
  fun a0 a1 st M Q => xw_s rfl rfl,
  fun a0 a1 st M Q => xw_s rfl rfl,
  fun a0 a1 st M Q => xw_s rfl rfl,
  fun a0 a1 y0 y2 M Q => xw_call rfl rfl rfl,
  fun a0 a1 st M Q => xw_s rfl rfl,
  fun a0 a1 st M Q => xw_s rfl rfl,
  fun a0 a1 y0 y2 M Q => xw_call rfl rfl rfl,
  fun a0 a1 st M Q => xw_s rfl rfl,
  fun a0 a1 st M Q => xw_s rfl rfl⟩
set_option maxRecDepth 20000 in
theorem h53_24 :
  (∀ (a0 : Nat) (a1 : Int32) (y0 : Int32) (M : xM) (Q : Option Value → xM → Prop), y0 = 0 ∨ y0 = 1 → xW xSC 53 24 [.ref a0, .int a1] ([.int y0]) M Q = Q (some (.int y0)) M) :=
  fun a0 a1 y0 M Q h0 => xw_retz rfl rfl h0
set_option maxRecDepth 20000 in
theorem j53 :
  (∀ (a0 : Nat) (a1 : Int32) (y0 : Int32) (M : xM) (Q : Option Value → xM → Prop), y0 = 0 ∨ y0 = 1 → xW xSC 53 24 [.ref a0, .int a1] ([.int y0]) M Q = Q (some (.int y0)) M) :=
  fun a0 a1 y0 M Q h0 => xw_retz rfl rfl h0

set_option maxRecDepth 20000 in
theorem s54 :
  (∀ (a0 : Nat) (a1 : Int32) (a2 : Value) (st : List Value) (M : xM) (Q : Option Value → xM → Prop), xW xSC 54 0 [.ref a0, .int a1, a2] (st) M Q = xW xSC 54 1 [.ref a0, .int a1, a2] (.ref a0 :: st) M Q) ∧
  (∀ (a0 : Nat) (a1 : Int32) (a2 : Value) (st : List Value) (M : xM) (Q : Option Value → xM → Prop), xW xSC 54 1 [.ref a0, .int a1, a2] (.ref 33 :: st) M Q = xW xSC 54 4 [.ref a0, .int a1, a2] (.int (M 33 0) :: st) M Q) ∧
  (∀ (a0 : Nat) (a1 : Int32) (a2 : Value) (st : List Value) (M : xM) (Q : Option Value → xM → Prop), xW xSC 54 4 [.ref a0, .int a1, a2] (st) M Q = xW xSC 54 5 [.ref a0, .int a1, a2] (.ref a0 :: st) M Q) ∧
  (∀ (a0 : Nat) (a1 : Int32) (a2 : Value) (st : List Value) (M : xM) (Q : Option Value → xM → Prop), xW xSC 54 5 [.ref a0, .int a1, a2] (.ref 33 :: st) M Q = xW xSC 54 8 [.ref a0, .int a1, a2] (.int (M 33 1) :: st) M Q) ∧
  (∀ (a0 : Nat) (a1 : Int32) (a2 : Value) (y0 : Int32) (y1 : Int32) (st : List Value) (M : xM) (Q : Option Value → xM → Prop), xW xSC 54 8 [.ref a0, .int a1, a2] (.int y0 :: .int y1 :: st) M Q = xW xSC 54 9 [.ref a0, .int a1, a2] (.int (y1 + y0) :: st) M Q) ∧
  (∀ (a0 : Nat) (a1 : Int32) (a2 : Value) (y0 : Int32) (st : List Value) (M : xM) (Q : Option Value → xM → Prop), xW xSC 54 9 [.ref a0, .int a1, a2] (.int y0 :: st) M Q = xW xSC 54 10 [.ref a0, .int a1, .int y0] (st) M Q) ∧
  (∀ (a0 : Nat) (a1 : Int32) (a2 : Int32) (st : List Value) (M : xM) (Q : Option Value → xM → Prop), xW xSC 54 10 [.ref a0, .int a1, .int a2] (st) M Q = xW xSC 54 11 [.ref a0, .int a1, .int a2] (.int a2 :: st) M Q) ∧
  (∀ (a0 : Nat) (a1 : Int32) (a2 : Int32) (y0 : Int32) (st : List Value) (M : xM) (Q : Option Value → xM → Prop), xW xSC 54 11 [.ref a0, .int a1, .int a2] (.int y0 :: st) M Q = if nI 0 < y0 then xW xSC 54 14 [.ref a0, .int a1, .int a2] (st) M Q else xW xSC 54 28 [.ref a0, .int a1, .int a2] (st) M Q) ∧
  (∀ (a0 : Nat) (a1 : Int32) (a2 : Int32) (st : List Value) (M : xM) (Q : Option Value → xM → Prop), xW xSC 54 14 [.ref a0, .int a1, .int a2] (st) M Q = xW xSC 54 15 [.ref a0, .int a1, .int a2] (.int a1 :: st) M Q) ∧
  (∀ (a0 : Nat) (a1 : Int32) (a2 : Int32) (st : List Value) (M : xM) (Q : Option Value → xM → Prop), xW xSC 54 15 [.ref a0, .int a1, .int a2] (st) M Q = xW xSC 54 16 [.ref a0, .int a1, .int a2] (.int a2 :: st) M Q) ∧
  (∀ (a0 : Nat) (a1 : Int32) (a2 : Int32) (y0 : Nat) (y1 : Int32) (st : List Value) (M : xM) (Q : Option Value → xM → Prop), 0 < y0 → y0 < 2 ^ 31 → xW xSC 54 16 [.ref a0, .int a1, .int a2] (.int (nI y0) :: .int y1 :: st) M Q = xW xSC 54 17 [.ref a0, .int a1, .int a2] (.int (y1 - y1 / nI y0 * nI y0) :: st) M Q) ∧
  (∀ (a0 : Nat) (a1 : Int32) (a2 : Int32) (st : List Value) (M : xM) (Q : Option Value → xM → Prop), xW xSC 54 17 [.ref a0, .int a1, .int a2] (st) M Q = xW xSC 54 18 [.ref a0, .int a1, .int a2] (.ref a0 :: st) M Q) ∧
  (∀ (a0 : Nat) (a1 : Int32) (a2 : Int32) (st : List Value) (M : xM) (Q : Option Value → xM → Prop), xW xSC 54 18 [.ref a0, .int a1, .int a2] (.ref 33 :: st) M Q = xW xSC 54 21 [.ref a0, .int a1, .int a2] (.int (M 33 1) :: st) M Q) ∧
  (∀ (a0 : Nat) (a1 : Int32) (a2 : Int32) (y0 : Int32) (y1 : Int32) (st : List Value) (M : xM) (Q : Option Value → xM → Prop), xW xSC 54 21 [.ref a0, .int a1, .int a2] (.int y0 :: .int y1 :: st) M Q = if y1 < y0 then xW xSC 54 24 [.ref a0, .int a1, .int a2] (st) M Q else xW xSC 54 28 [.ref a0, .int a1, .int a2] (st) M Q) ∧
  (∀ (a0 : Nat) (a1 : Int32) (a2 : Int32) (st : List Value) (M : xM) (Q : Option Value → xM → Prop), xW xSC 54 24 [.ref a0, .int a1, .int a2] (st) M Q = xW xSC 54 25 [.ref a0, .int a1, .int a2] (.int (nI 1) :: st) M Q) ∧
  (∀ (a0 : Nat) (a1 : Int32) (a2 : Int32) (st : List Value) (M : xM) (Q : Option Value → xM → Prop), xW xSC 54 25 [.ref a0, .int a1, .int a2] (st) M Q = xW xSC 54 29 [.ref a0, .int a1, .int a2] (st) M Q) ∧
  (∀ (a0 : Nat) (a1 : Int32) (a2 : Value) (st : List Value) (M : xM) (Q : Option Value → xM → Prop), xW xSC 54 1 [.ref a0, .int a1, a2] (.ref 35 :: st) M Q = xW xSC 54 4 [.ref a0, .int a1, a2] (.int (M 35 0) :: st) M Q) ∧
  (∀ (a0 : Nat) (a1 : Int32) (a2 : Value) (st : List Value) (M : xM) (Q : Option Value → xM → Prop), xW xSC 54 5 [.ref a0, .int a1, a2] (.ref 35 :: st) M Q = xW xSC 54 8 [.ref a0, .int a1, a2] (.int (M 35 1) :: st) M Q) ∧
  (∀ (a0 : Nat) (a1 : Int32) (a2 : Int32) (st : List Value) (M : xM) (Q : Option Value → xM → Prop), xW xSC 54 18 [.ref a0, .int a1, .int a2] (.ref 35 :: st) M Q = xW xSC 54 21 [.ref a0, .int a1, .int a2] (.int (M 35 1) :: st) M Q) ∧
  (∀ (a0 : Nat) (a1 : Int32) (a2 : Value) (st : List Value) (M : xM) (Q : Option Value → xM → Prop), xW xSC 54 1 [.ref a0, .int a1, a2] (.ref 40 :: st) M Q = xW xSC 54 4 [.ref a0, .int a1, a2] (.int (M 40 0) :: st) M Q) ∧
  (∀ (a0 : Nat) (a1 : Int32) (a2 : Value) (st : List Value) (M : xM) (Q : Option Value → xM → Prop), xW xSC 54 5 [.ref a0, .int a1, a2] (.ref 40 :: st) M Q = xW xSC 54 8 [.ref a0, .int a1, a2] (.int (M 40 1) :: st) M Q) ∧
  (∀ (a0 : Nat) (a1 : Int32) (a2 : Int32) (st : List Value) (M : xM) (Q : Option Value → xM → Prop), xW xSC 54 18 [.ref a0, .int a1, .int a2] (.ref 40 :: st) M Q = xW xSC 54 21 [.ref a0, .int a1, .int a2] (.int (M 40 1) :: st) M Q) :=
  ⟨fun a0 a1 a2 st M Q => xw_s rfl rfl,
  fun a0 a1 a2 st M Q => xw_s rfl rfl,
  fun a0 a1 a2 st M Q => xw_s rfl rfl,
  fun a0 a1 a2 st M Q => xw_s rfl rfl,
  fun a0 a1 a2 y0 y1 st M Q => xw_s rfl rfl,
  fun a0 a1 a2 y0 st M Q => xw_s rfl rfl,
  fun a0 a1 a2 st M Q => xw_s rfl rfl,
  fun a0 a1 a2 y0 st M Q => xw_brn (c0 := y0 ≤ nI 0) (c1 := nI 0 < y0) rfl rfl (xge _ _),
  fun a0 a1 a2 st M Q => xw_s rfl rfl,
  fun a0 a1 a2 st M Q => xw_s rfl rfl,
  fun a0 a1 a2 y0 y1 st M Q h0 h1 => xw_div (f := fun x y => x - x / y * y) rfl rfl (nI_ne0 h0 h1),
  fun a0 a1 a2 st M Q => xw_s rfl rfl,
  fun a0 a1 a2 st M Q => xw_s rfl rfl,
  fun a0 a1 a2 y0 y1 st M Q => xw_brn (c0 := y0 ≤ y1) (c1 := y1 < y0) rfl rfl (xge _ _),
  fun a0 a1 a2 st M Q => xw_s rfl rfl,
  fun a0 a1 a2 st M Q => xw_s rfl rfl,
  fun a0 a1 a2 st M Q => xw_s rfl rfl,
  fun a0 a1 a2 st M Q => xw_s rfl rfl,
  fun a0 a1 a2 st M Q => xw_s rfl rfl,
  fun a0 a1 a2 st M Q => xw_s rfl rfl,
  fun a0 a1 a2 st M Q => xw_s rfl rfl,
  fun a0 a1 a2 st M Q => xw_s rfl rfl⟩
set_option maxRecDepth 20000 in
theorem h54_28 :
  (∀ (a0 : Nat) (a1 : Int32) (a2 : Int32) (st : List Value) (M : xM) (Q : Option Value → xM → Prop), xW xSC 54 28 [.ref a0, .int a1, .int a2] (st) M Q = xW xSC 54 29 [.ref a0, .int a1, .int a2] (.int (nI 0) :: st) M Q) :=
  fun a0 a1 a2 st M Q => xw_s rfl rfl
set_option maxRecDepth 20000 in
theorem h54_29 :
  (∀ (a0 : Nat) (a1 : Int32) (a2 : Int32) (y0 : Int32) (M : xM) (Q : Option Value → xM → Prop), y0 = 0 ∨ y0 = 1 → xW xSC 54 29 [.ref a0, .int a1, .int a2] ([.int y0]) M Q = Q (some (.int y0)) M) :=
  fun a0 a1 a2 y0 M Q h0 => xw_retz rfl rfl h0
set_option maxRecDepth 20000 in
theorem j54 :
  (∀ (a0 : Nat) (a1 : Int32) (a2 : Int32) (st : List Value) (M : xM) (Q : Option Value → xM → Prop), xW xSC 54 28 [.ref a0, .int a1, .int a2] (st) M Q = xW xSC 54 29 [.ref a0, .int a1, .int a2] (.int (nI 0) :: st) M Q) ∧
  (∀ (a0 : Nat) (a1 : Int32) (a2 : Int32) (y0 : Int32) (M : xM) (Q : Option Value → xM → Prop), y0 = 0 ∨ y0 = 1 → xW xSC 54 29 [.ref a0, .int a1, .int a2] ([.int y0]) M Q = Q (some (.int y0)) M) :=
  ⟨fun a0 a1 a2 st M Q => xw_s rfl rfl,
  fun a0 a1 a2 y0 M Q h0 => xw_retz rfl rfl h0⟩

set_option maxRecDepth 20000 in
theorem s55 :
  (∀ (a0 : Nat) (a1 : Int32) (st : List Value) (M : xM) (Q : Option Value → xM → Prop), xW xSC 55 0 [.ref a0, .int a1] (st) M Q = xW xSC 55 1 [.ref a0, .int a1] (.ref a0 :: st) M Q) ∧
  (∀ (a0 : Nat) (a1 : Int32) (st : List Value) (M : xM) (Q : Option Value → xM → Prop), xW xSC 55 1 [.ref a0, .int a1] (.ref 33 :: st) M Q = xW xSC 55 4 [.ref a0, .int a1] (.int (M 33 3) :: st) M Q) ∧
  (∀ (a0 : Nat) (a1 : Int32) (y0 : Int32) (st : List Value) (M : xM) (Q : Option Value → xM → Prop), xW xSC 55 4 [.ref a0, .int a1] (.int y0 :: st) M Q = if nI 0 < y0 then xW xSC 55 7 [.ref a0, .int a1] (st) M Q else xW xSC 55 25 [.ref a0, .int a1] (st) M Q) ∧
  (∀ (a0 : Nat) (a1 : Int32) (st : List Value) (M : xM) (Q : Option Value → xM → Prop), xW xSC 55 7 [.ref a0, .int a1] (st) M Q = xW xSC 55 8 [.ref a0, .int a1] (.ref a0 :: st) M Q) ∧
  (∀ (a0 : Nat) (a1 : Int32) (st : List Value) (M : xM) (Q : Option Value → xM → Prop), xW xSC 55 8 [.ref a0, .int a1] (.ref 33 :: st) M Q = xW xSC 55 11 [.ref a0, .int a1] (.int (M 33 2) :: st) M Q) ∧
  (∀ (a0 : Nat) (a1 : Int32) (y0 : Int32) (st : List Value) (M : xM) (Q : Option Value → xM → Prop), xW xSC 55 11 [.ref a0, .int a1] (.int y0 :: st) M Q = xW xSC 55 12 [.ref a0, .int a1] (.long y0.toInt64 :: st) M Q) ∧
  (∀ (a0 : Nat) (a1 : Int32) (st : List Value) (M : xM) (Q : Option Value → xM → Prop), xW xSC 55 12 [.ref a0, .int a1] (st) M Q = xW xSC 55 13 [.ref a0, .int a1] (.int a1 :: st) M Q) ∧
  (∀ (a0 : Nat) (a1 : Int32) (y0 : Int32) (st : List Value) (M : xM) (Q : Option Value → xM → Prop), xW xSC 55 13 [.ref a0, .int a1] (.int y0 :: st) M Q = xW xSC 55 14 [.ref a0, .int a1] (.long y0.toInt64 :: st) M Q) ∧
  (∀ (a0 : Nat) (a1 : Int32) (y0 : Int64) (y1 : Int64) (st : List Value) (M : xM) (Q : Option Value → xM → Prop), xW xSC 55 14 [.ref a0, .int a1] (.long y0 :: .long y1 :: st) M Q = xW xSC 55 15 [.ref a0, .int a1] (.long (y1 * y0) :: st) M Q) ∧
  (∀ (a0 : Nat) (a1 : Int32) (st : List Value) (M : xM) (Q : Option Value → xM → Prop), xW xSC 55 15 [.ref a0, .int a1] (st) M Q = xW xSC 55 16 [.ref a0, .int a1] (.ref a0 :: st) M Q) ∧
  (∀ (a0 : Nat) (a1 : Int32) (st : List Value) (M : xM) (Q : Option Value → xM → Prop), xW xSC 55 16 [.ref a0, .int a1] (.ref 33 :: st) M Q = xW xSC 55 19 [.ref a0, .int a1] (.int (M 33 3) :: st) M Q) ∧
  (∀ (a0 : Nat) (a1 : Int32) (y0 : Int32) (st : List Value) (M : xM) (Q : Option Value → xM → Prop), xW xSC 55 19 [.ref a0, .int a1] (.int y0 :: st) M Q = xW xSC 55 20 [.ref a0, .int a1] (.long y0.toInt64 :: st) M Q) ∧
  (∀ (a0 : Nat) (a1 : Int32) (y0 : Nat) (y1 : Int64) (st : List Value) (M : xM) (Q : Option Value → xM → Prop), 0 < y0 → y0 < 2 ^ 31 → xW xSC 55 20 [.ref a0, .int a1] (.long (lN y0) :: .long y1 :: st) M Q = xW xSC 55 21 [.ref a0, .int a1] (.long (y1 / lN y0) :: st) M Q) ∧
  (∀ (a0 : Nat) (a1 : Int32) (y0 : Int64) (st : List Value) (M : xM) (Q : Option Value → xM → Prop), xW xSC 55 21 [.ref a0, .int a1] (.long y0 :: st) M Q = xW xSC 55 22 [.ref a0, .int a1] (.int y0.toInt32 :: st) M Q) ∧
  (∀ (a0 : Nat) (a1 : Int32) (st : List Value) (M : xM) (Q : Option Value → xM → Prop), xW xSC 55 22 [.ref a0, .int a1] (st) M Q = xW xSC 55 26 [.ref a0, .int a1] (st) M Q) ∧
  (∀ (a0 : Nat) (a1 : Int32) (st : List Value) (M : xM) (Q : Option Value → xM → Prop), xW xSC 55 25 [.ref a0, .int a1] (st) M Q = xW xSC 55 26 [.ref a0, .int a1] (.int (nI 0) :: st) M Q) ∧
  (∀ (a0 : Nat) (a1 : Int32) (st : List Value) (M : xM) (Q : Option Value → xM → Prop), xW xSC 55 1 [.ref a0, .int a1] (.ref 35 :: st) M Q = xW xSC 55 4 [.ref a0, .int a1] (.int (M 35 3) :: st) M Q) ∧
  (∀ (a0 : Nat) (a1 : Int32) (st : List Value) (M : xM) (Q : Option Value → xM → Prop), xW xSC 55 8 [.ref a0, .int a1] (.ref 35 :: st) M Q = xW xSC 55 11 [.ref a0, .int a1] (.int (M 35 2) :: st) M Q) ∧
  (∀ (a0 : Nat) (a1 : Int32) (st : List Value) (M : xM) (Q : Option Value → xM → Prop), xW xSC 55 16 [.ref a0, .int a1] (.ref 35 :: st) M Q = xW xSC 55 19 [.ref a0, .int a1] (.int (M 35 3) :: st) M Q) ∧
  (∀ (a0 : Nat) (a1 : Int32) (st : List Value) (M : xM) (Q : Option Value → xM → Prop), xW xSC 55 1 [.ref a0, .int a1] (.ref 40 :: st) M Q = xW xSC 55 4 [.ref a0, .int a1] (.int (M 40 3) :: st) M Q) ∧
  (∀ (a0 : Nat) (a1 : Int32) (st : List Value) (M : xM) (Q : Option Value → xM → Prop), xW xSC 55 8 [.ref a0, .int a1] (.ref 40 :: st) M Q = xW xSC 55 11 [.ref a0, .int a1] (.int (M 40 2) :: st) M Q) ∧
  (∀ (a0 : Nat) (a1 : Int32) (st : List Value) (M : xM) (Q : Option Value → xM → Prop), xW xSC 55 16 [.ref a0, .int a1] (.ref 40 :: st) M Q = xW xSC 55 19 [.ref a0, .int a1] (.int (M 40 3) :: st) M Q) :=
  ⟨fun a0 a1 st M Q => xw_s rfl rfl,
  fun a0 a1 st M Q => xw_s rfl rfl,
  fun a0 a1 y0 st M Q => xw_brn (c0 := y0 ≤ nI 0) (c1 := nI 0 < y0) rfl rfl (xge _ _),
  fun a0 a1 st M Q => xw_s rfl rfl,
  fun a0 a1 st M Q => xw_s rfl rfl,
  fun a0 a1 y0 st M Q => xw_s rfl rfl,
  fun a0 a1 st M Q => xw_s rfl rfl,
  fun a0 a1 y0 st M Q => xw_s rfl rfl,
  fun a0 a1 y0 y1 st M Q => xw_s rfl rfl,
  fun a0 a1 st M Q => xw_s rfl rfl,
  fun a0 a1 st M Q => xw_s rfl rfl,
  fun a0 a1 y0 st M Q => xw_s rfl rfl,
  fun a0 a1 y0 y1 st M Q h0 h1 => xw_ldiv (f := fun x y => x / y) rfl rfl (lN_ne0 h0 h1),
  fun a0 a1 y0 st M Q => xw_s rfl rfl,
  fun a0 a1 st M Q => xw_s rfl rfl,
  fun a0 a1 st M Q => xw_s rfl rfl,
  fun a0 a1 st M Q => xw_s rfl rfl,
  fun a0 a1 st M Q => xw_s rfl rfl,
  fun a0 a1 st M Q => xw_s rfl rfl,
  fun a0 a1 st M Q => xw_s rfl rfl,
  fun a0 a1 st M Q => xw_s rfl rfl,
  fun a0 a1 st M Q => xw_s rfl rfl⟩
set_option maxRecDepth 20000 in
theorem h55_26 :
  (∀ (a0 : Nat) (a1 : Int32) (y0 : Int32) (M : xM) (Q : Option Value → xM → Prop), xW xSC 55 26 [.ref a0, .int a1] ([.int y0]) M Q = Q (some (.int y0)) M) :=
  fun a0 a1 y0 M Q => xw_ret rfl rfl
set_option maxRecDepth 20000 in
theorem j55 :
  (∀ (a0 : Nat) (a1 : Int32) (y0 : Int32) (M : xM) (Q : Option Value → xM → Prop), xW xSC 55 26 [.ref a0, .int a1] ([.int y0]) M Q = Q (some (.int y0)) M) :=
  fun a0 a1 y0 M Q => xw_ret rfl rfl

set_option maxRecDepth 20000 in
theorem s56 :
  (∀ (a0 : Nat) (a1 : Int32) (a2 : Int32) (st : List Value) (M : xM) (Q : Option Value → xM → Prop), xW xSC 56 0 [.ref a0, .int a1, .int a2] (st) M Q = xW xSC 56 1 [.ref a0, .int a1, .int a2] (.ref a0 :: st) M Q) ∧
  (∀ (a0 : Nat) (a1 : Int32) (a2 : Int32) (st : List Value) (M : xM) (Q : Option Value → xM → Prop), xW xSC 56 1 [.ref a0, .int a1, .int a2] (.ref 33 :: st) M Q = xW xSC 56 4 [.ref a0, .int a1, .int a2] (.int (M 33 2) :: st) M Q) ∧
  (∀ (a0 : Nat) (a1 : Int32) (a2 : Int32) (y0 : Int32) (st : List Value) (M : xM) (Q : Option Value → xM → Prop), xW xSC 56 4 [.ref a0, .int a1, .int a2] (.int y0 :: st) M Q = xW xSC 56 5 [.ref a0, .int a1, .int a2] (.long y0.toInt64 :: st) M Q) ∧
  (∀ (a0 : Nat) (a1 : Int32) (a2 : Int32) (st : List Value) (M : xM) (Q : Option Value → xM → Prop), xW xSC 56 5 [.ref a0, .int a1, .int a2] (st) M Q = xW xSC 56 6 [.ref a0, .int a1, .int a2] (.int a2 :: st) M Q) ∧
  (∀ (a0 : Nat) (a1 : Int32) (a2 : Int32) (y0 : Int32) (st : List Value) (M : xM) (Q : Option Value → xM → Prop), xW xSC 56 6 [.ref a0, .int a1, .int a2] (.int y0 :: st) M Q = xW xSC 56 7 [.ref a0, .int a1, .int a2] (.long y0.toInt64 :: st) M Q) ∧
  (∀ (a0 : Nat) (a1 : Int32) (a2 : Int32) (y0 : Int64) (y1 : Int64) (st : List Value) (M : xM) (Q : Option Value → xM → Prop), xW xSC 56 7 [.ref a0, .int a1, .int a2] (.long y0 :: .long y1 :: st) M Q = xW xSC 56 8 [.ref a0, .int a1, .int a2] (.long (y1 * y0) :: st) M Q) ∧
  (∀ (a0 : Nat) (a1 : Int32) (a2 : Int32) (st : List Value) (M : xM) (Q : Option Value → xM → Prop), xW xSC 56 8 [.ref a0, .int a1, .int a2] (st) M Q = xW xSC 56 9 [.ref a0, .int a1, .int a2] (.int a1 :: st) M Q) ∧
  (∀ (a0 : Nat) (a1 : Int32) (a2 : Int32) (y0 : Int32) (st : List Value) (M : xM) (Q : Option Value → xM → Prop), xW xSC 56 9 [.ref a0, .int a1, .int a2] (.int y0 :: st) M Q = xW xSC 56 10 [.ref a0, .int a1, .int a2] (.long y0.toInt64 :: st) M Q) ∧
  (∀ (a0 : Nat) (a1 : Int32) (a2 : Int32) (st : List Value) (M : xM) (Q : Option Value → xM → Prop), xW xSC 56 10 [.ref a0, .int a1, .int a2] (st) M Q = xW xSC 56 11 [.ref a0, .int a1, .int a2] (.ref a0 :: st) M Q) ∧
  (∀ (a0 : Nat) (a1 : Int32) (a2 : Int32) (st : List Value) (M : xM) (Q : Option Value → xM → Prop), xW xSC 56 11 [.ref a0, .int a1, .int a2] (.ref 33 :: st) M Q = xW xSC 56 14 [.ref a0, .int a1, .int a2] (.int (M 33 3) :: st) M Q) ∧
  (∀ (a0 : Nat) (a1 : Int32) (a2 : Int32) (y0 : Int32) (st : List Value) (M : xM) (Q : Option Value → xM → Prop), xW xSC 56 14 [.ref a0, .int a1, .int a2] (.int y0 :: st) M Q = xW xSC 56 15 [.ref a0, .int a1, .int a2] (.long y0.toInt64 :: st) M Q) ∧
  (∀ (a0 : Nat) (a1 : Int32) (a2 : Int32) (y0 : Int64) (y1 : Int64) (st : List Value) (M : xM) (Q : Option Value → xM → Prop), xW xSC 56 15 [.ref a0, .int a1, .int a2] (.long y0 :: .long y1 :: st) M Q = xW xSC 56 16 [.ref a0, .int a1, .int a2] (.long (y1 * y0) :: st) M Q) ∧
  (∀ (a0 : Nat) (a1 : Int32) (a2 : Int32) (y0 : Int64) (y1 : Int64) (st : List Value) (M : xM) (Q : Option Value → xM → Prop), xW xSC 56 16 [.ref a0, .int a1, .int a2] (.long y0 :: .long y1 :: st) M Q = xW xSC 56 17 [.ref a0, .int a1, .int a2] (.int (lg_cmp y1 y0) :: st) M Q) ∧
  (∀ (a0 : Nat) (a1 : Int32) (a2 : Int32) (y0 : Int32) (st : List Value) (M : xM) (Q : Option Value → xM → Prop), xW xSC 56 17 [.ref a0, .int a1, .int a2] (.int y0 :: st) M Q = if y0 < nI 0 then xW xSC 56 20 [.ref a0, .int a1, .int a2] (st) M Q else xW xSC 56 24 [.ref a0, .int a1, .int a2] (st) M Q) ∧
  (∀ (a0 : Nat) (a1 : Int32) (a2 : Int32) (st : List Value) (M : xM) (Q : Option Value → xM → Prop), xW xSC 56 20 [.ref a0, .int a1, .int a2] (st) M Q = xW xSC 56 21 [.ref a0, .int a1, .int a2] (.int (nI 1) :: st) M Q) ∧
  (∀ (a0 : Nat) (a1 : Int32) (a2 : Int32) (st : List Value) (M : xM) (Q : Option Value → xM → Prop), xW xSC 56 21 [.ref a0, .int a1, .int a2] (st) M Q = xW xSC 56 25 [.ref a0, .int a1, .int a2] (st) M Q) ∧
  (∀ (a0 : Nat) (a1 : Int32) (a2 : Int32) (st : List Value) (M : xM) (Q : Option Value → xM → Prop), xW xSC 56 24 [.ref a0, .int a1, .int a2] (st) M Q = xW xSC 56 25 [.ref a0, .int a1, .int a2] (.int (nI 0) :: st) M Q) ∧
  (∀ (a0 : Nat) (a1 : Int32) (a2 : Int32) (st : List Value) (M : xM) (Q : Option Value → xM → Prop), xW xSC 56 1 [.ref a0, .int a1, .int a2] (.ref 35 :: st) M Q = xW xSC 56 4 [.ref a0, .int a1, .int a2] (.int (M 35 2) :: st) M Q) ∧
  (∀ (a0 : Nat) (a1 : Int32) (a2 : Int32) (st : List Value) (M : xM) (Q : Option Value → xM → Prop), xW xSC 56 11 [.ref a0, .int a1, .int a2] (.ref 35 :: st) M Q = xW xSC 56 14 [.ref a0, .int a1, .int a2] (.int (M 35 3) :: st) M Q) ∧
  (∀ (a0 : Nat) (a1 : Int32) (a2 : Int32) (st : List Value) (M : xM) (Q : Option Value → xM → Prop), xW xSC 56 1 [.ref a0, .int a1, .int a2] (.ref 40 :: st) M Q = xW xSC 56 4 [.ref a0, .int a1, .int a2] (.int (M 40 2) :: st) M Q) ∧
  (∀ (a0 : Nat) (a1 : Int32) (a2 : Int32) (st : List Value) (M : xM) (Q : Option Value → xM → Prop), xW xSC 56 11 [.ref a0, .int a1, .int a2] (.ref 40 :: st) M Q = xW xSC 56 14 [.ref a0, .int a1, .int a2] (.int (M 40 3) :: st) M Q) :=
  ⟨fun a0 a1 a2 st M Q => xw_s rfl rfl,
  fun a0 a1 a2 st M Q => xw_s rfl rfl,
  fun a0 a1 a2 y0 st M Q => xw_s rfl rfl,
  fun a0 a1 a2 st M Q => xw_s rfl rfl,
  fun a0 a1 a2 y0 st M Q => xw_s rfl rfl,
  fun a0 a1 a2 y0 y1 st M Q => xw_s rfl rfl,
  fun a0 a1 a2 st M Q => xw_s rfl rfl,
  fun a0 a1 a2 y0 st M Q => xw_s rfl rfl,
  fun a0 a1 a2 st M Q => xw_s rfl rfl,
  fun a0 a1 a2 st M Q => xw_s rfl rfl,
  fun a0 a1 a2 y0 st M Q => xw_s rfl rfl,
  fun a0 a1 a2 y0 y1 st M Q => xw_s rfl rfl,
  fun a0 a1 a2 y0 y1 st M Q => xw_s rfl rfl,
  fun a0 a1 a2 y0 st M Q => xw_brn (c0 := nI 0 ≤ y0) (c1 := y0 < nI 0) rfl rfl (xge _ _),
  fun a0 a1 a2 st M Q => xw_s rfl rfl,
  fun a0 a1 a2 st M Q => xw_s rfl rfl,
  fun a0 a1 a2 st M Q => xw_s rfl rfl,
  fun a0 a1 a2 st M Q => xw_s rfl rfl,
  fun a0 a1 a2 st M Q => xw_s rfl rfl,
  fun a0 a1 a2 st M Q => xw_s rfl rfl,
  fun a0 a1 a2 st M Q => xw_s rfl rfl⟩
set_option maxRecDepth 20000 in
theorem h56_25 :
  (∀ (a0 : Nat) (a1 : Int32) (a2 : Int32) (y0 : Int32) (M : xM) (Q : Option Value → xM → Prop), y0 = 0 ∨ y0 = 1 → xW xSC 56 25 [.ref a0, .int a1, .int a2] ([.int y0]) M Q = Q (some (.int y0)) M) :=
  fun a0 a1 a2 y0 M Q h0 => xw_retz rfl rfl h0
set_option maxRecDepth 20000 in
theorem j56 :
  (∀ (a0 : Nat) (a1 : Int32) (a2 : Int32) (y0 : Int32) (M : xM) (Q : Option Value → xM → Prop), y0 = 0 ∨ y0 = 1 → xW xSC 56 25 [.ref a0, .int a1, .int a2] ([.int y0]) M Q = Q (some (.int y0)) M) :=
  fun a0 a1 a2 y0 M Q h0 => xw_retz rfl rfl h0

set_option maxRecDepth 20000 in
theorem s57 :
  (∀ (a0 : Nat) (a1 : Int32) (a2 : Int32) (st : List Value) (M : xM) (Q : Option Value → xM → Prop), xW xSC 57 0 [.ref a0, .int a1, .int a2] (st) M Q = xW xSC 57 1 [.ref a0, .int a1, .int a2] (.ref a0 :: st) M Q) ∧
  (∀ (a0 : Nat) (a1 : Int32) (a2 : Int32) (st : List Value) (M : xM) (Q : Option Value → xM → Prop), xW xSC 57 1 [.ref a0, .int a1, .int a2] (.ref 33 :: st) M Q = xW xSC 57 4 [.ref a0, .int a1, .int a2] (.int (M 33 2) :: st) M Q) ∧
  (∀ (a0 : Nat) (a1 : Int32) (a2 : Int32) (y0 : Int32) (st : List Value) (M : xM) (Q : Option Value → xM → Prop), xW xSC 57 4 [.ref a0, .int a1, .int a2] (.int y0 :: st) M Q = xW xSC 57 5 [.ref a0, .int a1, .int a2] (.long y0.toInt64 :: st) M Q) ∧
  (∀ (a0 : Nat) (a1 : Int32) (a2 : Int32) (st : List Value) (M : xM) (Q : Option Value → xM → Prop), xW xSC 57 5 [.ref a0, .int a1, .int a2] (st) M Q = xW xSC 57 6 [.ref a0, .int a1, .int a2] (.int a2 :: st) M Q) ∧
  (∀ (a0 : Nat) (a1 : Int32) (a2 : Int32) (y0 : Int32) (st : List Value) (M : xM) (Q : Option Value → xM → Prop), xW xSC 57 6 [.ref a0, .int a1, .int a2] (.int y0 :: st) M Q = xW xSC 57 7 [.ref a0, .int a1, .int a2] (.long y0.toInt64 :: st) M Q) ∧
  (∀ (a0 : Nat) (a1 : Int32) (a2 : Int32) (y0 : Int64) (y1 : Int64) (st : List Value) (M : xM) (Q : Option Value → xM → Prop), xW xSC 57 7 [.ref a0, .int a1, .int a2] (.long y0 :: .long y1 :: st) M Q = xW xSC 57 8 [.ref a0, .int a1, .int a2] (.long (y1 * y0) :: st) M Q) ∧
  (∀ (a0 : Nat) (a1 : Int32) (a2 : Int32) (st : List Value) (M : xM) (Q : Option Value → xM → Prop), xW xSC 57 8 [.ref a0, .int a1, .int a2] (st) M Q = xW xSC 57 9 [.ref a0, .int a1, .int a2] (.int a1 :: st) M Q) ∧
  (∀ (a0 : Nat) (a1 : Int32) (a2 : Int32) (y0 : Int32) (st : List Value) (M : xM) (Q : Option Value → xM → Prop), xW xSC 57 9 [.ref a0, .int a1, .int a2] (.int y0 :: st) M Q = xW xSC 57 10 [.ref a0, .int a1, .int a2] (.long y0.toInt64 :: st) M Q) ∧
  (∀ (a0 : Nat) (a1 : Int32) (a2 : Int32) (st : List Value) (M : xM) (Q : Option Value → xM → Prop), xW xSC 57 10 [.ref a0, .int a1, .int a2] (st) M Q = xW xSC 57 11 [.ref a0, .int a1, .int a2] (.ref a0 :: st) M Q) ∧
  (∀ (a0 : Nat) (a1 : Int32) (a2 : Int32) (st : List Value) (M : xM) (Q : Option Value → xM → Prop), xW xSC 57 11 [.ref a0, .int a1, .int a2] (.ref 33 :: st) M Q = xW xSC 57 14 [.ref a0, .int a1, .int a2] (.int (M 33 3) :: st) M Q) ∧
  (∀ (a0 : Nat) (a1 : Int32) (a2 : Int32) (y0 : Int32) (st : List Value) (M : xM) (Q : Option Value → xM → Prop), xW xSC 57 14 [.ref a0, .int a1, .int a2] (.int y0 :: st) M Q = xW xSC 57 15 [.ref a0, .int a1, .int a2] (.long y0.toInt64 :: st) M Q) ∧
  (∀ (a0 : Nat) (a1 : Int32) (a2 : Int32) (y0 : Int64) (y1 : Int64) (st : List Value) (M : xM) (Q : Option Value → xM → Prop), xW xSC 57 15 [.ref a0, .int a1, .int a2] (.long y0 :: .long y1 :: st) M Q = xW xSC 57 16 [.ref a0, .int a1, .int a2] (.long (y1 * y0) :: st) M Q) ∧
  (∀ (a0 : Nat) (a1 : Int32) (a2 : Int32) (y0 : Int64) (y1 : Int64) (st : List Value) (M : xM) (Q : Option Value → xM → Prop), xW xSC 57 16 [.ref a0, .int a1, .int a2] (.long y0 :: .long y1 :: st) M Q = xW xSC 57 17 [.ref a0, .int a1, .int a2] (.int (lg_cmp y1 y0) :: st) M Q) ∧
  (∀ (a0 : Nat) (a1 : Int32) (a2 : Int32) (y0 : Int32) (st : List Value) (M : xM) (Q : Option Value → xM → Prop), xW xSC 57 17 [.ref a0, .int a1, .int a2] (.int y0 :: st) M Q = if y0 = nI 0 then xW xSC 57 20 [.ref a0, .int a1, .int a2] (st) M Q else xW xSC 57 24 [.ref a0, .int a1, .int a2] (st) M Q) ∧
  (∀ (a0 : Nat) (a1 : Int32) (a2 : Int32) (st : List Value) (M : xM) (Q : Option Value → xM → Prop), xW xSC 57 20 [.ref a0, .int a1, .int a2] (st) M Q = xW xSC 57 21 [.ref a0, .int a1, .int a2] (.int (nI 1) :: st) M Q) ∧
  (∀ (a0 : Nat) (a1 : Int32) (a2 : Int32) (st : List Value) (M : xM) (Q : Option Value → xM → Prop), xW xSC 57 21 [.ref a0, .int a1, .int a2] (st) M Q = xW xSC 57 25 [.ref a0, .int a1, .int a2] (st) M Q) ∧
  (∀ (a0 : Nat) (a1 : Int32) (a2 : Int32) (st : List Value) (M : xM) (Q : Option Value → xM → Prop), xW xSC 57 24 [.ref a0, .int a1, .int a2] (st) M Q = xW xSC 57 25 [.ref a0, .int a1, .int a2] (.int (nI 0) :: st) M Q) ∧
  (∀ (a0 : Nat) (a1 : Int32) (a2 : Int32) (st : List Value) (M : xM) (Q : Option Value → xM → Prop), xW xSC 57 1 [.ref a0, .int a1, .int a2] (.ref 35 :: st) M Q = xW xSC 57 4 [.ref a0, .int a1, .int a2] (.int (M 35 2) :: st) M Q) ∧
  (∀ (a0 : Nat) (a1 : Int32) (a2 : Int32) (st : List Value) (M : xM) (Q : Option Value → xM → Prop), xW xSC 57 11 [.ref a0, .int a1, .int a2] (.ref 35 :: st) M Q = xW xSC 57 14 [.ref a0, .int a1, .int a2] (.int (M 35 3) :: st) M Q) ∧
  (∀ (a0 : Nat) (a1 : Int32) (a2 : Int32) (st : List Value) (M : xM) (Q : Option Value → xM → Prop), xW xSC 57 1 [.ref a0, .int a1, .int a2] (.ref 40 :: st) M Q = xW xSC 57 4 [.ref a0, .int a1, .int a2] (.int (M 40 2) :: st) M Q) ∧
  (∀ (a0 : Nat) (a1 : Int32) (a2 : Int32) (st : List Value) (M : xM) (Q : Option Value → xM → Prop), xW xSC 57 11 [.ref a0, .int a1, .int a2] (.ref 40 :: st) M Q = xW xSC 57 14 [.ref a0, .int a1, .int a2] (.int (M 40 3) :: st) M Q) :=
  ⟨fun a0 a1 a2 st M Q => xw_s rfl rfl,
  fun a0 a1 a2 st M Q => xw_s rfl rfl,
  fun a0 a1 a2 y0 st M Q => xw_s rfl rfl,
  fun a0 a1 a2 st M Q => xw_s rfl rfl,
  fun a0 a1 a2 y0 st M Q => xw_s rfl rfl,
  fun a0 a1 a2 y0 y1 st M Q => xw_s rfl rfl,
  fun a0 a1 a2 st M Q => xw_s rfl rfl,
  fun a0 a1 a2 y0 st M Q => xw_s rfl rfl,
  fun a0 a1 a2 st M Q => xw_s rfl rfl,
  fun a0 a1 a2 st M Q => xw_s rfl rfl,
  fun a0 a1 a2 y0 st M Q => xw_s rfl rfl,
  fun a0 a1 a2 y0 y1 st M Q => xw_s rfl rfl,
  fun a0 a1 a2 y0 y1 st M Q => xw_s rfl rfl,
  fun a0 a1 a2 y0 st M Q => xw_brn (c0 := y0 ≠ nI 0) (c1 := y0 = nI 0) rfl rfl (Iff.rfl),
  fun a0 a1 a2 st M Q => xw_s rfl rfl,
  fun a0 a1 a2 st M Q => xw_s rfl rfl,
  fun a0 a1 a2 st M Q => xw_s rfl rfl,
  fun a0 a1 a2 st M Q => xw_s rfl rfl,
  fun a0 a1 a2 st M Q => xw_s rfl rfl,
  fun a0 a1 a2 st M Q => xw_s rfl rfl,
  fun a0 a1 a2 st M Q => xw_s rfl rfl⟩
set_option maxRecDepth 20000 in
theorem h57_25 :
  (∀ (a0 : Nat) (a1 : Int32) (a2 : Int32) (y0 : Int32) (M : xM) (Q : Option Value → xM → Prop), y0 = 0 ∨ y0 = 1 → xW xSC 57 25 [.ref a0, .int a1, .int a2] ([.int y0]) M Q = Q (some (.int y0)) M) :=
  fun a0 a1 a2 y0 M Q h0 => xw_retz rfl rfl h0
set_option maxRecDepth 20000 in
theorem j57 :
  (∀ (a0 : Nat) (a1 : Int32) (a2 : Int32) (y0 : Int32) (M : xM) (Q : Option Value → xM → Prop), y0 = 0 ∨ y0 = 1 → xW xSC 57 25 [.ref a0, .int a1, .int a2] ([.int y0]) M Q = Q (some (.int y0)) M) :=
  fun a0 a1 a2 y0 M Q h0 => xw_retz rfl rfl h0

set_option maxRecDepth 20000 in
theorem s58 :
  (∀ (a0 : Nat) (a1 : Int32) (a2 : Value) (a3 : Value) (st : List Value) (M : xM) (Q : Option Value → xM → Prop), xW xSC 58 0 [.ref a0, .int a1, a2, a3] (st) M Q = xW xSC 58 1 [.ref a0, .int a1, a2, a3] (.ref a0 :: st) M Q) ∧
  (∀ (a0 : Nat) (a1 : Int32) (a2 : Value) (a3 : Value) (M : xM) (Q : Option Value → xM → Prop), xW xSC 58 1 [.ref a0, .int a1, a2, a3] (.ref 33 :: []) M Q = xW xSC 59 0 [.ref 33, .null, .null, .null, .null] [] M (fun v M' => xW xSC 58 4 [.ref a0, .int a1, a2, a3] (xpush v []) M' Q)) ∧
  (∀ (a0 : Nat) (a1 : Int32) (a2 : Value) (a3 : Value) (y0 : Int32) (st : List Value) (M : xM) (Q : Option Value → xM → Prop), xW xSC 58 4 [.ref a0, .int a1, a2, a3] (.int y0 :: st) M Q = xW xSC 58 5 [.ref a0, .int a1, .int y0, a3] (st) M Q) ∧
  (∀ (a0 : Nat) (a1 : Int32) (a2 : Int32) (a3 : Value) (st : List Value) (M : xM) (Q : Option Value → xM → Prop), xW xSC 58 5 [.ref a0, .int a1, .int a2, a3] (st) M Q = xW xSC 58 6 [.ref a0, .int a1, .int a2, a3] (.int a1 :: st) M Q) ∧
  (∀ (a0 : Nat) (a1 : Int32) (a2 : Int32) (a3 : Value) (y0 : Int32) (st : List Value) (M : xM) (Q : Option Value → xM → Prop), xW xSC 58 6 [.ref a0, .int a1, .int a2, a3] (.int y0 :: st) M Q = if y0 = nI 0 then xW xSC 58 9 [.ref a0, .int a1, .int a2, a3] (st) M Q else xW xSC 58 16 [.ref a0, .int a1, .int a2, a3] (st) M Q) ∧
  (∀ (a0 : Nat) (a1 : Int32) (a2 : Int32) (a3 : Value) (st : List Value) (M : xM) (Q : Option Value → xM → Prop), xW xSC 58 9 [.ref a0, .int a1, .int a2, a3] (st) M Q = xW xSC 58 10 [.ref a0, .int a1, .int a2, a3] (.ref a0 :: st) M Q) ∧
  (∀ (a0 : Nat) (a1 : Int32) (a2 : Int32) (a3 : Value) (st : List Value) (M : xM) (Q : Option Value → xM → Prop), xW xSC 58 10 [.ref a0, .int a1, .int a2, a3] (.ref 33 :: st) M Q = xW xSC 58 13 [.ref a0, .int a1, .int a2, a3] (.int (M 33 2) :: st) M Q) ∧
  (∀ (a0 : Nat) (a1 : Int32) (a2 : Int32) (a3 : Value) (st : List Value) (M : xM) (Q : Option Value → xM → Prop), xW xSC 58 13 [.ref a0, .int a1, .int a2, a3] (st) M Q = xW xSC 58 20 [.ref a0, .int a1, .int a2, a3] (st) M Q) ∧
  (∀ (a0 : Nat) (a1 : Int32) (a2 : Int32) (a3 : Value) (st : List Value) (M : xM) (Q : Option Value → xM → Prop), xW xSC 58 16 [.ref a0, .int a1, .int a2, a3] (st) M Q = xW xSC 58 17 [.ref a0, .int a1, .int a2, a3] (.ref a0 :: st) M Q) ∧
  (∀ (a0 : Nat) (a1 : Int32) (a2 : Int32) (a3 : Value) (st : List Value) (M : xM) (Q : Option Value → xM → Prop), xW xSC 58 17 [.ref a0, .int a1, .int a2, a3] (.ref 33 :: st) M Q = xW xSC 58 20 [.ref a0, .int a1, .int a2, a3] (.int (M 33 3) :: st) M Q) ∧
  (∀ (a0 : Nat) (a1 : Int32) (a2 : Int32) (a3 : Int32) (st : List Value) (M : xM) (Q : Option Value → xM → Prop), xW xSC 58 21 [.ref a0, .int a1, .int a2, .int a3] (st) M Q = xW xSC 58 22 [.ref a0, .int a1, .int a2, .int a3] (.int a2 :: st) M Q) ∧
  (∀ (a0 : Nat) (a1 : Int32) (a2 : Int32) (a3 : Int32) (y0 : Int32) (st : List Value) (M : xM) (Q : Option Value → xM → Prop), xW xSC 58 22 [.ref a0, .int a1, .int a2, .int a3] (.int y0 :: st) M Q = if nI 0 < y0 then xW xSC 58 25 [.ref a0, .int a1, .int a2, .int a3] (st) M Q else xW xSC 58 31 [.ref a0, .int a1, .int a2, .int a3] (st) M Q) ∧
  (∀ (a0 : Nat) (a1 : Int32) (a2 : Int32) (a3 : Int32) (st : List Value) (M : xM) (Q : Option Value → xM → Prop), xW xSC 58 25 [.ref a0, .int a1, .int a2, .int a3] (st) M Q = xW xSC 58 26 [.ref a0, .int a1, .int a2, .int a3] (.int a3 :: st) M Q) ∧
  (∀ (a0 : Nat) (a1 : Int32) (a2 : Int32) (a3 : Int32) (st : List Value) (M : xM) (Q : Option Value → xM → Prop), xW xSC 58 26 [.ref a0, .int a1, .int a2, .int a3] (st) M Q = xW xSC 58 27 [.ref a0, .int a1, .int a2, .int a3] (.int a2 :: st) M Q) ∧
  (∀ (a0 : Nat) (a1 : Int32) (a2 : Int32) (a3 : Int32) (y0 : Nat) (y1 : Int32) (st : List Value) (M : xM) (Q : Option Value → xM → Prop), 0 < y0 → y0 < 2 ^ 31 → xW xSC 58 27 [.ref a0, .int a1, .int a2, .int a3] (.int (nI y0) :: .int y1 :: st) M Q = xW xSC 58 28 [.ref a0, .int a1, .int a2, .int a3] (.int (y1 / nI y0) :: st) M Q) ∧
  (∀ (a0 : Nat) (a1 : Int32) (a2 : Int32) (a3 : Int32) (st : List Value) (M : xM) (Q : Option Value → xM → Prop), xW xSC 58 28 [.ref a0, .int a1, .int a2, .int a3] (st) M Q = xW xSC 58 32 [.ref a0, .int a1, .int a2, .int a3] (st) M Q) ∧
  (∀ (a0 : Nat) (a1 : Int32) (a2 : Int32) (a3 : Int32) (st : List Value) (M : xM) (Q : Option Value → xM → Prop), xW xSC 58 31 [.ref a0, .int a1, .int a2, .int a3] (st) M Q = xW xSC 58 32 [.ref a0, .int a1, .int a2, .int a3] (.int a3 :: st) M Q) ∧
  (∀ (a0 : Nat) (a1 : Int32) (a2 : Value) (a3 : Value) (M : xM) (Q : Option Value → xM → Prop), xW xSC 58 1 [.ref a0, .int a1, a2, a3] (.ref 35 :: []) M Q = xW xSC 59 0 [.ref 35, .null, .null, .null, .null] [] M (fun v M' => xW xSC 58 4 [.ref a0, .int a1, a2, a3] (xpush v []) M' Q)) ∧
  (∀ (a0 : Nat) (a1 : Int32) (a2 : Int32) (a3 : Value) (st : List Value) (M : xM) (Q : Option Value → xM → Prop), xW xSC 58 10 [.ref a0, .int a1, .int a2, a3] (.ref 35 :: st) M Q = xW xSC 58 13 [.ref a0, .int a1, .int a2, a3] (.int (M 35 2) :: st) M Q) ∧
  (∀ (a0 : Nat) (a1 : Int32) (a2 : Int32) (a3 : Value) (st : List Value) (M : xM) (Q : Option Value → xM → Prop), xW xSC 58 17 [.ref a0, .int a1, .int a2, a3] (.ref 35 :: st) M Q = xW xSC 58 20 [.ref a0, .int a1, .int a2, a3] (.int (M 35 3) :: st) M Q) ∧
  (∀ (a0 : Nat) (a1 : Int32) (a2 : Value) (a3 : Value) (M : xM) (Q : Option Value → xM → Prop), xW xSC 58 1 [.ref a0, .int a1, a2, a3] (.ref 40 :: []) M Q = xW xSC 59 0 [.ref 40, .null, .null, .null, .null] [] M (fun v M' => xW xSC 58 4 [.ref a0, .int a1, a2, a3] (xpush v []) M' Q)) ∧
  (∀ (a0 : Nat) (a1 : Int32) (a2 : Int32) (a3 : Value) (st : List Value) (M : xM) (Q : Option Value → xM → Prop), xW xSC 58 10 [.ref a0, .int a1, .int a2, a3] (.ref 40 :: st) M Q = xW xSC 58 13 [.ref a0, .int a1, .int a2, a3] (.int (M 40 2) :: st) M Q) ∧
  (∀ (a0 : Nat) (a1 : Int32) (a2 : Int32) (a3 : Value) (st : List Value) (M : xM) (Q : Option Value → xM → Prop), xW xSC 58 17 [.ref a0, .int a1, .int a2, a3] (.ref 40 :: st) M Q = xW xSC 58 20 [.ref a0, .int a1, .int a2, a3] (.int (M 40 3) :: st) M Q) :=
  ⟨fun a0 a1 a2 a3 st M Q => xw_s rfl rfl,
  fun a0 a1 a2 a3 M Q => xw_call rfl rfl rfl,
  fun a0 a1 a2 a3 y0 st M Q => xw_s rfl rfl,
  fun a0 a1 a2 a3 st M Q => xw_s rfl rfl,
  fun a0 a1 a2 a3 y0 st M Q => xw_brn (c0 := y0 ≠ nI 0) (c1 := y0 = nI 0) rfl rfl (Iff.rfl),
  fun a0 a1 a2 a3 st M Q => xw_s rfl rfl,
  fun a0 a1 a2 a3 st M Q => xw_s rfl rfl,
  fun a0 a1 a2 a3 st M Q => xw_s rfl rfl,
  fun a0 a1 a2 a3 st M Q => xw_s rfl rfl,
  fun a0 a1 a2 a3 st M Q => xw_s rfl rfl,
  fun a0 a1 a2 a3 st M Q => xw_s rfl rfl,
  fun a0 a1 a2 a3 y0 st M Q => xw_brn (c0 := y0 ≤ nI 0) (c1 := nI 0 < y0) rfl rfl (xge _ _),
  fun a0 a1 a2 a3 st M Q => xw_s rfl rfl,
  fun a0 a1 a2 a3 st M Q => xw_s rfl rfl,
  fun a0 a1 a2 a3 y0 y1 st M Q h0 h1 => xw_div (f := fun x y => x / y) rfl rfl (nI_ne0 h0 h1),
  fun a0 a1 a2 a3 st M Q => xw_s rfl rfl,
  fun a0 a1 a2 a3 st M Q => xw_s rfl rfl,
  fun a0 a1 a2 a3 M Q => xw_call rfl rfl rfl,
  fun a0 a1 a2 a3 st M Q => xw_s rfl rfl,
  fun a0 a1 a2 a3 st M Q => xw_s rfl rfl,
  fun a0 a1 a2 a3 M Q => xw_call rfl rfl rfl,
  fun a0 a1 a2 a3 st M Q => xw_s rfl rfl,
  fun a0 a1 a2 a3 st M Q => xw_s rfl rfl⟩
set_option maxRecDepth 20000 in
theorem h58_20 :
  (∀ (a0 : Nat) (a1 : Int32) (a2 : Int32) (a3 : Value) (y0 : Int32) (st : List Value) (M : xM) (Q : Option Value → xM → Prop), xW xSC 58 20 [.ref a0, .int a1, .int a2, a3] (.int y0 :: st) M Q = xW xSC 58 21 [.ref a0, .int a1, .int a2, .int y0] (st) M Q) :=
  fun a0 a1 a2 a3 y0 st M Q => xw_s rfl rfl
set_option maxRecDepth 20000 in
theorem h58_32 :
  (∀ (a0 : Nat) (a1 : Int32) (a2 : Int32) (a3 : Int32) (y0 : Int32) (M : xM) (Q : Option Value → xM → Prop), xW xSC 58 32 [.ref a0, .int a1, .int a2, .int a3] ([.int y0]) M Q = Q (some (.int y0)) M) :=
  fun a0 a1 a2 a3 y0 M Q => xw_ret rfl rfl
set_option maxRecDepth 20000 in
theorem j58 :
  (∀ (a0 : Nat) (a1 : Int32) (a2 : Int32) (a3 : Value) (y0 : Int32) (st : List Value) (M : xM) (Q : Option Value → xM → Prop), xW xSC 58 20 [.ref a0, .int a1, .int a2, a3] (.int y0 :: st) M Q = xW xSC 58 21 [.ref a0, .int a1, .int a2, .int y0] (st) M Q) ∧
  (∀ (a0 : Nat) (a1 : Int32) (a2 : Int32) (a3 : Int32) (y0 : Int32) (M : xM) (Q : Option Value → xM → Prop), xW xSC 58 32 [.ref a0, .int a1, .int a2, .int a3] ([.int y0]) M Q = Q (some (.int y0)) M) :=
  ⟨fun a0 a1 a2 a3 y0 st M Q => xw_s rfl rfl,
  fun a0 a1 a2 a3 y0 M Q => xw_ret rfl rfl⟩

set_option maxRecDepth 20000 in
theorem s59 :
  (∀ (a0 : Nat) (a1 : Value) (a2 : Value) (a3 : Value) (a4 : Value) (st : List Value) (M : xM) (Q : Option Value → xM → Prop), xW xSC 59 0 [.ref a0, a1, a2, a3, a4] (st) M Q = xW xSC 59 1 [.ref a0, a1, a2, a3, a4] (.ref a0 :: st) M Q) ∧
  (∀ (a0 : Nat) (a1 : Value) (a2 : Value) (a3 : Value) (a4 : Value) (st : List Value) (M : xM) (Q : Option Value → xM → Prop), xW xSC 59 1 [.ref a0, a1, a2, a3, a4] (.ref 33 :: st) M Q = xW xSC 59 4 [.ref a0, a1, a2, a3, a4] (.int (M 33 2) :: st) M Q) ∧
  (∀ (a0 : Nat) (a1 : Value) (a2 : Value) (a3 : Value) (a4 : Value) (y0 : Int32) (st : List Value) (M : xM) (Q : Option Value → xM → Prop), xW xSC 59 4 [.ref a0, a1, a2, a3, a4] (.int y0 :: st) M Q = xW xSC 59 5 [.ref a0, .int y0, a2, a3, a4] (st) M Q) ∧
  (∀ (a0 : Nat) (a1 : Int32) (a2 : Value) (a3 : Value) (a4 : Value) (st : List Value) (M : xM) (Q : Option Value → xM → Prop), xW xSC 59 5 [.ref a0, .int a1, a2, a3, a4] (st) M Q = xW xSC 59 6 [.ref a0, .int a1, a2, a3, a4] (.ref a0 :: st) M Q) ∧
  (∀ (a0 : Nat) (a1 : Int32) (a2 : Value) (a3 : Value) (a4 : Value) (st : List Value) (M : xM) (Q : Option Value → xM → Prop), xW xSC 59 6 [.ref a0, .int a1, a2, a3, a4] (.ref 33 :: st) M Q = xW xSC 59 9 [.ref a0, .int a1, a2, a3, a4] (.int (M 33 3) :: st) M Q) ∧
  (∀ (a0 : Nat) (a1 : Int32) (a2 : Value) (a3 : Value) (a4 : Value) (y0 : Int32) (st : List Value) (M : xM) (Q : Option Value → xM → Prop), xW xSC 59 9 [.ref a0, .int a1, a2, a3, a4] (.int y0 :: st) M Q = xW xSC 59 10 [.ref a0, .int a1, .int y0, a3, a4] (st) M Q) ∧
  (∀ (a0 : Nat) (a1 : Int32) (a2 : Int32) (a3 : Value) (a4 : Value) (st : List Value) (M : xM) (Q : Option Value → xM → Prop), xW xSC 59 10 [.ref a0, .int a1, .int a2, a3, a4] (st) M Q = xW xSC 59 11 [.ref a0, .int a1, .int a2, a3, a4] (.int (nI 0) :: st) M Q) ∧
  (∀ (a0 : Nat) (a1 : Int32) (a2 : Int32) (a3 : Value) (a4 : Value) (y0 : Int32) (st : List Value) (M : xM) (Q : Option Value → xM → Prop), xW xSC 59 11 [.ref a0, .int a1, .int a2, a3, a4] (.int y0 :: st) M Q = xW xSC 59 12 [.ref a0, .int a1, .int a2, .int y0, a4] (st) M Q) ∧
  (∀ (a0 : Nat) (a1 : Int32) (a2 : Int32) (a3 : Int32) (a4 : Value) (st : List Value) (M : xM) (Q : Option Value → xM → Prop), xW xSC 59 13 [.ref a0, .int a1, .int a2, .int a3, a4] (st) M Q = xW xSC 59 15 [.ref a0, .int a1, .int a2, .int a3, a4] (.int (nI 64) :: st) M Q) ∧
  (∀ (a0 : Nat) (a1 : Int32) (a2 : Int32) (a3 : Int32) (a4 : Value) (y0 : Int32) (y1 : Int32) (st : List Value) (M : xM) (Q : Option Value → xM → Prop), xW xSC 59 15 [.ref a0, .int a1, .int a2, .int a3, a4] (.int y0 :: .int y1 :: st) M Q = if y1 < y0 then xW xSC 59 18 [.ref a0, .int a1, .int a2, .int a3, a4] (st) M Q else xW xSC 59 38 [.ref a0, .int a1, .int a2, .int a3, a4] (st) M Q) ∧
  (∀ (a0 : Nat) (a1 : Int32) (a2 : Int32) (a3 : Int32) (a4 : Value) (st : List Value) (M : xM) (Q : Option Value → xM → Prop), xW xSC 59 18 [.ref a0, .int a1, .int a2, .int a3, a4] (st) M Q = xW xSC 59 19 [.ref a0, .int a1, .int a2, .int a3, a4] (.int a2 :: st) M Q) ∧
  (∀ (a0 : Nat) (a1 : Int32) (a2 : Int32) (a3 : Int32) (a4 : Value) (y0 : Int32) (st : List Value) (M : xM) (Q : Option Value → xM → Prop), xW xSC 59 19 [.ref a0, .int a1, .int a2, .int a3, a4] (.int y0 :: st) M Q = if y0 = nI 0 then xW xSC 59 38 [.ref a0, .int a1, .int a2, .int a3, a4] (st) M Q else xW xSC 59 22 [.ref a0, .int a1, .int a2, .int a3, a4] (st) M Q) ∧
  (∀ (a0 : Nat) (a1 : Int32) (a2 : Int32) (a3 : Int32) (a4 : Value) (st : List Value) (M : xM) (Q : Option Value → xM → Prop), xW xSC 59 22 [.ref a0, .int a1, .int a2, .int a3, a4] (st) M Q = xW xSC 59 23 [.ref a0, .int a1, .int a2, .int a3, a4] (.int a1 :: st) M Q) ∧
  (∀ (a0 : Nat) (a1 : Int32) (a2 : Int32) (a3 : Int32) (a4 : Value) (st : List Value) (M : xM) (Q : Option Value → xM → Prop), xW xSC 59 23 [.ref a0, .int a1, .int a2, .int a3, a4] (st) M Q = xW xSC 59 24 [.ref a0, .int a1, .int a2, .int a3, a4] (.int a2 :: st) M Q) ∧
  (∀ (a0 : Nat) (a1 : Int32) (a2 : Int32) (a3 : Int32) (a4 : Value) (y0 : Nat) (y1 : Int32) (st : List Value) (M : xM) (Q : Option Value → xM → Prop), 0 < y0 → y0 < 2 ^ 31 → xW xSC 59 24 [.ref a0, .int a1, .int a2, .int a3, a4] (.int (nI y0) :: .int y1 :: st) M Q = xW xSC 59 25 [.ref a0, .int a1, .int a2, .int a3, a4] (.int (y1 - y1 / nI y0 * nI y0) :: st) M Q) ∧
  (∀ (a0 : Nat) (a1 : Int32) (a2 : Int32) (a3 : Int32) (a4 : Value) (y0 : Int32) (st : List Value) (M : xM) (Q : Option Value → xM → Prop), xW xSC 59 25 [.ref a0, .int a1, .int a2, .int a3, a4] (.int y0 :: st) M Q = xW xSC 59 27 [.ref a0, .int a1, .int a2, .int a3, .int y0] (st) M Q) ∧
  (∀ (a0 : Nat) (a1 : Int32) (a2 : Int32) (a3 : Int32) (a4 : Int32) (st : List Value) (M : xM) (Q : Option Value → xM → Prop), xW xSC 59 27 [.ref a0, .int a1, .int a2, .int a3, .int a4] (st) M Q = xW xSC 59 28 [.ref a0, .int a1, .int a2, .int a3, .int a4] (.int a2 :: st) M Q) ∧
  (∀ (a0 : Nat) (a1 : Int32) (a2 : Int32) (a3 : Int32) (a4 : Int32) (y0 : Int32) (st : List Value) (M : xM) (Q : Option Value → xM → Prop), xW xSC 59 28 [.ref a0, .int a1, .int a2, .int a3, .int a4] (.int y0 :: st) M Q = xW xSC 59 29 [.ref a0, .int y0, .int a2, .int a3, .int a4] (st) M Q) ∧
  (∀ (a0 : Nat) (a1 : Int32) (a2 : Int32) (a3 : Int32) (a4 : Int32) (st : List Value) (M : xM) (Q : Option Value → xM → Prop), xW xSC 59 29 [.ref a0, .int a1, .int a2, .int a3, .int a4] (st) M Q = xW xSC 59 31 [.ref a0, .int a1, .int a2, .int a3, .int a4] (.int a4 :: st) M Q) ∧
  (∀ (a0 : Nat) (a1 : Int32) (a2 : Int32) (a3 : Int32) (a4 : Int32) (y0 : Int32) (st : List Value) (M : xM) (Q : Option Value → xM → Prop), xW xSC 59 31 [.ref a0, .int a1, .int a2, .int a3, .int a4] (.int y0 :: st) M Q = xW xSC 59 32 [.ref a0, .int a1, .int y0, .int a3, .int a4] (st) M Q) ∧
  (∀ (a0 : Nat) (a1 : Int32) (a2 : Int32) (a3 : Int32) (a4 : Int32) (st : List Value) (M : xM) (Q : Option Value → xM → Prop), xW xSC 59 32 [.ref a0, .int a1, .int a2, .int a3, .int a4] (st) M Q = xW xSC 59 35 [.ref a0, .int a1, .int a2, .int (a3 + nI 1), .int a4] (st) M Q) ∧
  (∀ (a0 : Nat) (a1 : Int32) (a2 : Int32) (a3 : Int32) (a4 : Int32) (st : List Value) (M : xM) (Q : Option Value → xM → Prop), xW xSC 59 35 [.ref a0, .int a1, .int a2, .int a3, .int a4] (st) M Q = xW xSC 59 12 [.ref a0, .int a1, .int a2, .int a3, .int a4] (st) M Q) ∧
  (∀ (a0 : Nat) (a1 : Int32) (a2 : Int32) (a3 : Int32) (a4 : Value) (y0 : Int32) (M : xM) (Q : Option Value → xM → Prop), xW xSC 59 39 [.ref a0, .int a1, .int a2, .int a3, a4] ([.int y0]) M Q = Q (some (.int y0)) M) ∧
  (∀ (a0 : Nat) (a1 : Value) (a2 : Value) (a3 : Value) (a4 : Value) (st : List Value) (M : xM) (Q : Option Value → xM → Prop), xW xSC 59 1 [.ref a0, a1, a2, a3, a4] (.ref 35 :: st) M Q = xW xSC 59 4 [.ref a0, a1, a2, a3, a4] (.int (M 35 2) :: st) M Q) ∧
  (∀ (a0 : Nat) (a1 : Int32) (a2 : Value) (a3 : Value) (a4 : Value) (st : List Value) (M : xM) (Q : Option Value → xM → Prop), xW xSC 59 6 [.ref a0, .int a1, a2, a3, a4] (.ref 35 :: st) M Q = xW xSC 59 9 [.ref a0, .int a1, a2, a3, a4] (.int (M 35 3) :: st) M Q) ∧
  (∀ (a0 : Nat) (a1 : Value) (a2 : Value) (a3 : Value) (a4 : Value) (st : List Value) (M : xM) (Q : Option Value → xM → Prop), xW xSC 59 1 [.ref a0, a1, a2, a3, a4] (.ref 40 :: st) M Q = xW xSC 59 4 [.ref a0, a1, a2, a3, a4] (.int (M 40 2) :: st) M Q) ∧
  (∀ (a0 : Nat) (a1 : Int32) (a2 : Value) (a3 : Value) (a4 : Value) (st : List Value) (M : xM) (Q : Option Value → xM → Prop), xW xSC 59 6 [.ref a0, .int a1, a2, a3, a4] (.ref 40 :: st) M Q = xW xSC 59 9 [.ref a0, .int a1, a2, a3, a4] (.int (M 40 3) :: st) M Q) :=
  ⟨fun a0 a1 a2 a3 a4 st M Q => xw_s rfl rfl,
  fun a0 a1 a2 a3 a4 st M Q => xw_s rfl rfl,
  fun a0 a1 a2 a3 a4 y0 st M Q => xw_s rfl rfl,
  fun a0 a1 a2 a3 a4 st M Q => xw_s rfl rfl,
  fun a0 a1 a2 a3 a4 st M Q => xw_s rfl rfl,
  fun a0 a1 a2 a3 a4 y0 st M Q => xw_s rfl rfl,
  fun a0 a1 a2 a3 a4 st M Q => xw_s rfl rfl,
  fun a0 a1 a2 a3 a4 y0 st M Q => xw_s rfl rfl,
  fun a0 a1 a2 a3 a4 st M Q => xw_s rfl rfl,
  fun a0 a1 a2 a3 a4 y0 y1 st M Q => xw_brn (c0 := y0 ≤ y1) (c1 := y1 < y0) rfl rfl (xge _ _),
  fun a0 a1 a2 a3 a4 st M Q => xw_s rfl rfl,
  fun a0 a1 a2 a3 a4 y0 st M Q => xw_br (c0 := y0 = nI 0) rfl rfl,
  fun a0 a1 a2 a3 a4 st M Q => xw_s rfl rfl,
  fun a0 a1 a2 a3 a4 st M Q => xw_s rfl rfl,
  fun a0 a1 a2 a3 a4 y0 y1 st M Q h0 h1 => xw_div (f := fun x y => x - x / y * y) rfl rfl (nI_ne0 h0 h1),
  fun a0 a1 a2 a3 a4 y0 st M Q => xw_s rfl rfl,
  fun a0 a1 a2 a3 a4 st M Q => xw_s rfl rfl,
  fun a0 a1 a2 a3 a4 y0 st M Q => xw_s rfl rfl,
  fun a0 a1 a2 a3 a4 st M Q => xw_s rfl rfl,
  fun a0 a1 a2 a3 a4 y0 st M Q => xw_s rfl rfl,
  fun a0 a1 a2 a3 a4 st M Q => xw_s rfl rfl,
  fun a0 a1 a2 a3 a4 st M Q => xw_s rfl rfl,
  fun a0 a1 a2 a3 a4 y0 M Q => xw_ret rfl rfl,
  fun a0 a1 a2 a3 a4 st M Q => xw_s rfl rfl,
  fun a0 a1 a2 a3 a4 st M Q => xw_s rfl rfl,
  fun a0 a1 a2 a3 a4 st M Q => xw_s rfl rfl,
  fun a0 a1 a2 a3 a4 st M Q => xw_s rfl rfl⟩
set_option maxRecDepth 20000 in
theorem h59_12 :
  (∀ (a0 : Nat) (a1 : Int32) (a2 : Int32) (a3 : Int32) (a4 : Value) (st : List Value) (M : xM) (Q : Option Value → xM → Prop), xW xSC 59 12 [.ref a0, .int a1, .int a2, .int a3, a4] (st) M Q = xW xSC 59 13 [.ref a0, .int a1, .int a2, .int a3, a4] (.int a3 :: st) M Q) :=
  fun a0 a1 a2 a3 a4 st M Q => xw_s rfl rfl
set_option maxRecDepth 20000 in
theorem h59_38 :
  (∀ (a0 : Nat) (a1 : Int32) (a2 : Int32) (a3 : Int32) (a4 : Value) (st : List Value) (M : xM) (Q : Option Value → xM → Prop), xW xSC 59 38 [.ref a0, .int a1, .int a2, .int a3, a4] (st) M Q = xW xSC 59 39 [.ref a0, .int a1, .int a2, .int a3, a4] (.int a1 :: st) M Q) :=
  fun a0 a1 a2 a3 a4 st M Q => xw_s rfl rfl
set_option maxRecDepth 20000 in
theorem j59 :
  (∀ (a0 : Nat) (a1 : Int32) (a2 : Int32) (a3 : Int32) (a4 : Value) (st : List Value) (M : xM) (Q : Option Value → xM → Prop), xW xSC 59 38 [.ref a0, .int a1, .int a2, .int a3, a4] (st) M Q = xW xSC 59 39 [.ref a0, .int a1, .int a2, .int a3, a4] (.int a1 :: st) M Q) :=
  fun a0 a1 a2 a3 a4 st M Q => xw_s rfl rfl

set_option maxRecDepth 20000 in
theorem s61 :
  (∀ (a0 : Nat) (a1 : Nat) (a2 : Int32) (a3 : Int32) (st : List Value) (M : xM) (Q : Option Value → xM → Prop), xW xSC 61 0 [.ref a0, .ref a1, .int a2, .int a3] (st) M Q = xW xSC 61 1 [.ref a0, .ref a1, .int a2, .int a3] (.ref a0 :: st) M Q) ∧
  (∀ (a0 : Nat) (a1 : Nat) (a2 : Int32) (a3 : Int32) (st : List Value) (M : xM) (Q : Option Value → xM → Prop), xW xSC 61 1 [.ref a0, .ref a1, .int a2, .int a3] (.ref 39 :: st) M Q = xW xSC 61 4 [.ref a0, .ref a1, .int a2, .int a3] (.ref 40 :: st) M Q) ∧
  (∀ (a0 : Nat) (a1 : Nat) (a2 : Int32) (a3 : Int32) (st : List Value) (M : xM) (Q : Option Value → xM → Prop), xW xSC 61 4 [.ref a0, .ref a1, .int a2, .int a3] (st) M Q = xW xSC 61 5 [.ref a0, .ref a1, .int a2, .int a3] (.ref a1 :: st) M Q) ∧
  (∀ (a0 : Nat) (a1 : Nat) (a2 : Int32) (a3 : Int32) (st : List Value) (M : xM) (Q : Option Value → xM → Prop), xW xSC 61 5 [.ref a0, .ref a1, .int a2, .int a3] (st) M Q = xW xSC 61 6 [.ref a0, .ref a1, .int a2, .int a3] (.int a2 :: st) M Q) ∧
  (∀ (a0 : Nat) (a1 : Nat) (a2 : Int32) (a3 : Int32) (st : List Value) (M : xM) (Q : Option Value → xM → Prop), xW xSC 61 6 [.ref a0, .ref a1, .int a2, .int a3] (st) M Q = xW xSC 61 7 [.ref a0, .ref a1, .int a2, .int a3] (.int a3 :: st) M Q) ∧
  (∀ (a0 : Nat) (a1 : Nat) (a2 : Int32) (a3 : Int32) (y0 : Int32) (y1 : Int32) (y2 : Nat) (M : xM) (Q : Option Value → xM → Prop), xW xSC 61 7 [.ref a0, .ref a1, .int a2, .int a3] (.int y0 :: .int y1 :: .ref y2 :: .ref 40 :: []) M Q = xW xSC 44 0 [.ref 40, .ref y2, .int y1, .int y0] [] M (fun v M' => xW xSC 61 10 [.ref a0, .ref a1, .int a2, .int a3] (xpush v []) M' Q)) ∧
  (∀ (a0 : Nat) (a1 : Nat) (a2 : Int32) (a3 : Int32) (st : List Value) (M : xM) (Q : Option Value → xM → Prop), xW xSC 61 10 [.ref a0, .ref a1, .int a2, .int a3] (st) M Q = xW xSC 61 11 [.ref a0, .ref a1, .int a2, .int a3] (.ref a0 :: st) M Q) ∧
  (∀ (a0 : Nat) (a1 : Nat) (a2 : Int32) (a3 : Int32) (st : List Value) (M : xM) (Q : Option Value → xM → Prop), xW xSC 61 11 [.ref a0, .ref a1, .int a2, .int a3] (.ref 39 :: st) M Q = xW xSC 61 14 [.ref a0, .ref a1, .int a2, .int a3] (.ref 40 :: st) M Q) ∧
  (∀ (a0 : Nat) (a1 : Nat) (a2 : Int32) (a3 : Int32) (st : List Value) (M : xM) (Q : Option Value → xM → Prop), xW xSC 61 14 [.ref a0, .ref a1, .int a2, .int a3] (st) M Q = xW xSC 61 15 [.ref a0, .ref a1, .int a2, .int a3] (.ref a1 :: st) M Q) ∧
  (∀ (a0 : Nat) (a1 : Nat) (a2 : Int32) (a3 : Int32) (st : List Value) (M : xM) (Q : Option Value → xM → Prop), xW xSC 61 15 [.ref a0, .ref a1, .int a2, .int a3] (st) M Q = xW xSC 61 16 [.ref a0, .ref a1, .int a2, .int a3] (.int a2 :: st) M Q) ∧
  (∀ (a0 : Nat) (a1 : Nat) (a2 : Int32) (a3 : Int32) (st : List Value) (M : xM) (Q : Option Value → xM → Prop), xW xSC 61 16 [.ref a0, .ref a1, .int a2, .int a3] (st) M Q = xW xSC 61 17 [.ref a0, .ref a1, .int a2, .int a3] (.int a3 :: st) M Q) ∧
  (∀ (a0 : Nat) (a1 : Nat) (a2 : Int32) (a3 : Int32) (y0 : Int32) (y1 : Int32) (y3 : Nat) (M : xM) (Q : Option Value → xM → Prop), xW xSC 61 17 [.ref a0, .ref a1, .int a2, .int a3] (.int y0 :: .int y1 :: .ref 9 :: .ref y3 :: []) M Q = xW xSC 37 0 [.ref 9, .int y1, .int y0] [] M (fun v M' => xW xSC 61 20 [.ref a0, .ref a1, .int a2, .int a3] (xpush v [.ref y3]) M' Q)) ∧
  (∀ (a0 : Nat) (a1 : Nat) (a2 : Int32) (a3 : Int32) (y0 : Int32) (M : xM) (Q : Option Value → xM → Prop), xW xSC 61 20 [.ref a0, .ref a1, .int a2, .int a3] (.int y0 :: .ref 40 :: []) M Q = xW xSC 53 0 [.ref 40, .int y0] [] M (fun v M' => xW xSC 61 23 [.ref a0, .ref a1, .int a2, .int a3] (xpush v []) M' Q)) ∧
  (∀ (a0 : Nat) (a1 : Nat) (a2 : Int32) (a3 : Int32) (y0 : Int32) (M : xM) (Q : Option Value → xM → Prop), y0 = 0 ∨ y0 = 1 → xW xSC 61 23 [.ref a0, .ref a1, .int a2, .int a3] ([.int y0]) M Q = Q (some (.int y0)) M) :=
  ⟨fun a0 a1 a2 a3 st M Q => xw_s rfl rfl,
  fun a0 a1 a2 a3 st M Q => xw_s rfl rfl,
  fun a0 a1 a2 a3 st M Q => xw_s rfl rfl,
  fun a0 a1 a2 a3 st M Q => xw_s rfl rfl,
  fun a0 a1 a2 a3 st M Q => xw_s rfl rfl,
  fun a0 a1 a2 a3 y0 y1 y2 M Q => xw_call rfl rfl rfl,
  fun a0 a1 a2 a3 st M Q => xw_s rfl rfl,
  fun a0 a1 a2 a3 st M Q => xw_s rfl rfl,
  fun a0 a1 a2 a3 st M Q => xw_s rfl rfl,
  fun a0 a1 a2 a3 st M Q => xw_s rfl rfl,
  fun a0 a1 a2 a3 st M Q => xw_s rfl rfl,
  fun a0 a1 a2 a3 y0 y1 y3 M Q => xw_call rfl rfl rfl,
  fun a0 a1 a2 a3 y0 M Q => xw_call rfl rfl rfl,
  fun a0 a1 a2 a3 y0 M Q h0 => xw_retz rfl rfl h0⟩
theorem j61 : True := trivial

set_option maxRecDepth 20000 in
theorem s62 :
  (∀ (a0 : Nat) (a1 : Nat) (a2 : Int32) (a3 : Int32) (a4 : Int32) (a5 : Value) (a6 : Value) (a7 : Value) (a8 : Value) (a9 : Value) (a10 : Value) (a11 : Value) (a12 : Value) (a13 : Value) (st : List Value) (M : xM) (Q : Option Value → xM → Prop), xW xSC 62 0 [.ref a0, .ref a1, .int a2, .int a3, .int a4, a5, a6, a7, a8, a9, a10, a11, a12, a13] (st) M Q = xW xSC 62 1 [.ref a0, .ref a1, .int a2, .int a3, .int a4, a5, a6, a7, a8, a9, a10, a11, a12, a13] (.ref a1 :: st) M Q) ∧
  (∀ (a0 : Nat) (a1 : Nat) (a2 : Int32) (a3 : Int32) (a4 : Int32) (a5 : Value) (a6 : Value) (a7 : Value) (a8 : Value) (a9 : Value) (a10 : Value) (a11 : Value) (a12 : Value) (a13 : Value) (st : List Value) (M : xM) (Q : Option Value → xM → Prop), xW xSC 62 1 [.ref a0, .ref a1, .int a2, .int a3, .int a4, a5, a6, a7, a8, a9, a10, a11, a12, a13] (st) M Q = xW xSC 62 2 [.ref a0, .ref a1, .int a2, .int a3, .int a4, a5, a6, a7, a8, a9, a10, a11, a12, a13] (.int a2 :: st) M Q) ∧
  (∀ (a0 : Nat) (a1 : Nat) (a2 : Int32) (a3 : Int32) (a4 : Int32) (a5 : Value) (a6 : Value) (a7 : Value) (a8 : Value) (a9 : Value) (a10 : Value) (a11 : Value) (a12 : Value) (a13 : Value) (st : List Value) (M : xM) (Q : Option Value → xM → Prop), xW xSC 62 2 [.ref a0, .ref a1, .int a2, .int a3, .int a4, a5, a6, a7, a8, a9, a10, a11, a12, a13] (st) M Q = xW xSC 62 3 [.ref a0, .ref a1, .int a2, .int a3, .int a4, a5, a6, a7, a8, a9, a10, a11, a12, a13] (.int a3 :: st) M Q) ∧
  (∀ (a0 : Nat) (a1 : Nat) (a2 : Int32) (a3 : Int32) (a4 : Int32) (a5 : Value) (a6 : Value) (a7 : Value) (a8 : Value) (a9 : Value) (a10 : Value) (a11 : Value) (a12 : Value) (a13 : Value) (y0 : Int32) (y1 : Int32) (M : xM) (Q : Option Value → xM → Prop), xW xSC 62 3 [.ref a0, .ref a1, .int a2, .int a3, .int a4, a5, a6, a7, a8, a9, a10, a11, a12, a13] (.int y0 :: .int y1 :: .ref 9 :: []) M Q = xW xSC 36 0 [.ref 9, .int y1, .int y0] [] M (fun v M' => xW xSC 62 6 [.ref a0, .ref a1, .int a2, .int a3, .int a4, a5, a6, a7, a8, a9, a10, a11, a12, a13] (xpush v []) M' Q)) ∧
  (∀ (a0 : Nat) (a1 : Nat) (a2 : Int32) (a3 : Int32) (a4 : Int32) (a5 : Value) (a6 : Value) (a7 : Value) (a8 : Value) (a9 : Value) (a10 : Value) (a11 : Value) (a12 : Value) (a13 : Value) (st : List Value) (M : xM) (Q : Option Value → xM → Prop), xW xSC 62 6 [.ref a0, .ref a1, .int a2, .int a3, .int a4, a5, a6, a7, a8, a9, a10, a11, a12, a13] (st) M Q = xW xSC 62 8 [.ref a0, .ref a1, .int a2, .int a3, .int a4, a5, a6, a7, a8, a9, a10, a11, a12, a13] (.int (nI 48) :: st) M Q) ∧
  (∀ (a0 : Nat) (a1 : Nat) (a2 : Int32) (a3 : Int32) (a4 : Int32) (a5 : Value) (a6 : Value) (a7 : Value) (a8 : Value) (a9 : Value) (a10 : Value) (a11 : Value) (a12 : Value) (a13 : Value) (y0 : Int32) (y1 : Int32) (st : List Value) (M : xM) (Q : Option Value → xM → Prop), xW xSC 62 8 [.ref a0, .ref a1, .int a2, .int a3, .int a4, a5, a6, a7, a8, a9, a10, a11, a12, a13] (.int y0 :: .int y1 :: st) M Q = xW xSC 62 9 [.ref a0, .ref a1, .int a2, .int a3, .int a4, a5, a6, a7, a8, a9, a10, a11, a12, a13] (.int (y1 &&& y0) :: st) M Q) ∧
  (∀ (a0 : Nat) (a1 : Nat) (a2 : Int32) (a3 : Int32) (a4 : Int32) (a5 : Value) (a6 : Value) (a7 : Value) (a8 : Value) (a9 : Value) (a10 : Value) (a11 : Value) (a12 : Value) (a13 : Value) (y0 : Int32) (st : List Value) (M : xM) (Q : Option Value → xM → Prop), xW xSC 62 9 [.ref a0, .ref a1, .int a2, .int a3, .int a4, a5, a6, a7, a8, a9, a10, a11, a12, a13] (.int y0 :: st) M Q = xW xSC 62 11 [.ref a0, .ref a1, .int a2, .int a3, .int a4, .int y0, a6, a7, a8, a9, a10, a11, a12, a13] (st) M Q) ∧
  (∀ (a0 : Nat) (a1 : Nat) (a2 : Int32) (a3 : Int32) (a4 : Int32) (a5 : Int32) (a6 : Value) (a7 : Value) (a8 : Value) (a9 : Value) (a10 : Value) (a11 : Value) (a12 : Value) (a13 : Value) (st : List Value) (M : xM) (Q : Option Value → xM → Prop), xW xSC 62 11 [.ref a0, .ref a1, .int a2, .int a3, .int a4, .int a5, a6, a7, a8, a9, a10, a11, a12, a13] (st) M Q = xW xSC 62 12 [.ref a0, .ref a1, .int a2, .int a3, .int a4, .int a5, a6, a7, a8, a9, a10, a11, a12, a13] (.ref a1 :: st) M Q) ∧
  (∀ (a0 : Nat) (a1 : Nat) (a2 : Int32) (a3 : Int32) (a4 : Int32) (a5 : Int32) (a6 : Value) (a7 : Value) (a8 : Value) (a9 : Value) (a10 : Value) (a11 : Value) (a12 : Value) (a13 : Value) (st : List Value) (M : xM) (Q : Option Value → xM → Prop), xW xSC 62 12 [.ref a0, .ref a1, .int a2, .int a3, .int a4, .int a5, a6, a7, a8, a9, a10, a11, a12, a13] (st) M Q = xW xSC 62 13 [.ref a0, .ref a1, .int a2, .int a3, .int a4, .int a5, a6, a7, a8, a9, a10, a11, a12, a13] (.int a2 :: st) M Q) ∧
  (∀ (a0 : Nat) (a1 : Nat) (a2 : Int32) (a3 : Int32) (a4 : Int32) (a5 : Int32) (a6 : Value) (a7 : Value) (a8 : Value) (a9 : Value) (a10 : Value) (a11 : Value) (a12 : Value) (a13 : Value) (st : List Value) (M : xM) (Q : Option Value → xM → Prop), xW xSC 62 13 [.ref a0, .ref a1, .int a2, .int a3, .int a4, .int a5, a6, a7, a8, a9, a10, a11, a12, a13] (st) M Q = xW xSC 62 14 [.ref a0, .ref a1, .int a2, .int a3, .int a4, .int a5, a6, a7, a8, a9, a10, a11, a12, a13] (.int a3 :: st) M Q) ∧
  (∀ (a0 : Nat) (a1 : Nat) (a2 : Int32) (a3 : Int32) (a4 : Int32) (a5 : Int32) (a6 : Value) (a7 : Value) (a8 : Value) (a9 : Value) (a10 : Value) (a11 : Value) (a12 : Value) (a13 : Value) (y0 : Int32) (y1 : Int32) (M : xM) (Q : Option Value → xM → Prop), xW xSC 62 14 [.ref a0, .ref a1, .int a2, .int a3, .int a4, .int a5, a6, a7, a8, a9, a10, a11, a12, a13] (.int y0 :: .int y1 :: .ref 9 :: []) M Q = xW xSC 37 0 [.ref 9, .int y1, .int y0] [] M (fun v M' => xW xSC 62 17 [.ref a0, .ref a1, .int a2, .int a3, .int a4, .int a5, a6, a7, a8, a9, a10, a11, a12, a13] (xpush v []) M' Q)) ∧
  (∀ (a0 : Nat) (a1 : Nat) (a2 : Int32) (a3 : Int32) (a4 : Int32) (a5 : Int32) (a6 : Value) (a7 : Value) (a8 : Value) (a9 : Value) (a10 : Value) (a11 : Value) (a12 : Value) (a13 : Value) (y0 : Int32) (st : List Value) (M : xM) (Q : Option Value → xM → Prop), xW xSC 62 17 [.ref a0, .ref a1, .int a2, .int a3, .int a4, .int a5, a6, a7, a8, a9, a10, a11, a12, a13] (.int y0 :: st) M Q = xW xSC 62 19 [.ref a0, .ref a1, .int a2, .int a3, .int a4, .int a5, .int y0, a7, a8, a9, a10, a11, a12, a13] (st) M Q) ∧
  (∀ (a0 : Nat) (a1 : Nat) (a2 : Int32) (a3 : Int32) (a4 : Int32) (a5 : Int32) (a6 : Int32) (a7 : Value) (a8 : Value) (a9 : Value) (a10 : Value) (a11 : Value) (a12 : Value) (a13 : Value) (st : List Value) (M : xM) (Q : Option Value → xM → Prop), xW xSC 62 19 [.ref a0, .ref a1, .int a2, .int a3, .int a4, .int a5, .int a6, a7, a8, a9, a10, a11, a12, a13] (st) M Q = xW xSC 62 20 [.ref a0, .ref a1, .int a2, .int a3, .int a4, .int a5, .int a6, a7, a8, a9, a10, a11, a12, a13] (.ref a1 :: st) M Q) ∧
  (∀ (a0 : Nat) (a1 : Nat) (a2 : Int32) (a3 : Int32) (a4 : Int32) (a5 : Int32) (a6 : Int32) (a7 : Value) (a8 : Value) (a9 : Value) (a10 : Value) (a11 : Value) (a12 : Value) (a13 : Value) (st : List Value) (M : xM) (Q : Option Value → xM → Prop), xW xSC 62 20 [.ref a0, .ref a1, .int a2, .int a3, .int a4, .int a5, .int a6, a7, a8, a9, a10, a11, a12, a13] (st) M Q = xW xSC 62 21 [.ref a0, .ref a1, .int a2, .int a3, .int a4, .int a5, .int a6, a7, a8, a9, a10, a11, a12, a13] (.int a2 :: st) M Q) ∧
  (∀ (a0 : Nat) (a1 : Nat) (a2 : Int32) (a3 : Int32) (a4 : Int32) (a5 : Int32) (a6 : Int32) (a7 : Value) (a8 : Value) (a9 : Value) (a10 : Value) (a11 : Value) (a12 : Value) (a13 : Value) (st : List Value) (M : xM) (Q : Option Value → xM → Prop), xW xSC 62 21 [.ref a0, .ref a1, .int a2, .int a3, .int a4, .int a5, .int a6, a7, a8, a9, a10, a11, a12, a13] (st) M Q = xW xSC 62 22 [.ref a0, .ref a1, .int a2, .int a3, .int a4, .int a5, .int a6, a7, a8, a9, a10, a11, a12, a13] (.int (nI 1) :: st) M Q) ∧
  (∀ (a0 : Nat) (a1 : Nat) (a2 : Int32) (a3 : Int32) (a4 : Int32) (a5 : Int32) (a6 : Int32) (a7 : Value) (a8 : Value) (a9 : Value) (a10 : Value) (a11 : Value) (a12 : Value) (a13 : Value) (st : List Value) (M : xM) (Q : Option Value → xM → Prop), xW xSC 62 22 [.ref a0, .ref a1, .int a2, .int a3, .int a4, .int a5, .int a6, a7, a8, a9, a10, a11, a12, a13] (st) M Q = xW xSC 62 23 [.ref a0, .ref a1, .int a2, .int a3, .int a4, .int a5, .int a6, a7, a8, a9, a10, a11, a12, a13] (.int a3 :: st) M Q) ∧
  (∀ (a0 : Nat) (a1 : Nat) (a2 : Int32) (a3 : Int32) (a4 : Int32) (a5 : Int32) (a6 : Int32) (a7 : Value) (a8 : Value) (a9 : Value) (a10 : Value) (a11 : Value) (a12 : Value) (a13 : Value) (y0 : Int32) (y1 : Int32) (st : List Value) (M : xM) (Q : Option Value → xM → Prop), xW xSC 62 23 [.ref a0, .ref a1, .int a2, .int a3, .int a4, .int a5, .int a6, a7, a8, a9, a10, a11, a12, a13] (.int y0 :: .int y1 :: st) M Q = xW xSC 62 24 [.ref a0, .ref a1, .int a2, .int a3, .int a4, .int a5, .int a6, a7, a8, a9, a10, a11, a12, a13] (.int (y1 - y0) :: st) M Q) ∧
  (∀ (a0 : Nat) (a1 : Nat) (a2 : Int32) (a3 : Int32) (a4 : Int32) (a5 : Int32) (a6 : Int32) (a7 : Value) (a8 : Value) (a9 : Value) (a10 : Value) (a11 : Value) (a12 : Value) (a13 : Value) (y0 : Int32) (y1 : Int32) (M : xM) (Q : Option Value → xM → Prop), xW xSC 62 24 [.ref a0, .ref a1, .int a2, .int a3, .int a4, .int a5, .int a6, a7, a8, a9, a10, a11, a12, a13] (.int y0 :: .int y1 :: .ref 9 :: []) M Q = xW xSC 36 0 [.ref 9, .int y1, .int y0] [] M (fun v M' => xW xSC 62 27 [.ref a0, .ref a1, .int a2, .int a3, .int a4, .int a5, .int a6, a7, a8, a9, a10, a11, a12, a13] (xpush v []) M' Q)) ∧
  (∀ (a0 : Nat) (a1 : Nat) (a2 : Int32) (a3 : Int32) (a4 : Int32) (a5 : Int32) (a6 : Int32) (a7 : Value) (a8 : Value) (a9 : Value) (a10 : Value) (a11 : Value) (a12 : Value) (a13 : Value) (y0 : Int32) (st : List Value) (M : xM) (Q : Option Value → xM → Prop), xW xSC 62 27 [.ref a0, .ref a1, .int a2, .int a3, .int a4, .int a5, .int a6, a7, a8, a9, a10, a11, a12, a13] (.int y0 :: st) M Q = xW xSC 62 29 [.ref a0, .ref a1, .int a2, .int a3, .int a4, .int a5, .int a6, .int y0, a8, a9, a10, a11, a12, a13] (st) M Q) ∧
  (∀ (a0 : Nat) (a1 : Nat) (a2 : Int32) (a3 : Int32) (a4 : Int32) (a5 : Int32) (a6 : Int32) (a7 : Int32) (a8 : Value) (a9 : Value) (a10 : Value) (a11 : Value) (a12 : Value) (a13 : Value) (st : List Value) (M : xM) (Q : Option Value → xM → Prop), xW xSC 62 29 [.ref a0, .ref a1, .int a2, .int a3, .int a4, .int a5, .int a6, .int a7, a8, a9, a10, a11, a12, a13] (st) M Q = xW xSC 62 31 [.ref a0, .ref a1, .int a2, .int a3, .int a4, .int a5, .int a6, .int a7, a8, a9, a10, a11, a12, a13] (.int a5 :: st) M Q) ∧
  (∀ (a0 : Nat) (a1 : Nat) (a2 : Int32) (a3 : Int32) (a4 : Int32) (a5 : Int32) (a6 : Int32) (a7 : Int32) (a8 : Value) (a9 : Value) (a10 : Value) (a11 : Value) (a12 : Value) (a13 : Value) (y0 : Int32) (st : List Value) (M : xM) (Q : Option Value → xM → Prop), xW xSC 62 31 [.ref a0, .ref a1, .int a2, .int a3, .int a4, .int a5, .int a6, .int a7, a8, a9, a10, a11, a12, a13] (.int y0 :: st) M Q = xW xSC 62 33 [.ref a0, .ref a1, .int a2, .int a3, .int a4, .int a5, .int a6, .int a7, .int y0, a9, a10, a11, a12, a13] (st) M Q) ∧
  (∀ (a0 : Nat) (a1 : Nat) (a2 : Int32) (a3 : Int32) (a4 : Int32) (a5 : Int32) (a6 : Int32) (a7 : Int32) (a8 : Int32) (a9 : Value) (a10 : Value) (a11 : Value) (a12 : Value) (a13 : Value) (st : List Value) (M : xM) (Q : Option Value → xM → Prop), xW xSC 62 33 [.ref a0, .ref a1, .int a2, .int a3, .int a4, .int a5, .int a6, .int a7, .int a8, a9, a10, a11, a12, a13] (st) M Q = xW xSC 62 34 [.ref a0, .ref a1, .int a2, .int a3, .int a4, .int a5, .int a6, .int a7, .int a8, a9, a10, a11, a12, a13] (.ref a0 :: st) M Q) ∧
  (∀ (a0 : Nat) (a1 : Nat) (a2 : Int32) (a3 : Int32) (a4 : Int32) (a5 : Int32) (a6 : Int32) (a7 : Int32) (a8 : Int32) (a9 : Value) (a10 : Value) (a11 : Value) (a12 : Value) (a13 : Value) (st : List Value) (M : xM) (Q : Option Value → xM → Prop), xW xSC 62 34 [.ref a0, .ref a1, .int a2, .int a3, .int a4, .int a5, .int a6, .int a7, .int a8, a9, a10, a11, a12, a13] (st) M Q = xW xSC 62 35 [.ref a0, .ref a1, .int a2, .int a3, .int a4, .int a5, .int a6, .int a7, .int a8, a9, a10, a11, a12, a13] (.ref a1 :: st) M Q) ∧
  (∀ (a0 : Nat) (a1 : Nat) (a2 : Int32) (a3 : Int32) (a4 : Int32) (a5 : Int32) (a6 : Int32) (a7 : Int32) (a8 : Int32) (a9 : Value) (a10 : Value) (a11 : Value) (a12 : Value) (a13 : Value) (st : List Value) (M : xM) (Q : Option Value → xM → Prop), xW xSC 62 35 [.ref a0, .ref a1, .int a2, .int a3, .int a4, .int a5, .int a6, .int a7, .int a8, a9, a10, a11, a12, a13] (st) M Q = xW xSC 62 36 [.ref a0, .ref a1, .int a2, .int a3, .int a4, .int a5, .int a6, .int a7, .int a8, a9, a10, a11, a12, a13] (.int a2 :: st) M Q) ∧
  (∀ (a0 : Nat) (a1 : Nat) (a2 : Int32) (a3 : Int32) (a4 : Int32) (a5 : Int32) (a6 : Int32) (a7 : Int32) (a8 : Int32) (a9 : Value) (a10 : Value) (a11 : Value) (a12 : Value) (a13 : Value) (st : List Value) (M : xM) (Q : Option Value → xM → Prop), xW xSC 62 36 [.ref a0, .ref a1, .int a2, .int a3, .int a4, .int a5, .int a6, .int a7, .int a8, a9, a10, a11, a12, a13] (st) M Q = xW xSC 62 38 [.ref a0, .ref a1, .int a2, .int a3, .int a4, .int a5, .int a6, .int a7, .int a8, a9, a10, a11, a12, a13] (.int a6 :: st) M Q) ∧
  (∀ (a0 : Nat) (a1 : Nat) (a2 : Int32) (a3 : Int32) (a4 : Int32) (a5 : Int32) (a6 : Int32) (a7 : Int32) (a8 : Int32) (a9 : Value) (a10 : Value) (a11 : Value) (a12 : Value) (a13 : Value) (st : List Value) (M : xM) (Q : Option Value → xM → Prop), xW xSC 62 38 [.ref a0, .ref a1, .int a2, .int a3, .int a4, .int a5, .int a6, .int a7, .int a8, a9, a10, a11, a12, a13] (st) M Q = xW xSC 62 40 [.ref a0, .ref a1, .int a2, .int a3, .int a4, .int a5, .int a6, .int a7, .int a8, a9, a10, a11, a12, a13] (.int a5 :: st) M Q) ∧
  (∀ (a0 : Nat) (a1 : Nat) (a2 : Int32) (a3 : Int32) (a4 : Int32) (a5 : Int32) (a6 : Int32) (a7 : Int32) (a8 : Int32) (a9 : Value) (a10 : Value) (a11 : Value) (a12 : Value) (a13 : Value) (st : List Value) (M : xM) (Q : Option Value → xM → Prop), xW xSC 62 40 [.ref a0, .ref a1, .int a2, .int a3, .int a4, .int a5, .int a6, .int a7, .int a8, a9, a10, a11, a12, a13] (st) M Q = xW xSC 62 42 [.ref a0, .ref a1, .int a2, .int a3, .int a4, .int a5, .int a6, .int a7, .int a8, a9, a10, a11, a12, a13] (.int a7 :: st) M Q) ∧
  (∀ (a0 : Nat) (a1 : Nat) (a2 : Int32) (a3 : Int32) (a4 : Int32) (a5 : Int32) (a6 : Int32) (a7 : Int32) (a8 : Int32) (a9 : Value) (a10 : Value) (a11 : Value) (a12 : Value) (a13 : Value) (y0 : Int32) (y1 : Int32) (y2 : Int32) (y3 : Int32) (y4 : Nat) (M : xM) (Q : Option Value → xM → Prop), xW xSC 62 42 [.ref a0, .ref a1, .int a2, .int a3, .int a4, .int a5, .int a6, .int a7, .int a8, a9, a10, a11, a12, a13] (.int y0 :: .int y1 :: .int y2 :: .int y3 :: .ref y4 :: .ref 39 :: []) M Q = xW xSC 63 0 [.ref 39, .ref y4, .int y3, .int y2, .int y1, .int y0] [] M (fun v M' => xW xSC 62 45 [.ref a0, .ref a1, .int a2, .int a3, .int a4, .int a5, .int a6, .int a7, .int a8, a9, a10, a11, a12, a13] (xpush v []) M' Q)) ∧
  (∀ (a0 : Nat) (a1 : Nat) (a2 : Int32) (a3 : Int32) (a4 : Int32) (a5 : Int32) (a6 : Int32) (a7 : Int32) (a8 : Int32) (a9 : Value) (a10 : Value) (a11 : Value) (a12 : Value) (a13 : Value) (st : List Value) (M : xM) (Q : Option Value → xM → Prop), xW xSC 62 45 [.ref a0, .ref a1, .int a2, .int a3, .int a4, .int a5, .int a6, .int a7, .int a8, a9, a10, a11, a12, a13] (st) M Q = xW xSC 62 46 [.ref a0, .ref a1, .int a2, .int a3, .int a4, .int a5, .int a6, .int a7, .int a8, a9, a10, a11, a12, a13] (.ref a0 :: st) M Q) ∧
  (∀ (a0 : Nat) (a1 : Nat) (a2 : Int32) (a3 : Int32) (a4 : Int32) (a5 : Int32) (a6 : Int32) (a7 : Int32) (a8 : Int32) (a9 : Value) (a10 : Value) (a11 : Value) (a12 : Value) (a13 : Value) (st : List Value) (M : xM) (Q : Option Value → xM → Prop), xW xSC 62 46 [.ref a0, .ref a1, .int a2, .int a3, .int a4, .int a5, .int a6, .int a7, .int a8, a9, a10, a11, a12, a13] (.ref 39 :: st) M Q = xW xSC 62 49 [.ref a0, .ref a1, .int a2, .int a3, .int a4, .int a5, .int a6, .int a7, .int a8, a9, a10, a11, a12, a13] (.ref 40 :: st) M Q) ∧
  (∀ (a0 : Nat) (a1 : Nat) (a2 : Int32) (a3 : Int32) (a4 : Int32) (a5 : Int32) (a6 : Int32) (a7 : Int32) (a8 : Int32) (a9 : Value) (a10 : Value) (a11 : Value) (a12 : Value) (a13 : Value) (st : List Value) (M : xM) (Q : Option Value → xM → Prop), xW xSC 62 49 [.ref a0, .ref a1, .int a2, .int a3, .int a4, .int a5, .int a6, .int a7, .int a8, a9, a10, a11, a12, a13] (.ref 40 :: st) M Q = xW xSC 62 52 [.ref a0, .ref a1, .int a2, .int a3, .int a4, .int a5, .int a6, .int a7, .int a8, a9, a10, a11, a12, a13] (.int (M 40 2) :: st) M Q) ∧
  (∀ (a0 : Nat) (a1 : Nat) (a2 : Int32) (a3 : Int32) (a4 : Int32) (a5 : Int32) (a6 : Int32) (a7 : Int32) (a8 : Int32) (a9 : Value) (a10 : Value) (a11 : Value) (a12 : Value) (a13 : Value) (y0 : Int32) (st : List Value) (M : xM) (Q : Option Value → xM → Prop), xW xSC 62 52 [.ref a0, .ref a1, .int a2, .int a3, .int a4, .int a5, .int a6, .int a7, .int a8, a9, a10, a11, a12, a13] (.int y0 :: st) M Q = xW xSC 62 54 [.ref a0, .ref a1, .int a2, .int a3, .int a4, .int a5, .int a6, .int a7, .int a8, .int y0, a10, a11, a12, a13] (st) M Q) ∧
  (∀ (a0 : Nat) (a1 : Nat) (a2 : Int32) (a3 : Int32) (a4 : Int32) (a5 : Int32) (a6 : Int32) (a7 : Int32) (a8 : Int32) (a9 : Int32) (a10 : Value) (a11 : Value) (a12 : Value) (a13 : Value) (st : List Value) (M : xM) (Q : Option Value → xM → Prop), xW xSC 62 54 [.ref a0, .ref a1, .int a2, .int a3, .int a4, .int a5, .int a6, .int a7, .int a8, .int a9, a10, a11, a12, a13] (st) M Q = xW xSC 62 55 [.ref a0, .ref a1, .int a2, .int a3, .int a4, .int a5, .int a6, .int a7, .int a8, .int a9, a10, a11, a12, a13] (.ref a0 :: st) M Q) ∧
  (∀ (a0 : Nat) (a1 : Nat) (a2 : Int32) (a3 : Int32) (a4 : Int32) (a5 : Int32) (a6 : Int32) (a7 : Int32) (a8 : Int32) (a9 : Int32) (a10 : Value) (a11 : Value) (a12 : Value) (a13 : Value) (st : List Value) (M : xM) (Q : Option Value → xM → Prop), xW xSC 62 55 [.ref a0, .ref a1, .int a2, .int a3, .int a4, .int a5, .int a6, .int a7, .int a8, .int a9, a10, a11, a12, a13] (.ref 39 :: st) M Q = xW xSC 62 58 [.ref a0, .ref a1, .int a2, .int a3, .int a4, .int a5, .int a6, .int a7, .int a8, .int a9, a10, a11, a12, a13] (.ref 40 :: st) M Q) ∧
  (∀ (a0 : Nat) (a1 : Nat) (a2 : Int32) (a3 : Int32) (a4 : Int32) (a5 : Int32) (a6 : Int32) (a7 : Int32) (a8 : Int32) (a9 : Int32) (a10 : Value) (a11 : Value) (a12 : Value) (a13 : Value) (st : List Value) (M : xM) (Q : Option Value → xM → Prop), xW xSC 62 58 [.ref a0, .ref a1, .int a2, .int a3, .int a4, .int a5, .int a6, .int a7, .int a8, .int a9, a10, a11, a12, a13] (.ref 40 :: st) M Q = xW xSC 62 61 [.ref a0, .ref a1, .int a2, .int a3, .int a4, .int a5, .int a6, .int a7, .int a8, .int a9, a10, a11, a12, a13] (.int (M 40 3) :: st) M Q) ∧
  (∀ (a0 : Nat) (a1 : Nat) (a2 : Int32) (a3 : Int32) (a4 : Int32) (a5 : Int32) (a6 : Int32) (a7 : Int32) (a8 : Int32) (a9 : Int32) (a10 : Value) (a11 : Value) (a12 : Value) (a13 : Value) (y0 : Int32) (st : List Value) (M : xM) (Q : Option Value → xM → Prop), xW xSC 62 61 [.ref a0, .ref a1, .int a2, .int a3, .int a4, .int a5, .int a6, .int a7, .int a8, .int a9, a10, a11, a12, a13] (.int y0 :: st) M Q = xW xSC 62 63 [.ref a0, .ref a1, .int a2, .int a3, .int a4, .int a5, .int a6, .int a7, .int a8, .int a9, .int y0, a11, a12, a13] (st) M Q) ∧
  (∀ (a0 : Nat) (a1 : Nat) (a2 : Int32) (a3 : Int32) (a4 : Int32) (a5 : Int32) (a6 : Int32) (a7 : Int32) (a8 : Int32) (a9 : Int32) (a10 : Int32) (a11 : Value) (a12 : Value) (a13 : Value) (st : List Value) (M : xM) (Q : Option Value → xM → Prop), xW xSC 62 63 [.ref a0, .ref a1, .int a2, .int a3, .int a4, .int a5, .int a6, .int a7, .int a8, .int a9, .int a10, a11, a12, a13] (st) M Q = xW xSC 62 64 [.ref a0, .ref a1, .int a2, .int a3, .int a4, .int a5, .int a6, .int a7, .int a8, .int a9, .int a10, a11, a12, a13] (.int (nI 1) :: st) M Q) ∧
  (∀ (a0 : Nat) (a1 : Nat) (a2 : Int32) (a3 : Int32) (a4 : Int32) (a5 : Int32) (a6 : Int32) (a7 : Int32) (a8 : Int32) (a9 : Int32) (a10 : Int32) (a11 : Value) (a12 : Value) (a13 : Value) (y0 : Int32) (st : List Value) (M : xM) (Q : Option Value → xM → Prop), xW xSC 62 64 [.ref a0, .ref a1, .int a2, .int a3, .int a4, .int a5, .int a6, .int a7, .int a8, .int a9, .int a10, a11, a12, a13] (.int y0 :: st) M Q = xW xSC 62 66 [.ref a0, .ref a1, .int a2, .int a3, .int a4, .int a5, .int a6, .int a7, .int a8, .int a9, .int a10, .int y0, a12, a13] (st) M Q) ∧
  (∀ (a0 : Nat) (a1 : Nat) (a2 : Int32) (a3 : Int32) (a4 : Int32) (a5 : Int32) (a6 : Int32) (a7 : Int32) (a8 : Int32) (a9 : Int32) (a10 : Int32) (a11 : Int32) (a12 : Value) (a13 : Value) (st : List Value) (M : xM) (Q : Option Value → xM → Prop), xW xSC 62 68 [.ref a0, .ref a1, .int a2, .int a3, .int a4, .int a5, .int a6, .int a7, .int a8, .int a9, .int a10, .int a11, a12, a13] (st) M Q = xW xSC 62 70 [.ref a0, .ref a1, .int a2, .int a3, .int a4, .int a5, .int a6, .int a7, .int a8, .int a9, .int a10, .int a11, a12, a13] (.int (nI 16) :: st) M Q) ∧
  (∀ (a0 : Nat) (a1 : Nat) (a2 : Int32) (a3 : Int32) (a4 : Int32) (a5 : Int32) (a6 : Int32) (a7 : Int32) (a8 : Int32) (a9 : Int32) (a10 : Int32) (a11 : Int32) (a12 : Value) (a13 : Value) (y0 : Int32) (y1 : Int32) (st : List Value) (M : xM) (Q : Option Value → xM → Prop), xW xSC 62 70 [.ref a0, .ref a1, .int a2, .int a3, .int a4, .int a5, .int a6, .int a7, .int a8, .int a9, .int a10, .int a11, a12, a13] (.int y0 :: .int y1 :: st) M Q = if y1 < y0 then xW xSC 62 73 [.ref a0, .ref a1, .int a2, .int a3, .int a4, .int a5, .int a6, .int a7, .int a8, .int a9, .int a10, .int a11, a12, a13] (st) M Q else xW xSC 62 188 [.ref a0, .ref a1, .int a2, .int a3, .int a4, .int a5, .int a6, .int a7, .int a8, .int a9, .int a10, .int a11, a12, a13] (st) M Q) ∧
  (∀ (a0 : Nat) (a1 : Nat) (a2 : Int32) (a3 : Int32) (a4 : Int32) (a5 : Int32) (a6 : Int32) (a7 : Int32) (a8 : Int32) (a9 : Int32) (a10 : Int32) (a11 : Int32) (a12 : Value) (a13 : Value) (st : List Value) (M : xM) (Q : Option Value → xM → Prop), xW xSC 62 73 [.ref a0, .ref a1, .int a2, .int a3, .int a4, .int a5, .int a6, .int a7, .int a8, .int a9, .int a10, .int a11, a12, a13] (st) M Q = xW xSC 62 74 [.ref a0, .ref a1, .int a2, .int a3, .int a4, .int a5, .int a6, .int a7, .int a8, .int a9, .int a10, .int a11, a12, a13] (.ref a1 :: st) M Q) ∧
  (∀ (a0 : Nat) (a1 : Nat) (a2 : Int32) (a3 : Int32) (a4 : Int32) (a5 : Int32) (a6 : Int32) (a7 : Int32) (a8 : Int32) (a9 : Int32) (a10 : Int32) (a11 : Int32) (a12 : Value) (a13 : Value) (st : List Value) (M : xM) (Q : Option Value → xM → Prop), xW xSC 62 74 [.ref a0, .ref a1, .int a2, .int a3, .int a4, .int a5, .int a6, .int a7, .int a8, .int a9, .int a10, .int a11, a12, a13] (st) M Q = xW xSC 62 76 [.ref a0, .ref a1, .int a2, .int a3, .int a4, .int a5, .int a6, .int a7, .int a8, .int a9, .int a10, .int a11, a12, a13] (.int a11 :: st) M Q) ∧
  (∀ (a0 : Nat) (a1 : Nat) (a2 : Int32) (a3 : Int32) (a4 : Int32) (a5 : Int32) (a6 : Int32) (a7 : Int32) (a8 : Int32) (a9 : Int32) (a10 : Int32) (a11 : Int32) (a12 : Value) (a13 : Value) (y0 : Int32) (M : xM) (Q : Option Value → xM → Prop), xW xSC 62 76 [.ref a0, .ref a1, .int a2, .int a3, .int a4, .int a5, .int a6, .int a7, .int a8, .int a9, .int a10, .int a11, a12, a13] (.int y0 :: .ref 9 :: []) M Q = xW xSC 41 0 [.ref 9, .int y0, .null, .null] [] M (fun v M' => xW xSC 62 79 [.ref a0, .ref a1, .int a2, .int a3, .int a4, .int a5, .int a6, .int a7, .int a8, .int a9, .int a10, .int a11, a12, a13] (xpush v []) M' Q)) ∧
  (∀ (a0 : Nat) (a1 : Nat) (a2 : Int32) (a3 : Int32) (a4 : Int32) (a5 : Int32) (a6 : Int32) (a7 : Int32) (a8 : Int32) (a9 : Int32) (a10 : Int32) (a11 : Int32) (a12 : Value) (a13 : Value) (y0 : Int32) (st : List Value) (M : xM) (Q : Option Value → xM → Prop), xW xSC 62 79 [.ref a0, .ref a1, .int a2, .int a3, .int a4, .int a5, .int a6, .int a7, .int a8, .int a9, .int a10, .int a11, a12, a13] (.int y0 :: st) M Q = xW xSC 62 81 [.ref a0, .ref a1, .int a2, .int a3, .int a4, .int a5, .int a6, .int a7, .int a8, .int a9, .int a10, .int a11, .int y0, a13] (st) M Q) ∧
  (∀ (a0 : Nat) (a1 : Nat) (a2 : Int32) (a3 : Int32) (a4 : Int32) (a5 : Int32) (a6 : Int32) (a7 : Int32) (a8 : Int32) (a9 : Int32) (a10 : Int32) (a11 : Int32) (a12 : Int32) (a13 : Value) (st : List Value) (M : xM) (Q : Option Value → xM → Prop), xW xSC 62 81 [.ref a0, .ref a1, .int a2, .int a3, .int a4, .int a5, .int a6, .int a7, .int a8, .int a9, .int a10, .int a11, .int a12, a13] (st) M Q = xW xSC 62 83 [.ref a0, .ref a1, .int a2, .int a3, .int a4, .int a5, .int a6, .int a7, .int a8, .int a9, .int a10, .int a11, .int a12, a13] (.int a12 :: st) M Q) ∧
  (∀ (a0 : Nat) (a1 : Nat) (a2 : Int32) (a3 : Int32) (a4 : Int32) (a5 : Int32) (a6 : Int32) (a7 : Int32) (a8 : Int32) (a9 : Int32) (a10 : Int32) (a11 : Int32) (a12 : Int32) (a13 : Value) (st : List Value) (M : xM) (Q : Option Value → xM → Prop), xW xSC 62 83 [.ref a0, .ref a1, .int a2, .int a3, .int a4, .int a5, .int a6, .int a7, .int a8, .int a9, .int a10, .int a11, .int a12, a13] (st) M Q = xW xSC 62 85 [.ref a0, .ref a1, .int a2, .int a3, .int a4, .int a5, .int a6, .int a7, .int a8, .int a9, .int a10, .int a11, .int a12, a13] (.int a4 :: st) M Q) ∧
  (∀ (a0 : Nat) (a1 : Nat) (a2 : Int32) (a3 : Int32) (a4 : Int32) (a5 : Int32) (a6 : Int32) (a7 : Int32) (a8 : Int32) (a9 : Int32) (a10 : Int32) (a11 : Int32) (a12 : Int32) (a13 : Value) (y0 : Int32) (y1 : Int32) (st : List Value) (M : xM) (Q : Option Value → xM → Prop), xW xSC 62 85 [.ref a0, .ref a1, .int a2, .int a3, .int a4, .int a5, .int a6, .int a7, .int a8, .int a9, .int a10, .int a11, .int a12, a13] (.int y0 :: .int y1 :: st) M Q = if y0 < y1 then xW xSC 62 88 [.ref a0, .ref a1, .int a2, .int a3, .int a4, .int a5, .int a6, .int a7, .int a8, .int a9, .int a10, .int a11, .int a12, a13] (st) M Q else xW xSC 62 91 [.ref a0, .ref a1, .int a2, .int a3, .int a4, .int a5, .int a6, .int a7, .int a8, .int a9, .int a10, .int a11, .int a12, a13] (st) M Q) ∧
  (∀ (a0 : Nat) (a1 : Nat) (a2 : Int32) (a3 : Int32) (a4 : Int32) (a5 : Int32) (a6 : Int32) (a7 : Int32) (a8 : Int32) (a9 : Int32) (a10 : Int32) (a11 : Int32) (a12 : Int32) (a13 : Value) (st : List Value) (M : xM) (Q : Option Value → xM → Prop), xW xSC 62 88 [.ref a0, .ref a1, .int a2, .int a3, .int a4, .int a5, .int a6, .int a7, .int a8, .int a9, .int a10, .int a11, .int a12, a13] (st) M Q = xW xSC 62 182 [.ref a0, .ref a1, .int a2, .int a3, .int a4, .int a5, .int a6, .int a7, .int a8, .int a9, .int a10, .int a11, .int a12, a13] (st) M Q) ∧
  (∀ (a0 : Nat) (a1 : Nat) (a2 : Int32) (a3 : Int32) (a4 : Int32) (a5 : Int32) (a6 : Int32) (a7 : Int32) (a8 : Int32) (a9 : Int32) (a10 : Int32) (a11 : Int32) (a12 : Int32) (a13 : Value) (st : List Value) (M : xM) (Q : Option Value → xM → Prop), xW xSC 62 91 [.ref a0, .ref a1, .int a2, .int a3, .int a4, .int a5, .int a6, .int a7, .int a8, .int a9, .int a10, .int a11, .int a12, a13] (st) M Q = xW xSC 62 92 [.ref a0, .ref a1, .int a2, .int a3, .int a4, .int a5, .int a6, .int a7, .int a8, .int a9, .int a10, .int a11, .int a12, a13] (.ref a0 :: st) M Q) ∧
  (∀ (a0 : Nat) (a1 : Nat) (a2 : Int32) (a3 : Int32) (a4 : Int32) (a5 : Int32) (a6 : Int32) (a7 : Int32) (a8 : Int32) (a9 : Int32) (a10 : Int32) (a11 : Int32) (a12 : Int32) (a13 : Value) (st : List Value) (M : xM) (Q : Option Value → xM → Prop), xW xSC 62 92 [.ref a0, .ref a1, .int a2, .int a3, .int a4, .int a5, .int a6, .int a7, .int a8, .int a9, .int a10, .int a11, .int a12, a13] (st) M Q = xW xSC 62 93 [.ref a0, .ref a1, .int a2, .int a3, .int a4, .int a5, .int a6, .int a7, .int a8, .int a9, .int a10, .int a11, .int a12, a13] (.ref a1 :: st) M Q) ∧
  (∀ (a0 : Nat) (a1 : Nat) (a2 : Int32) (a3 : Int32) (a4 : Int32) (a5 : Int32) (a6 : Int32) (a7 : Int32) (a8 : Int32) (a9 : Int32) (a10 : Int32) (a11 : Int32) (a12 : Int32) (a13 : Value) (st : List Value) (M : xM) (Q : Option Value → xM → Prop), xW xSC 62 93 [.ref a0, .ref a1, .int a2, .int a3, .int a4, .int a5, .int a6, .int a7, .int a8, .int a9, .int a10, .int a11, .int a12, a13] (st) M Q = xW xSC 62 94 [.ref a0, .ref a1, .int a2, .int a3, .int a4, .int a5, .int a6, .int a7, .int a8, .int a9, .int a10, .int a11, .int a12, a13] (.int a2 :: st) M Q) ∧
  (∀ (a0 : Nat) (a1 : Nat) (a2 : Int32) (a3 : Int32) (a4 : Int32) (a5 : Int32) (a6 : Int32) (a7 : Int32) (a8 : Int32) (a9 : Int32) (a10 : Int32) (a11 : Int32) (a12 : Int32) (a13 : Value) (st : List Value) (M : xM) (Q : Option Value → xM → Prop), xW xSC 62 94 [.ref a0, .ref a1, .int a2, .int a3, .int a4, .int a5, .int a6, .int a7, .int a8, .int a9, .int a10, .int a11, .int a12, a13] (st) M Q = xW xSC 62 96 [.ref a0, .ref a1, .int a2, .int a3, .int a4, .int a5, .int a6, .int a7, .int a8, .int a9, .int a10, .int a11, .int a12, a13] (.int a6 :: st) M Q) ∧
  (∀ (a0 : Nat) (a1 : Nat) (a2 : Int32) (a3 : Int32) (a4 : Int32) (a5 : Int32) (a6 : Int32) (a7 : Int32) (a8 : Int32) (a9 : Int32) (a10 : Int32) (a11 : Int32) (a12 : Int32) (a13 : Value) (st : List Value) (M : xM) (Q : Option Value → xM → Prop), xW xSC 62 96 [.ref a0, .ref a1, .int a2, .int a3, .int a4, .int a5, .int a6, .int a7, .int a8, .int a9, .int a10, .int a11, .int a12, a13] (st) M Q = xW xSC 62 98 [.ref a0, .ref a1, .int a2, .int a3, .int a4, .int a5, .int a6, .int a7, .int a8, .int a9, .int a10, .int a11, .int a12, a13] (.int a11 :: st) M Q) ∧
  (∀ (a0 : Nat) (a1 : Nat) (a2 : Int32) (a3 : Int32) (a4 : Int32) (a5 : Int32) (a6 : Int32) (a7 : Int32) (a8 : Int32) (a9 : Int32) (a10 : Int32) (a11 : Int32) (a12 : Int32) (a13 : Value) (st : List Value) (M : xM) (Q : Option Value → xM → Prop), xW xSC 62 98 [.ref a0, .ref a1, .int a2, .int a3, .int a4, .int a5, .int a6, .int a7, .int a8, .int a9, .int a10, .int a11, .int a12, a13] (st) M Q = xW xSC 62 100 [.ref a0, .ref a1, .int a2, .int a3, .int a4, .int a5, .int a6, .int a7, .int a8, .int a9, .int a10, .int a11, .int a12, a13] (.int a5 :: st) M Q) ∧
  (∀ (a0 : Nat) (a1 : Nat) (a2 : Int32) (a3 : Int32) (a4 : Int32) (a5 : Int32) (a6 : Int32) (a7 : Int32) (a8 : Int32) (a9 : Int32) (a10 : Int32) (a11 : Int32) (a12 : Int32) (a13 : Value) (y0 : Int32) (y1 : Int32) (st : List Value) (M : xM) (Q : Option Value → xM → Prop), xW xSC 62 100 [.ref a0, .ref a1, .int a2, .int a3, .int a4, .int a5, .int a6, .int a7, .int a8, .int a9, .int a10, .int a11, .int a12, a13] (.int y0 :: .int y1 :: st) M Q = xW xSC 62 101 [.ref a0, .ref a1, .int a2, .int a3, .int a4, .int a5, .int a6, .int a7, .int a8, .int a9, .int a10, .int a11, .int a12, a13] (.int (y1 ||| y0) :: st) M Q) ∧
  (∀ (a0 : Nat) (a1 : Nat) (a2 : Int32) (a3 : Int32) (a4 : Int32) (a5 : Int32) (a6 : Int32) (a7 : Int32) (a8 : Int32) (a9 : Int32) (a10 : Int32) (a11 : Int32) (a12 : Int32) (a13 : Value) (st : List Value) (M : xM) (Q : Option Value → xM → Prop), xW xSC 62 101 [.ref a0, .ref a1, .int a2, .int a3, .int a4, .int a5, .int a6, .int a7, .int a8, .int a9, .int a10, .int a11, .int a12, a13] (st) M Q = xW xSC 62 103 [.ref a0, .ref a1, .int a2, .int a3, .int a4, .int a5, .int a6, .int a7, .int a8, .int a9, .int a10, .int a11, .int a12, a13] (.int a7 :: st) M Q) ∧
  (∀ (a0 : Nat) (a1 : Nat) (a2 : Int32) (a3 : Int32) (a4 : Int32) (a5 : Int32) (a6 : Int32) (a7 : Int32) (a8 : Int32) (a9 : Int32) (a10 : Int32) (a11 : Int32) (a12 : Int32) (a13 : Value) (y0 : Int32) (y1 : Int32) (y2 : Int32) (y3 : Int32) (y4 : Nat) (M : xM) (Q : Option Value → xM → Prop), xW xSC 62 103 [.ref a0, .ref a1, .int a2, .int a3, .int a4, .int a5, .int a6, .int a7, .int a8, .int a9, .int a10, .int a11, .int a12, a13] (.int y0 :: .int y1 :: .int y2 :: .int y3 :: .ref y4 :: .ref 39 :: []) M Q = xW xSC 63 0 [.ref 39, .ref y4, .int y3, .int y2, .int y1, .int y0] [] M (fun v M' => xW xSC 62 106 [.ref a0, .ref a1, .int a2, .int a3, .int a4, .int a5, .int a6, .int a7, .int a8, .int a9, .int a10, .int a11, .int a12, a13] (xpush v []) M' Q)) ∧
  (∀ (a0 : Nat) (a1 : Nat) (a2 : Int32) (a3 : Int32) (a4 : Int32) (a5 : Int32) (a6 : Int32) (a7 : Int32) (a8 : Int32) (a9 : Int32) (a10 : Int32) (a11 : Int32) (a12 : Int32) (a13 : Value) (st : List Value) (M : xM) (Q : Option Value → xM → Prop), xW xSC 62 106 [.ref a0, .ref a1, .int a2, .int a3, .int a4, .int a5, .int a6, .int a7, .int a8, .int a9, .int a10, .int a11, .int a12, a13] (st) M Q = xW xSC 62 107 [.ref a0, .ref a1, .int a2, .int a3, .int a4, .int a5, .int a6, .int a7, .int a8, .int a9, .int a10, .int a11, .int a12, a13] (.ref a0 :: st) M Q) ∧
  (∀ (a0 : Nat) (a1 : Nat) (a2 : Int32) (a3 : Int32) (a4 : Int32) (a5 : Int32) (a6 : Int32) (a7 : Int32) (a8 : Int32) (a9 : Int32) (a10 : Int32) (a11 : Int32) (a12 : Int32) (a13 : Value) (st : List Value) (M : xM) (Q : Option Value → xM → Prop), xW xSC 62 107 [.ref a0, .ref a1, .int a2, .int a3, .int a4, .int a5, .int a6, .int a7, .int a8, .int a9, .int a10, .int a11, .int a12, a13] (.ref 39 :: st) M Q = xW xSC 62 110 [.ref a0, .ref a1, .int a2, .int a3, .int a4, .int a5, .int a6, .int a7, .int a8, .int a9, .int a10, .int a11, .int a12, a13] (.ref 40 :: st) M Q) ∧
  (∀ (a0 : Nat) (a1 : Nat) (a2 : Int32) (a3 : Int32) (a4 : Int32) (a5 : Int32) (a6 : Int32) (a7 : Int32) (a8 : Int32) (a9 : Int32) (a10 : Int32) (a11 : Int32) (a12 : Int32) (a13 : Value) (st : List Value) (M : xM) (Q : Option Value → xM → Prop), xW xSC 62 110 [.ref a0, .ref a1, .int a2, .int a3, .int a4, .int a5, .int a6, .int a7, .int a8, .int a9, .int a10, .int a11, .int a12, a13] (st) M Q = xW xSC 62 112 [.ref a0, .ref a1, .int a2, .int a3, .int a4, .int a5, .int a6, .int a7, .int a8, .int a9, .int a10, .int a11, .int a12, a13] (.int a9 :: st) M Q) ∧
  (∀ (a0 : Nat) (a1 : Nat) (a2 : Int32) (a3 : Int32) (a4 : Int32) (a5 : Int32) (a6 : Int32) (a7 : Int32) (a8 : Int32) (a9 : Int32) (a10 : Int32) (a11 : Int32) (a12 : Int32) (a13 : Value) (st : List Value) (M : xM) (Q : Option Value → xM → Prop), xW xSC 62 112 [.ref a0, .ref a1, .int a2, .int a3, .int a4, .int a5, .int a6, .int a7, .int a8, .int a9, .int a10, .int a11, .int a12, a13] (st) M Q = xW xSC 62 114 [.ref a0, .ref a1, .int a2, .int a3, .int a4, .int a5, .int a6, .int a7, .int a8, .int a9, .int a10, .int a11, .int a12, a13] (.int a10 :: st) M Q) ∧
  (∀ (a0 : Nat) (a1 : Nat) (a2 : Int32) (a3 : Int32) (a4 : Int32) (a5 : Int32) (a6 : Int32) (a7 : Int32) (a8 : Int32) (a9 : Int32) (a10 : Int32) (a11 : Int32) (a12 : Int32) (a13 : Value) (y0 : Int32) (y1 : Int32) (M : xM) (Q : Option Value → xM → Prop), xW xSC 62 114 [.ref a0, .ref a1, .int a2, .int a3, .int a4, .int a5, .int a6, .int a7, .int a8, .int a9, .int a10, .int a11, .int a12, a13] (.int y0 :: .int y1 :: .ref 40 :: []) M Q = xW xSC 57 0 [.ref 40, .int y1, .int y0] [] M (fun v M' => xW xSC 62 117 [.ref a0, .ref a1, .int a2, .int a3, .int a4, .int a5, .int a6, .int a7, .int a8, .int a9, .int a10, .int a11, .int a12, a13] (xpush v []) M' Q)) ∧
  (∀ (a0 : Nat) (a1 : Nat) (a2 : Int32) (a3 : Int32) (a4 : Int32) (a5 : Int32) (a6 : Int32) (a7 : Int32) (a8 : Int32) (a9 : Int32) (a10 : Int32) (a11 : Int32) (a12 : Int32) (a13 : Value) (y0 : Int32) (st : List Value) (M : xM) (Q : Option Value → xM → Prop), xW xSC 62 117 [.ref a0, .ref a1, .int a2, .int a3, .int a4, .int a5, .int a6, .int a7, .int a8, .int a9, .int a10, .int a11, .int a12, a13] (.int y0 :: st) M Q = if y0 = nI 0 then xW xSC 62 135 [.ref a0, .ref a1, .int a2, .int a3, .int a4, .int a5, .int a6, .int a7, .int a8, .int a9, .int a10, .int a11, .int a12, a13] (st) M Q else xW xSC 62 120 [.ref a0, .ref a1, .int a2, .int a3, .int a4, .int a5, .int a6, .int a7, .int a8, .int a9, .int a10, .int a11, .int a12, a13] (st) M Q) ∧
  (∀ (a0 : Nat) (a1 : Nat) (a2 : Int32) (a3 : Int32) (a4 : Int32) (a5 : Int32) (a6 : Int32) (a7 : Int32) (a8 : Int32) (a9 : Int32) (a10 : Int32) (a11 : Int32) (a12 : Int32) (a13 : Value) (st : List Value) (M : xM) (Q : Option Value → xM → Prop), xW xSC 62 120 [.ref a0, .ref a1, .int a2, .int a3, .int a4, .int a5, .int a6, .int a7, .int a8, .int a9, .int a10, .int a11, .int a12, a13] (st) M Q = xW xSC 62 122 [.ref a0, .ref a1, .int a2, .int a3, .int a4, .int a5, .int a6, .int a7, .int a8, .int a9, .int a10, .int a11, .int a12, a13] (.int a12 :: st) M Q) ∧
  (∀ (a0 : Nat) (a1 : Nat) (a2 : Int32) (a3 : Int32) (a4 : Int32) (a5 : Int32) (a6 : Int32) (a7 : Int32) (a8 : Int32) (a9 : Int32) (a10 : Int32) (a11 : Int32) (a12 : Int32) (a13 : Value) (st : List Value) (M : xM) (Q : Option Value → xM → Prop), xW xSC 62 122 [.ref a0, .ref a1, .int a2, .int a3, .int a4, .int a5, .int a6, .int a7, .int a8, .int a9, .int a10, .int a11, .int a12, a13] (st) M Q = xW xSC 62 123 [.ref a0, .ref a1, .int a2, .int a3, .int a4, .int a5, .int a6, .int a7, .int a8, .int a9, .int a10, .int a11, .int a12, a13] (.ref a1 :: st) M Q) ∧
  (∀ (a0 : Nat) (a1 : Nat) (a2 : Int32) (a3 : Int32) (a4 : Int32) (a5 : Int32) (a6 : Int32) (a7 : Int32) (a8 : Int32) (a9 : Int32) (a10 : Int32) (a11 : Int32) (a12 : Int32) (a13 : Value) (st : List Value) (M : xM) (Q : Option Value → xM → Prop), xW xSC 62 123 [.ref a0, .ref a1, .int a2, .int a3, .int a4, .int a5, .int a6, .int a7, .int a8, .int a9, .int a10, .int a11, .int a12, a13] (st) M Q = xW xSC 62 125 [.ref a0, .ref a1, .int a2, .int a3, .int a4, .int a5, .int a6, .int a7, .int a8, .int a9, .int a10, .int a11, .int a12, a13] (.int a8 :: st) M Q) ∧
  (∀ (a0 : Nat) (a1 : Nat) (a2 : Int32) (a3 : Int32) (a4 : Int32) (a5 : Int32) (a6 : Int32) (a7 : Int32) (a8 : Int32) (a9 : Int32) (a10 : Int32) (a11 : Int32) (a12 : Int32) (a13 : Value) (y0 : Int32) (y2 : Int32) (M : xM) (Q : Option Value → xM → Prop), xW xSC 62 125 [.ref a0, .ref a1, .int a2, .int a3, .int a4, .int a5, .int a6, .int a7, .int a8, .int a9, .int a10, .int a11, .int a12, a13] (.int y0 :: .ref 9 :: .int y2 :: []) M Q = xW xSC 41 0 [.ref 9, .int y0, .null, .null] [] M (fun v M' => xW xSC 62 128 [.ref a0, .ref a1, .int a2, .int a3, .int a4, .int a5, .int a6, .int a7, .int a8, .int a9, .int a10, .int a11, .int a12, a13] (xpush v [.int y2]) M' Q)) ∧
  (∀ (a0 : Nat) (a1 : Nat) (a2 : Int32) (a3 : Int32) (a4 : Int32) (a5 : Int32) (a6 : Int32) (a7 : Int32) (a8 : Int32) (a9 : Int32) (a10 : Int32) (a11 : Int32) (a12 : Int32) (a13 : Value) (y0 : Int32) (y1 : Int32) (st : List Value) (M : xM) (Q : Option Value → xM → Prop), xW xSC 62 128 [.ref a0, .ref a1, .int a2, .int a3, .int a4, .int a5, .int a6, .int a7, .int a8, .int a9, .int a10, .int a11, .int a12, a13] (.int y0 :: .int y1 :: st) M Q = if y1 < y0 then xW xSC 62 131 [.ref a0, .ref a1, .int a2, .int a3, .int a4, .int a5, .int a6, .int a7, .int a8, .int a9, .int a10, .int a11, .int a12, a13] (st) M Q else xW xSC 62 135 [.ref a0, .ref a1, .int a2, .int a3, .int a4, .int a5, .int a6, .int a7, .int a8, .int a9, .int a10, .int a11, .int a12, a13] (st) M Q) ∧
  (∀ (a0 : Nat) (a1 : Nat) (a2 : Int32) (a3 : Int32) (a4 : Int32) (a5 : Int32) (a6 : Int32) (a7 : Int32) (a8 : Int32) (a9 : Int32) (a10 : Int32) (a11 : Int32) (a12 : Int32) (a13 : Value) (st : List Value) (M : xM) (Q : Option Value → xM → Prop), xW xSC 62 131 [.ref a0, .ref a1, .int a2, .int a3, .int a4, .int a5, .int a6, .int a7, .int a8, .int a9, .int a10, .int a11, .int a12, a13] (st) M Q = xW xSC 62 132 [.ref a0, .ref a1, .int a2, .int a3, .int a4, .int a5, .int a6, .int a7, .int a8, .int a9, .int a10, .int a11, .int a12, a13] (.int (nI 1) :: st) M Q) ∧
  (∀ (a0 : Nat) (a1 : Nat) (a2 : Int32) (a3 : Int32) (a4 : Int32) (a5 : Int32) (a6 : Int32) (a7 : Int32) (a8 : Int32) (a9 : Int32) (a10 : Int32) (a11 : Int32) (a12 : Int32) (a13 : Value) (st : List Value) (M : xM) (Q : Option Value → xM → Prop), xW xSC 62 132 [.ref a0, .ref a1, .int a2, .int a3, .int a4, .int a5, .int a6, .int a7, .int a8, .int a9, .int a10, .int a11, .int a12, a13] (st) M Q = xW xSC 62 136 [.ref a0, .ref a1, .int a2, .int a3, .int a4, .int a5, .int a6, .int a7, .int a8, .int a9, .int a10, .int a11, .int a12, a13] (st) M Q) ∧
  (∀ (a0 : Nat) (a1 : Nat) (a2 : Int32) (a3 : Int32) (a4 : Int32) (a5 : Int32) (a6 : Int32) (a7 : Int32) (a8 : Int32) (a9 : Int32) (a10 : Int32) (a11 : Int32) (a12 : Int32) (a13 : Int32) (st : List Value) (M : xM) (Q : Option Value → xM → Prop), xW xSC 62 138 [.ref a0, .ref a1, .int a2, .int a3, .int a4, .int a5, .int a6, .int a7, .int a8, .int a9, .int a10, .int a11, .int a12, .int a13] (st) M Q = xW xSC 62 140 [.ref a0, .ref a1, .int a2, .int a3, .int a4, .int a5, .int a6, .int a7, .int a8, .int a9, .int a10, .int a11, .int a12, .int a13] (.int a13 :: st) M Q) ∧
  (∀ (a0 : Nat) (a1 : Nat) (a2 : Int32) (a3 : Int32) (a4 : Int32) (a5 : Int32) (a6 : Int32) (a7 : Int32) (a8 : Int32) (a9 : Int32) (a10 : Int32) (a11 : Int32) (a12 : Int32) (a13 : Int32) (y0 : Int32) (st : List Value) (M : xM) (Q : Option Value → xM → Prop), xW xSC 62 140 [.ref a0, .ref a1, .int a2, .int a3, .int a4, .int a5, .int a6, .int a7, .int a8, .int a9, .int a10, .int a11, .int a12, .int a13] (.int y0 :: st) M Q = if y0 = nI 0 then xW xSC 62 143 [.ref a0, .ref a1, .int a2, .int a3, .int a4, .int a5, .int a6, .int a7, .int a8, .int a9, .int a10, .int a11, .int a12, .int a13] (st) M Q else xW xSC 62 157 [.ref a0, .ref a1, .int a2, .int a3, .int a4, .int a5, .int a6, .int a7, .int a8, .int a9, .int a10, .int a11, .int a12, .int a13] (st) M Q) ∧
  (∀ (a0 : Nat) (a1 : Nat) (a2 : Int32) (a3 : Int32) (a4 : Int32) (a5 : Int32) (a6 : Int32) (a7 : Int32) (a8 : Int32) (a9 : Int32) (a10 : Int32) (a11 : Int32) (a12 : Int32) (a13 : Int32) (st : List Value) (M : xM) (Q : Option Value → xM → Prop), xW xSC 62 143 [.ref a0, .ref a1, .int a2, .int a3, .int a4, .int a5, .int a6, .int a7, .int a8, .int a9, .int a10, .int a11, .int a12, .int a13] (st) M Q = xW xSC 62 144 [.ref a0, .ref a1, .int a2, .int a3, .int a4, .int a5, .int a6, .int a7, .int a8, .int a9, .int a10, .int a11, .int a12, .int a13] (.ref a0 :: st) M Q) ∧
  (∀ (a0 : Nat) (a1 : Nat) (a2 : Int32) (a3 : Int32) (a4 : Int32) (a5 : Int32) (a6 : Int32) (a7 : Int32) (a8 : Int32) (a9 : Int32) (a10 : Int32) (a11 : Int32) (a12 : Int32) (a13 : Int32) (st : List Value) (M : xM) (Q : Option Value → xM → Prop), xW xSC 62 144 [.ref a0, .ref a1, .int a2, .int a3, .int a4, .int a5, .int a6, .int a7, .int a8, .int a9, .int a10, .int a11, .int a12, .int a13] (.ref 39 :: st) M Q = xW xSC 62 147 [.ref a0, .ref a1, .int a2, .int a3, .int a4, .int a5, .int a6, .int a7, .int a8, .int a9, .int a10, .int a11, .int a12, .int a13] (.ref 40 :: st) M Q) ∧
  (∀ (a0 : Nat) (a1 : Nat) (a2 : Int32) (a3 : Int32) (a4 : Int32) (a5 : Int32) (a6 : Int32) (a7 : Int32) (a8 : Int32) (a9 : Int32) (a10 : Int32) (a11 : Int32) (a12 : Int32) (a13 : Int32) (st : List Value) (M : xM) (Q : Option Value → xM → Prop), xW xSC 62 147 [.ref a0, .ref a1, .int a2, .int a3, .int a4, .int a5, .int a6, .int a7, .int a8, .int a9, .int a10, .int a11, .int a12, .int a13] (st) M Q = xW xSC 62 149 [.ref a0, .ref a1, .int a2, .int a3, .int a4, .int a5, .int a6, .int a7, .int a8, .int a9, .int a10, .int a11, .int a12, .int a13] (.int a9 :: st) M Q) ∧
  (∀ (a0 : Nat) (a1 : Nat) (a2 : Int32) (a3 : Int32) (a4 : Int32) (a5 : Int32) (a6 : Int32) (a7 : Int32) (a8 : Int32) (a9 : Int32) (a10 : Int32) (a11 : Int32) (a12 : Int32) (a13 : Int32) (st : List Value) (M : xM) (Q : Option Value → xM → Prop), xW xSC 62 149 [.ref a0, .ref a1, .int a2, .int a3, .int a4, .int a5, .int a6, .int a7, .int a8, .int a9, .int a10, .int a11, .int a12, .int a13] (st) M Q = xW xSC 62 151 [.ref a0, .ref a1, .int a2, .int a3, .int a4, .int a5, .int a6, .int a7, .int a8, .int a9, .int a10, .int a11, .int a12, .int a13] (.int a10 :: st) M Q) ∧
  (∀ (a0 : Nat) (a1 : Nat) (a2 : Int32) (a3 : Int32) (a4 : Int32) (a5 : Int32) (a6 : Int32) (a7 : Int32) (a8 : Int32) (a9 : Int32) (a10 : Int32) (a11 : Int32) (a12 : Int32) (a13 : Int32) (y0 : Int32) (y1 : Int32) (M : xM) (Q : Option Value → xM → Prop), xW xSC 62 151 [.ref a0, .ref a1, .int a2, .int a3, .int a4, .int a5, .int a6, .int a7, .int a8, .int a9, .int a10, .int a11, .int a12, .int a13] (.int y0 :: .int y1 :: .ref 40 :: []) M Q = xW xSC 56 0 [.ref 40, .int y1, .int y0] [] M (fun v M' => xW xSC 62 154 [.ref a0, .ref a1, .int a2, .int a3, .int a4, .int a5, .int a6, .int a7, .int a8, .int a9, .int a10, .int a11, .int a12, .int a13] (xpush v []) M' Q)) ∧
  (∀ (a0 : Nat) (a1 : Nat) (a2 : Int32) (a3 : Int32) (a4 : Int32) (a5 : Int32) (a6 : Int32) (a7 : Int32) (a8 : Int32) (a9 : Int32) (a10 : Int32) (a11 : Int32) (a12 : Int32) (a13 : Int32) (y0 : Int32) (st : List Value) (M : xM) (Q : Option Value → xM → Prop), xW xSC 62 154 [.ref a0, .ref a1, .int a2, .int a3, .int a4, .int a5, .int a6, .int a7, .int a8, .int a9, .int a10, .int a11, .int a12, .int a13] (.int y0 :: st) M Q = if y0 = nI 0 then xW xSC 62 182 [.ref a0, .ref a1, .int a2, .int a3, .int a4, .int a5, .int a6, .int a7, .int a8, .int a9, .int a10, .int a11, .int a12, .int a13] (st) M Q else xW xSC 62 157 [.ref a0, .ref a1, .int a2, .int a3, .int a4, .int a5, .int a6, .int a7, .int a8, .int a9, .int a10, .int a11, .int a12, .int a13] (st) M Q) ∧
  (∀ (a0 : Nat) (a1 : Nat) (a2 : Int32) (a3 : Int32) (a4 : Int32) (a5 : Int32) (a6 : Int32) (a7 : Int32) (a8 : Int32) (a9 : Int32) (a10 : Int32) (a11 : Int32) (a12 : Int32) (a13 : Int32) (st : List Value) (M : xM) (Q : Option Value → xM → Prop), xW xSC 62 159 [.ref a0, .ref a1, .int a2, .int a3, .int a4, .int a5, .int a6, .int a7, .int a8, .int a9, .int a10, .int a11, .int a12, .int a13] (st) M Q = xW xSC 62 161 [.ref a0, .ref a1, .int a2, .int a3, .int a4, .int a5, .int a6, .int a7, .int a8, .int a9, .int a10, .int a11, .int a12, .int a13] (.int a5 :: st) M Q) ∧
  (∀ (a0 : Nat) (a1 : Nat) (a2 : Int32) (a3 : Int32) (a4 : Int32) (a5 : Int32) (a6 : Int32) (a7 : Int32) (a8 : Int32) (a9 : Int32) (a10 : Int32) (a11 : Int32) (a12 : Int32) (a13 : Int32) (y0 : Int32) (y1 : Int32) (st : List Value) (M : xM) (Q : Option Value → xM → Prop), xW xSC 62 161 [.ref a0, .ref a1, .int a2, .int a3, .int a4, .int a5, .int a6, .int a7, .int a8, .int a9, .int a10, .int a11, .int a12, .int a13] (.int y0 :: .int y1 :: st) M Q = xW xSC 62 162 [.ref a0, .ref a1, .int a2, .int a3, .int a4, .int a5, .int a6, .int a7, .int a8, .int a9, .int a10, .int a11, .int a12, .int a13] (.int (y1 ||| y0) :: st) M Q) ∧
  (∀ (a0 : Nat) (a1 : Nat) (a2 : Int32) (a3 : Int32) (a4 : Int32) (a5 : Int32) (a6 : Int32) (a7 : Int32) (a8 : Int32) (a9 : Int32) (a10 : Int32) (a11 : Int32) (a12 : Int32) (a13 : Int32) (y0 : Int32) (st : List Value) (M : xM) (Q : Option Value → xM → Prop), xW xSC 62 162 [.ref a0, .ref a1, .int a2, .int a3, .int a4, .int a5, .int a6, .int a7, .int a8, .int a9, .int a10, .int a11, .int a12, .int a13] (.int y0 :: st) M Q = xW xSC 62 164 [.ref a0, .ref a1, .int a2, .int a3, .int a4, .int a5, .int a6, .int a7, .int y0, .int a9, .int a10, .int a11, .int a12, .int a13] (st) M Q) ∧
  (∀ (a0 : Nat) (a1 : Nat) (a2 : Int32) (a3 : Int32) (a4 : Int32) (a5 : Int32) (a6 : Int32) (a7 : Int32) (a8 : Int32) (a9 : Int32) (a10 : Int32) (a11 : Int32) (a12 : Int32) (a13 : Int32) (st : List Value) (M : xM) (Q : Option Value → xM → Prop), xW xSC 62 164 [.ref a0, .ref a1, .int a2, .int a3, .int a4, .int a5, .int a6, .int a7, .int a8, .int a9, .int a10, .int a11, .int a12, .int a13] (st) M Q = xW xSC 62 165 [.ref a0, .ref a1, .int a2, .int a3, .int a4, .int a5, .int a6, .int a7, .int a8, .int a9, .int a10, .int a11, .int a12, .int a13] (.ref a0 :: st) M Q) ∧
  (∀ (a0 : Nat) (a1 : Nat) (a2 : Int32) (a3 : Int32) (a4 : Int32) (a5 : Int32) (a6 : Int32) (a7 : Int32) (a8 : Int32) (a9 : Int32) (a10 : Int32) (a11 : Int32) (a12 : Int32) (a13 : Int32) (st : List Value) (M : xM) (Q : Option Value → xM → Prop), xW xSC 62 165 [.ref a0, .ref a1, .int a2, .int a3, .int a4, .int a5, .int a6, .int a7, .int a8, .int a9, .int a10, .int a11, .int a12, .int a13] (.ref 39 :: st) M Q = xW xSC 62 168 [.ref a0, .ref a1, .int a2, .int a3, .int a4, .int a5, .int a6, .int a7, .int a8, .int a9, .int a10, .int a11, .int a12, .int a13] (.ref 40 :: st) M Q) ∧
  (∀ (a0 : Nat) (a1 : Nat) (a2 : Int32) (a3 : Int32) (a4 : Int32) (a5 : Int32) (a6 : Int32) (a7 : Int32) (a8 : Int32) (a9 : Int32) (a10 : Int32) (a11 : Int32) (a12 : Int32) (a13 : Int32) (st : List Value) (M : xM) (Q : Option Value → xM → Prop), xW xSC 62 168 [.ref a0, .ref a1, .int a2, .int a3, .int a4, .int a5, .int a6, .int a7, .int a8, .int a9, .int a10, .int a11, .int a12, .int a13] (.ref 40 :: st) M Q = xW xSC 62 171 [.ref a0, .ref a1, .int a2, .int a3, .int a4, .int a5, .int a6, .int a7, .int a8, .int a9, .int a10, .int a11, .int a12, .int a13] (.int (M 40 2) :: st) M Q) ∧
  (∀ (a0 : Nat) (a1 : Nat) (a2 : Int32) (a3 : Int32) (a4 : Int32) (a5 : Int32) (a6 : Int32) (a7 : Int32) (a8 : Int32) (a9 : Int32) (a10 : Int32) (a11 : Int32) (a12 : Int32) (a13 : Int32) (y0 : Int32) (st : List Value) (M : xM) (Q : Option Value → xM → Prop), xW xSC 62 171 [.ref a0, .ref a1, .int a2, .int a3, .int a4, .int a5, .int a6, .int a7, .int a8, .int a9, .int a10, .int a11, .int a12, .int a13] (.int y0 :: st) M Q = xW xSC 62 173 [.ref a0, .ref a1, .int a2, .int a3, .int a4, .int a5, .int a6, .int a7, .int a8, .int y0, .int a10, .int a11, .int a12, .int a13] (st) M Q) ∧
  (∀ (a0 : Nat) (a1 : Nat) (a2 : Int32) (a3 : Int32) (a4 : Int32) (a5 : Int32) (a6 : Int32) (a7 : Int32) (a8 : Int32) (a9 : Int32) (a10 : Int32) (a11 : Int32) (a12 : Int32) (a13 : Int32) (st : List Value) (M : xM) (Q : Option Value → xM → Prop), xW xSC 62 173 [.ref a0, .ref a1, .int a2, .int a3, .int a4, .int a5, .int a6, .int a7, .int a8, .int a9, .int a10, .int a11, .int a12, .int a13] (st) M Q = xW xSC 62 174 [.ref a0, .ref a1, .int a2, .int a3, .int a4, .int a5, .int a6, .int a7, .int a8, .int a9, .int a10, .int a11, .int a12, .int a13] (.ref a0 :: st) M Q) ∧
  (∀ (a0 : Nat) (a1 : Nat) (a2 : Int32) (a3 : Int32) (a4 : Int32) (a5 : Int32) (a6 : Int32) (a7 : Int32) (a8 : Int32) (a9 : Int32) (a10 : Int32) (a11 : Int32) (a12 : Int32) (a13 : Int32) (st : List Value) (M : xM) (Q : Option Value → xM → Prop), xW xSC 62 174 [.ref a0, .ref a1, .int a2, .int a3, .int a4, .int a5, .int a6, .int a7, .int a8, .int a9, .int a10, .int a11, .int a12, .int a13] (.ref 39 :: st) M Q = xW xSC 62 177 [.ref a0, .ref a1, .int a2, .int a3, .int a4, .int a5, .int a6, .int a7, .int a8, .int a9, .int a10, .int a11, .int a12, .int a13] (.ref 40 :: st) M Q) ∧
  (∀ (a0 : Nat) (a1 : Nat) (a2 : Int32) (a3 : Int32) (a4 : Int32) (a5 : Int32) (a6 : Int32) (a7 : Int32) (a8 : Int32) (a9 : Int32) (a10 : Int32) (a11 : Int32) (a12 : Int32) (a13 : Int32) (st : List Value) (M : xM) (Q : Option Value → xM → Prop), xW xSC 62 177 [.ref a0, .ref a1, .int a2, .int a3, .int a4, .int a5, .int a6, .int a7, .int a8, .int a9, .int a10, .int a11, .int a12, .int a13] (.ref 40 :: st) M Q = xW xSC 62 180 [.ref a0, .ref a1, .int a2, .int a3, .int a4, .int a5, .int a6, .int a7, .int a8, .int a9, .int a10, .int a11, .int a12, .int a13] (.int (M 40 3) :: st) M Q) ∧
  (∀ (a0 : Nat) (a1 : Nat) (a2 : Int32) (a3 : Int32) (a4 : Int32) (a5 : Int32) (a6 : Int32) (a7 : Int32) (a8 : Int32) (a9 : Int32) (a10 : Int32) (a11 : Int32) (a12 : Int32) (a13 : Int32) (y0 : Int32) (st : List Value) (M : xM) (Q : Option Value → xM → Prop), xW xSC 62 180 [.ref a0, .ref a1, .int a2, .int a3, .int a4, .int a5, .int a6, .int a7, .int a8, .int a9, .int a10, .int a11, .int a12, .int a13] (.int y0 :: st) M Q = xW xSC 62 182 [.ref a0, .ref a1, .int a2, .int a3, .int a4, .int a5, .int a6, .int a7, .int a8, .int a9, .int y0, .int a11, .int a12, .int a13] (st) M Q) ∧
  (∀ (a0 : Nat) (a1 : Nat) (a2 : Int32) (a3 : Int32) (a4 : Int32) (a5 : Int32) (a6 : Int32) (a7 : Int32) (a8 : Int32) (a9 : Int32) (a10 : Int32) (a11 : Int32) (a12 : Int32) (a13 : Value) (st : List Value) (M : xM) (Q : Option Value → xM → Prop), xW xSC 62 185 [.ref a0, .ref a1, .int a2, .int a3, .int a4, .int a5, .int a6, .int a7, .int a8, .int a9, .int a10, .int a11, .int a12, a13] (st) M Q = xW xSC 62 66 [.ref a0, .ref a1, .int a2, .int a3, .int a4, .int a5, .int a6, .int a7, .int a8, .int a9, .int a10, .int a11, .int a12, a13] (st) M Q) ∧
  (∀ (a0 : Nat) (a1 : Nat) (a2 : Int32) (a3 : Int32) (a4 : Int32) (a5 : Int32) (a6 : Int32) (a7 : Int32) (a8 : Int32) (a9 : Int32) (a10 : Int32) (a11 : Int32) (a12 : Value) (a13 : Value) (st : List Value) (M : xM) (Q : Option Value → xM → Prop), xW xSC 62 188 [.ref a0, .ref a1, .int a2, .int a3, .int a4, .int a5, .int a6, .int a7, .int a8, .int a9, .int a10, .int a11, a12, a13] (st) M Q = xW xSC 62 190 [.ref a0, .ref a1, .int a2, .int a3, .int a4, .int a5, .int a6, .int a7, .int a8, .int a9, .int a10, .int a11, a12, a13] (.int a8 :: st) M Q) ∧
  (∀ (a0 : Nat) (a1 : Nat) (a2 : Int32) (a3 : Int32) (a4 : Int32) (a5 : Int32) (a6 : Int32) (a7 : Int32) (a8 : Int32) (a9 : Int32) (a10 : Int32) (a11 : Int32) (a12 : Value) (a13 : Value) (y0 : Int32) (M : xM) (Q : Option Value → xM → Prop), xW xSC 62 190 [.ref a0, .ref a1, .int a2, .int a3, .int a4, .int a5, .int a6, .int a7, .int a8, .int a9, .int a10, .int a11, a12, a13] ([.int y0]) M Q = Q (some (.int y0)) M) :=
  ⟨fun a0 a1 a2 a3 a4 a5 a6 a7 a8 a9 a10 a11 a12 a13 st M Q => xw_s rfl rfl,
  fun a0 a1 a2 a3 a4 a5 a6 a7 a8 a9 a10 a11 a12 a13 st M Q => xw_s rfl rfl,
  fun a0 a1 a2 a3 a4 a5 a6 a7 a8 a9 a10 a11 a12 a13 st M Q => xw_s rfl rfl,
  fun a0 a1 a2 a3 a4 a5 a6 a7 a8 a9 a10 a11 a12 a13 y0 y1 M Q => xw_call rfl rfl rfl,
  fun a0 a1 a2 a3 a4 a5 a6 a7 a8 a9 a10 a11 a12 a13 st M Q => xw_s rfl rfl,
  fun a0 a1 a2 a3 a4 a5 a6 a7 a8 a9 a10 a11 a12 a13 y0 y1 st M Q => xw_s rfl rfl,
  fun a0 a1 a2 a3 a4 a5 a6 a7 a8 a9 a10 a11 a12 a13 y0 st M Q => xw_s rfl rfl,
  fun a0 a1 a2 a3 a4 a5 a6 a7 a8 a9 a10 a11 a12 a13 st M Q => xw_s rfl rfl,
  fun a0 a1 a2 a3 a4 a5 a6 a7 a8 a9 a10 a11 a12 a13 st M Q => xw_s rfl rfl,
  fun a0 a1 a2 a3 a4 a5 a6 a7 a8 a9 a10 a11 a12 a13 st M Q => xw_s rfl rfl,
  fun a0 a1 a2 a3 a4 a5 a6 a7 a8 a9 a10 a11 a12 a13 y0 y1 M Q => xw_call rfl rfl rfl,
  fun a0 a1 a2 a3 a4 a5 a6 a7 a8 a9 a10 a11 a12 a13 y0 st M Q => xw_s rfl rfl,
  fun a0 a1 a2 a3 a4 a5 a6 a7 a8 a9 a10 a11 a12 a13 st M Q => xw_s rfl rfl,
  fun a0 a1 a2 a3 a4 a5 a6 a7 a8 a9 a10 a11 a12 a13 st M Q => xw_s rfl rfl,
  fun a0 a1 a2 a3 a4 a5 a6 a7 a8 a9 a10 a11 a12 a13 st M Q => xw_s rfl rfl,
  fun a0 a1 a2 a3 a4 a5 a6 a7 a8 a9 a10 a11 a12 a13 st M Q => xw_s rfl rfl,
  fun a0 a1 a2 a3 a4 a5 a6 a7 a8 a9 a10 a11 a12 a13 y0 y1 st M Q => xw_s rfl rfl,
  fun a0 a1 a2 a3 a4 a5 a6 a7 a8 a9 a10 a11 a12 a13 y0 y1 M Q => xw_call rfl rfl rfl,
  fun a0 a1 a2 a3 a4 a5 a6 a7 a8 a9 a10 a11 a12 a13 y0 st M Q => xw_s rfl rfl,
  fun a0 a1 a2 a3 a4 a5 a6 a7 a8 a9 a10 a11 a12 a13 st M Q => xw_s rfl rfl,
  fun a0 a1 a2 a3 a4 a5 a6 a7 a8 a9 a10 a11 a12 a13 y0 st M Q => xw_s rfl rfl,
  fun a0 a1 a2 a3 a4 a5 a6 a7 a8 a9 a10 a11 a12 a13 st M Q => xw_s rfl rfl,
  fun a0 a1 a2 a3 a4 a5 a6 a7 a8 a9 a10 a11 a12 a13 st M Q => xw_s rfl rfl,
  fun a0 a1 a2 a3 a4 a5 a6 a7 a8 a9 a10 a11 a12 a13 st M Q => xw_s rfl rfl,
  fun a0 a1 a2 a3 a4 a5 a6 a7 a8 a9 a10 a11 a12 a13 st M Q => xw_s rfl rfl,
  fun a0 a1 a2 a3 a4 a5 a6 a7 a8 a9 a10 a11 a12 a13 st M Q => xw_s rfl rfl,
  fun a0 a1 a2 a3 a4 a5 a6 a7 a8 a9 a10 a11 a12 a13 st M Q => xw_s rfl rfl,
  fun a0 a1 a2 a3 a4 a5 a6 a7 a8 a9 a10 a11 a12 a13 y0 y1 y2 y3 y4 M Q => xw_call rfl rfl rfl,
  fun a0 a1 a2 a3 a4 a5 a6 a7 a8 a9 a10 a11 a12 a13 st M Q => xw_s rfl rfl,
  fun a0 a1 a2 a3 a4 a5 a6 a7 a8 a9 a10 a11 a12 a13 st M Q => xw_s rfl rfl,
  fun a0 a1 a2 a3 a4 a5 a6 a7 a8 a9 a10 a11 a12 a13 st M Q => xw_s rfl rfl,
  fun a0 a1 a2 a3 a4 a5 a6 a7 a8 a9 a10 a11 a12 a13 y0 st M Q => xw_s rfl rfl,
  fun a0 a1 a2 a3 a4 a5 a6 a7 a8 a9 a10 a11 a12 a13 st M Q => xw_s rfl rfl,
  fun a0 a1 a2 a3 a4 a5 a6 a7 a8 a9 a10 a11 a12 a13 st M Q => xw_s rfl rfl,
  fun a0 a1 a2 a3 a4 a5 a6 a7 a8 a9 a10 a11 a12 a13 st M Q => xw_s rfl rfl,
  fun a0 a1 a2 a3 a4 a5 a6 a7 a8 a9 a10 a11 a12 a13 y0 st M Q => xw_s rfl rfl,
  fun a0 a1 a2 a3 a4 a5 a6 a7 a8 a9 a10 a11 a12 a13 st M Q => xw_s rfl rfl,
  fun a0 a1 a2 a3 a4 a5 a6 a7 a8 a9 a10 a11 a12 a13 y0 st M Q => xw_s rfl rfl,
  fun a0 a1 a2 a3 a4 a5 a6 a7 a8 a9 a10 a11 a12 a13 st M Q => xw_s rfl rfl,
  fun a0 a1 a2 a3 a4 a5 a6 a7 a8 a9 a10 a11 a12 a13 y0 y1 st M Q => xw_brn (c0 := y0 ≤ y1) (c1 := y1 < y0) rfl rfl (xge _ _),
  fun a0 a1 a2 a3 a4 a5 a6 a7 a8 a9 a10 a11 a12 a13 st M Q => xw_s rfl rfl,
  fun a0 a1 a2 a3 a4 a5 a6 a7 a8 a9 a10 a11 a12 a13 st M Q => xw_s rfl rfl,
  fun a0 a1 a2 a3 a4 a5 a6 a7 a8 a9 a10 a11 a12 a13 y0 M Q => xw_call rfl rfl rfl,
  fun a0 a1 a2 a3 a4 a5 a6 a7 a8 a9 a10 a11 a12 a13 y0 st M Q => xw_s rfl rfl,
  fun a0 a1 a2 a3 a4 a5 a6 a7 a8 a9 a10 a11 a12 a13 st M Q => xw_s rfl rfl,
  fun a0 a1 a2 a3 a4 a5 a6 a7 a8 a9 a10 a11 a12 a13 st M Q => xw_s rfl rfl,
  fun a0 a1 a2 a3 a4 a5 a6 a7 a8 a9 a10 a11 a12 a13 y0 y1 st M Q => xw_brn (c0 := y1 ≤ y0) (c1 := y0 < y1) rfl rfl (xge _ _),
  fun a0 a1 a2 a3 a4 a5 a6 a7 a8 a9 a10 a11 a12 a13 st M Q => xw_s rfl rfl,
  fun a0 a1 a2 a3 a4 a5 a6 a7 a8 a9 a10 a11 a12 a13 st M Q => xw_s rfl rfl,
  fun a0 a1 a2 a3 a4 a5 a6 a7 a8 a9 a10 a11 a12 a13 st M Q => xw_s rfl rfl,
  fun a0 a1 a2 a3 a4 a5 a6 a7 a8 a9 a10 a11 a12 a13 st M Q => xw_s rfl rfl,
  fun a0 a1 a2 a3 a4 a5 a6 a7 a8 a9 a10 a11 a12 a13 st M Q => xw_s rfl rfl,
  fun a0 a1 a2 a3 a4 a5 a6 a7 a8 a9 a10 a11 a12 a13 st M Q => xw_s rfl rfl,
  fun a0 a1 a2 a3 a4 a5 a6 a7 a8 a9 a10 a11 a12 a13 st M Q => xw_s rfl rfl,
  fun a0 a1 a2 a3 a4 a5 a6 a7 a8 a9 a10 a11 a12 a13 y0 y1 st M Q => xw_s rfl rfl,
  fun a0 a1 a2 a3 a4 a5 a6 a7 a8 a9 a10 a11 a12 a13 st M Q => xw_s rfl rfl,
  fun a0 a1 a2 a3 a4 a5 a6 a7 a8 a9 a10 a11 a12 a13 y0 y1 y2 y3 y4 M Q => xw_call rfl rfl rfl,
  fun a0 a1 a2 a3 a4 a5 a6 a7 a8 a9 a10 a11 a12 a13 st M Q => xw_s rfl rfl,
  fun a0 a1 a2 a3 a4 a5 a6 a7 a8 a9 a10 a11 a12 a13 st M Q => xw_s rfl rfl,
  fun a0 a1 a2 a3 a4 a5 a6 a7 a8 a9 a10 a11 a12 a13 st M Q => xw_s rfl rfl,
  fun a0 a1 a2 a3 a4 a5 a6 a7 a8 a9 a10 a11 a12 a13 st M Q => xw_s rfl rfl,
  fun a0 a1 a2 a3 a4 a5 a6 a7 a8 a9 a10 a11 a12 a13 y0 y1 M Q => xw_call rfl rfl rfl,
  fun a0 a1 a2 a3 a4 a5 a6 a7 a8 a9 a10 a11 a12 a13 y0 st M Q => xw_br (c0 := y0 = nI 0) rfl rfl,
  fun a0 a1 a2 a3 a4 a5 a6 a7 a8 a9 a10 a11 a12 a13 st M Q => xw_s rfl rfl,
  fun a0 a1 a2 a3 a4 a5 a6 a7 a8 a9 a10 a11 a12 a13 st M Q => xw_s rfl rfl,
  fun a0 a1 a2 a3 a4 a5 a6 a7 a8 a9 a10 a11 a12 a13 st M Q => xw_s rfl rfl,
  fun a0 a1 a2 a3 a4 a5 a6 a7 a8 a9 a10 a11 a12 a13 y0 y2 M Q => xw_call rfl rfl rfl,
  fun a0 a1 a2 a3 a4 a5 a6 a7 a8 a9 a10 a11 a12 a13 y0 y1 st M Q => xw_brn (c0 := y0 ≤ y1) (c1 := y1 < y0) rfl rfl (xge _ _),
  fun a0 a1 a2 a3 a4 a5 a6 a7 a8 a9 a10 a11 a12 a13 st M Q => xw_s rfl rfl,
  fun a0 a1 a2 a3 a4 a5 a6 a7 a8 a9 a10 a11 a12 a13 st M Q => xw_s rfl rfl,
  fun a0 a1 a2 a3 a4 a5 a6 a7 a8 a9 a10 a11 a12 a13 st M Q => xw_s rfl rfl,
  fun a0 a1 a2 a3 a4 a5 a6 a7 a8 a9 a10 a11 a12 a13 y0 st M Q => xw_brn (c0 := y0 ≠ nI 0) (c1 := y0 = nI 0) rfl rfl (Iff.rfl),
  fun a0 a1 a2 a3 a4 a5 a6 a7 a8 a9 a10 a11 a12 a13 st M Q => xw_s rfl rfl,
  fun a0 a1 a2 a3 a4 a5 a6 a7 a8 a9 a10 a11 a12 a13 st M Q => xw_s rfl rfl,
  fun a0 a1 a2 a3 a4 a5 a6 a7 a8 a9 a10 a11 a12 a13 st M Q => xw_s rfl rfl,
  fun a0 a1 a2 a3 a4 a5 a6 a7 a8 a9 a10 a11 a12 a13 st M Q => xw_s rfl rfl,
  fun a0 a1 a2 a3 a4 a5 a6 a7 a8 a9 a10 a11 a12 a13 y0 y1 M Q => xw_call rfl rfl rfl,
  fun a0 a1 a2 a3 a4 a5 a6 a7 a8 a9 a10 a11 a12 a13 y0 st M Q => xw_br (c0 := y0 = nI 0) rfl rfl,
  fun a0 a1 a2 a3 a4 a5 a6 a7 a8 a9 a10 a11 a12 a13 st M Q => xw_s rfl rfl,
  fun a0 a1 a2 a3 a4 a5 a6 a7 a8 a9 a10 a11 a12 a13 y0 y1 st M Q => xw_s rfl rfl,
  fun a0 a1 a2 a3 a4 a5 a6 a7 a8 a9 a10 a11 a12 a13 y0 st M Q => xw_s rfl rfl,
  fun a0 a1 a2 a3 a4 a5 a6 a7 a8 a9 a10 a11 a12 a13 st M Q => xw_s rfl rfl,
  fun a0 a1 a2 a3 a4 a5 a6 a7 a8 a9 a10 a11 a12 a13 st M Q => xw_s rfl rfl,
  fun a0 a1 a2 a3 a4 a5 a6 a7 a8 a9 a10 a11 a12 a13 st M Q => xw_s rfl rfl,
  fun a0 a1 a2 a3 a4 a5 a6 a7 a8 a9 a10 a11 a12 a13 y0 st M Q => xw_s rfl rfl,
  fun a0 a1 a2 a3 a4 a5 a6 a7 a8 a9 a10 a11 a12 a13 st M Q => xw_s rfl rfl,
  fun a0 a1 a2 a3 a4 a5 a6 a7 a8 a9 a10 a11 a12 a13 st M Q => xw_s rfl rfl,
  fun a0 a1 a2 a3 a4 a5 a6 a7 a8 a9 a10 a11 a12 a13 st M Q => xw_s rfl rfl,
  fun a0 a1 a2 a3 a4 a5 a6 a7 a8 a9 a10 a11 a12 a13 y0 st M Q => xw_s rfl rfl,
  fun a0 a1 a2 a3 a4 a5 a6 a7 a8 a9 a10 a11 a12 a13 st M Q => xw_s rfl rfl,
  fun a0 a1 a2 a3 a4 a5 a6 a7 a8 a9 a10 a11 a12 a13 st M Q => xw_s rfl rfl,
  fun a0 a1 a2 a3 a4 a5 a6 a7 a8 a9 a10 a11 a12 a13 y0 M Q => xw_ret rfl rfl⟩
set_option maxRecDepth 20000 in
theorem h62_66 :
  (∀ (a0 : Nat) (a1 : Nat) (a2 : Int32) (a3 : Int32) (a4 : Int32) (a5 : Int32) (a6 : Int32) (a7 : Int32) (a8 : Int32) (a9 : Int32) (a10 : Int32) (a11 : Int32) (a12 : Value) (a13 : Value) (st : List Value) (M : xM) (Q : Option Value → xM → Prop), xW xSC 62 66 [.ref a0, .ref a1, .int a2, .int a3, .int a4, .int a5, .int a6, .int a7, .int a8, .int a9, .int a10, .int a11, a12, a13] (st) M Q = xW xSC 62 68 [.ref a0, .ref a1, .int a2, .int a3, .int a4, .int a5, .int a6, .int a7, .int a8, .int a9, .int a10, .int a11, a12, a13] (.int a11 :: st) M Q) :=
  fun a0 a1 a2 a3 a4 a5 a6 a7 a8 a9 a10 a11 a12 a13 st M Q => xw_s rfl rfl
set_option maxRecDepth 20000 in
theorem h62_135 :
  (∀ (a0 : Nat) (a1 : Nat) (a2 : Int32) (a3 : Int32) (a4 : Int32) (a5 : Int32) (a6 : Int32) (a7 : Int32) (a8 : Int32) (a9 : Int32) (a10 : Int32) (a11 : Int32) (a12 : Int32) (a13 : Value) (st : List Value) (M : xM) (Q : Option Value → xM → Prop), xW xSC 62 135 [.ref a0, .ref a1, .int a2, .int a3, .int a4, .int a5, .int a6, .int a7, .int a8, .int a9, .int a10, .int a11, .int a12, a13] (st) M Q = xW xSC 62 136 [.ref a0, .ref a1, .int a2, .int a3, .int a4, .int a5, .int a6, .int a7, .int a8, .int a9, .int a10, .int a11, .int a12, a13] (.int (nI 0) :: st) M Q) :=
  fun a0 a1 a2 a3 a4 a5 a6 a7 a8 a9 a10 a11 a12 a13 st M Q => xw_s rfl rfl
set_option maxRecDepth 20000 in
theorem h62_136 :
  (∀ (a0 : Nat) (a1 : Nat) (a2 : Int32) (a3 : Int32) (a4 : Int32) (a5 : Int32) (a6 : Int32) (a7 : Int32) (a8 : Int32) (a9 : Int32) (a10 : Int32) (a11 : Int32) (a12 : Int32) (a13 : Value) (y0 : Int32) (st : List Value) (M : xM) (Q : Option Value → xM → Prop), xW xSC 62 136 [.ref a0, .ref a1, .int a2, .int a3, .int a4, .int a5, .int a6, .int a7, .int a8, .int a9, .int a10, .int a11, .int a12, a13] (.int y0 :: st) M Q = xW xSC 62 138 [.ref a0, .ref a1, .int a2, .int a3, .int a4, .int a5, .int a6, .int a7, .int a8, .int a9, .int a10, .int a11, .int a12, .int y0] (st) M Q) :=
  fun a0 a1 a2 a3 a4 a5 a6 a7 a8 a9 a10 a11 a12 a13 y0 st M Q => xw_s rfl rfl
set_option maxRecDepth 20000 in
theorem h62_157 :
  (∀ (a0 : Nat) (a1 : Nat) (a2 : Int32) (a3 : Int32) (a4 : Int32) (a5 : Int32) (a6 : Int32) (a7 : Int32) (a8 : Int32) (a9 : Int32) (a10 : Int32) (a11 : Int32) (a12 : Int32) (a13 : Int32) (st : List Value) (M : xM) (Q : Option Value → xM → Prop), xW xSC 62 157 [.ref a0, .ref a1, .int a2, .int a3, .int a4, .int a5, .int a6, .int a7, .int a8, .int a9, .int a10, .int a11, .int a12, .int a13] (st) M Q = xW xSC 62 159 [.ref a0, .ref a1, .int a2, .int a3, .int a4, .int a5, .int a6, .int a7, .int a8, .int a9, .int a10, .int a11, .int a12, .int a13] (.int a11 :: st) M Q) :=
  fun a0 a1 a2 a3 a4 a5 a6 a7 a8 a9 a10 a11 a12 a13 st M Q => xw_s rfl rfl
set_option maxRecDepth 20000 in
theorem h62_182 :
  (∀ (a0 : Nat) (a1 : Nat) (a2 : Int32) (a3 : Int32) (a4 : Int32) (a5 : Int32) (a6 : Int32) (a7 : Int32) (a8 : Int32) (a9 : Int32) (a10 : Int32) (a11 : Int32) (a12 : Int32) (a13 : Value) (st : List Value) (M : xM) (Q : Option Value → xM → Prop), xW xSC 62 182 [.ref a0, .ref a1, .int a2, .int a3, .int a4, .int a5, .int a6, .int a7, .int a8, .int a9, .int a10, .int a11, .int a12, a13] (st) M Q = xW xSC 62 185 [.ref a0, .ref a1, .int a2, .int a3, .int a4, .int a5, .int a6, .int a7, .int a8, .int a9, .int a10, .int (a11 + nI 1), .int a12, a13] (st) M Q) :=
  fun a0 a1 a2 a3 a4 a5 a6 a7 a8 a9 a10 a11 a12 a13 st M Q => xw_s rfl rfl
set_option maxRecDepth 20000 in
theorem j62 :
  (∀ (a0 : Nat) (a1 : Nat) (a2 : Int32) (a3 : Int32) (a4 : Int32) (a5 : Int32) (a6 : Int32) (a7 : Int32) (a8 : Int32) (a9 : Int32) (a10 : Int32) (a11 : Int32) (a12 : Int32) (a13 : Value) (st : List Value) (M : xM) (Q : Option Value → xM → Prop), xW xSC 62 135 [.ref a0, .ref a1, .int a2, .int a3, .int a4, .int a5, .int a6, .int a7, .int a8, .int a9, .int a10, .int a11, .int a12, a13] (st) M Q = xW xSC 62 136 [.ref a0, .ref a1, .int a2, .int a3, .int a4, .int a5, .int a6, .int a7, .int a8, .int a9, .int a10, .int a11, .int a12, a13] (.int (nI 0) :: st) M Q) ∧
  (∀ (a0 : Nat) (a1 : Nat) (a2 : Int32) (a3 : Int32) (a4 : Int32) (a5 : Int32) (a6 : Int32) (a7 : Int32) (a8 : Int32) (a9 : Int32) (a10 : Int32) (a11 : Int32) (a12 : Int32) (a13 : Value) (y0 : Int32) (st : List Value) (M : xM) (Q : Option Value → xM → Prop), xW xSC 62 136 [.ref a0, .ref a1, .int a2, .int a3, .int a4, .int a5, .int a6, .int a7, .int a8, .int a9, .int a10, .int a11, .int a12, a13] (.int y0 :: st) M Q = xW xSC 62 138 [.ref a0, .ref a1, .int a2, .int a3, .int a4, .int a5, .int a6, .int a7, .int a8, .int a9, .int a10, .int a11, .int a12, .int y0] (st) M Q) ∧
  (∀ (a0 : Nat) (a1 : Nat) (a2 : Int32) (a3 : Int32) (a4 : Int32) (a5 : Int32) (a6 : Int32) (a7 : Int32) (a8 : Int32) (a9 : Int32) (a10 : Int32) (a11 : Int32) (a12 : Int32) (a13 : Int32) (st : List Value) (M : xM) (Q : Option Value → xM → Prop), xW xSC 62 157 [.ref a0, .ref a1, .int a2, .int a3, .int a4, .int a5, .int a6, .int a7, .int a8, .int a9, .int a10, .int a11, .int a12, .int a13] (st) M Q = xW xSC 62 159 [.ref a0, .ref a1, .int a2, .int a3, .int a4, .int a5, .int a6, .int a7, .int a8, .int a9, .int a10, .int a11, .int a12, .int a13] (.int a11 :: st) M Q) ∧
  (∀ (a0 : Nat) (a1 : Nat) (a2 : Int32) (a3 : Int32) (a4 : Int32) (a5 : Int32) (a6 : Int32) (a7 : Int32) (a8 : Int32) (a9 : Int32) (a10 : Int32) (a11 : Int32) (a12 : Int32) (a13 : Value) (st : List Value) (M : xM) (Q : Option Value → xM → Prop), xW xSC 62 182 [.ref a0, .ref a1, .int a2, .int a3, .int a4, .int a5, .int a6, .int a7, .int a8, .int a9, .int a10, .int a11, .int a12, a13] (st) M Q = xW xSC 62 185 [.ref a0, .ref a1, .int a2, .int a3, .int a4, .int a5, .int a6, .int a7, .int a8, .int a9, .int a10, .int (a11 + nI 1), .int a12, a13] (st) M Q) :=
  ⟨fun a0 a1 a2 a3 a4 a5 a6 a7 a8 a9 a10 a11 a12 a13 st M Q => xw_s rfl rfl,
  fun a0 a1 a2 a3 a4 a5 a6 a7 a8 a9 a10 a11 a12 a13 y0 st M Q => xw_s rfl rfl,
  fun a0 a1 a2 a3 a4 a5 a6 a7 a8 a9 a10 a11 a12 a13 st M Q => xw_s rfl rfl,
  fun a0 a1 a2 a3 a4 a5 a6 a7 a8 a9 a10 a11 a12 a13 st M Q => xw_s rfl rfl⟩

set_option maxRecDepth 20000 in
theorem s63 :
  (∀ (a0 : Nat) (a1 : Nat) (a2 : Int32) (a3 : Int32) (a4 : Int32) (a5 : Int32) (st : List Value) (M : xM) (Q : Option Value → xM → Prop), xW xSC 63 0 [.ref a0, .ref a1, .int a2, .int a3, .int a4, .int a5] (st) M Q = xW xSC 63 1 [.ref a0, .ref a1, .int a2, .int a3, .int a4, .int a5] (.ref a0 :: st) M Q) ∧
  (∀ (a0 : Nat) (a1 : Nat) (a2 : Int32) (a3 : Int32) (a4 : Int32) (a5 : Int32) (st : List Value) (M : xM) (Q : Option Value → xM → Prop), xW xSC 63 1 [.ref a0, .ref a1, .int a2, .int a3, .int a4, .int a5] (.ref 39 :: st) M Q = xW xSC 63 4 [.ref a0, .ref a1, .int a2, .int a3, .int a4, .int a5] (.ref 40 :: st) M Q) ∧
  (∀ (a0 : Nat) (a1 : Nat) (a2 : Int32) (a3 : Int32) (a4 : Int32) (a5 : Int32) (st : List Value) (M : xM) (Q : Option Value → xM → Prop), xW xSC 63 4 [.ref a0, .ref a1, .int a2, .int a3, .int a4, .int a5] (st) M Q = xW xSC 63 5 [.ref a0, .ref a1, .int a2, .int a3, .int a4, .int a5] (.ref a1 :: st) M Q) ∧
  (∀ (a0 : Nat) (a1 : Nat) (a2 : Int32) (a3 : Int32) (a4 : Int32) (a5 : Int32) (st : List Value) (M : xM) (Q : Option Value → xM → Prop), xW xSC 63 5 [.ref a0, .ref a1, .int a2, .int a3, .int a4, .int a5] (st) M Q = xW xSC 63 6 [.ref a0, .ref a1, .int a2, .int a3, .int a4, .int a5] (.int a3 :: st) M Q) ∧
  (∀ (a0 : Nat) (a1 : Nat) (a2 : Int32) (a3 : Int32) (a4 : Int32) (a5 : Int32) (st : List Value) (M : xM) (Q : Option Value → xM → Prop), xW xSC 63 6 [.ref a0, .ref a1, .int a2, .int a3, .int a4, .int a5] (st) M Q = xW xSC 63 8 [.ref a0, .ref a1, .int a2, .int a3, .int a4, .int a5] (.int a4 :: st) M Q) ∧
  (∀ (a0 : Nat) (a1 : Nat) (a2 : Int32) (a3 : Int32) (a4 : Int32) (a5 : Int32) (st : List Value) (M : xM) (Q : Option Value → xM → Prop), xW xSC 63 8 [.ref a0, .ref a1, .int a2, .int a3, .int a4, .int a5] (st) M Q = xW xSC 63 10 [.ref a0, .ref a1, .int a2, .int a3, .int a4, .int a5] (.int a5 :: st) M Q) ∧
  (∀ (a0 : Nat) (a1 : Nat) (a2 : Int32) (a3 : Int32) (a4 : Int32) (a5 : Int32) (y0 : Int32) (y1 : Int32) (y2 : Int32) (y3 : Nat) (M : xM) (Q : Option Value → xM → Prop), xW xSC 63 10 [.ref a0, .ref a1, .int a2, .int a3, .int a4, .int a5] (.int y0 :: .int y1 :: .int y2 :: .ref y3 :: .ref 40 :: []) M Q = xW xSC 45 0 [.ref 40, .ref y3, .int y2, .int y1, .int y0, .null] [] M (fun v M' => xW xSC 63 13 [.ref a0, .ref a1, .int a2, .int a3, .int a4, .int a5] (xpush v []) M' Q)) ∧
  (∀ (a0 : Nat) (a1 : Nat) (a2 : Int32) (a3 : Int32) (a4 : Int32) (a5 : Int32) (st : List Value) (M : xM) (Q : Option Value → xM → Prop), xW xSC 63 13 [.ref a0, .ref a1, .int a2, .int a3, .int a4, .int a5] (st) M Q = xW xSC 63 14 [.ref a0, .ref a1, .int a2, .int a3, .int a4, .int a5] (.ref a0 :: st) M Q) ∧
  (∀ (a0 : Nat) (a1 : Nat) (a2 : Int32) (a3 : Int32) (a4 : Int32) (a5 : Int32) (st : List Value) (M : xM) (Q : Option Value → xM → Prop), xW xSC 63 14 [.ref a0, .ref a1, .int a2, .int a3, .int a4, .int a5] (.ref 39 :: st) M Q = xW xSC 63 17 [.ref a0, .ref a1, .int a2, .int a3, .int a4, .int a5] (.ref 40 :: st) M Q) ∧
  (∀ (a0 : Nat) (a1 : Nat) (a2 : Int32) (a3 : Int32) (a4 : Int32) (a5 : Int32) (st : List Value) (M : xM) (Q : Option Value → xM → Prop), xW xSC 63 17 [.ref a0, .ref a1, .int a2, .int a3, .int a4, .int a5] (st) M Q = xW xSC 63 18 [.ref a0, .ref a1, .int a2, .int a3, .int a4, .int a5] (.int a3 :: st) M Q) ∧
  (∀ (a0 : Nat) (a1 : Nat) (a2 : Int32) (a3 : Int32) (a4 : Int32) (a5 : Int32) (st : List Value) (M : xM) (Q : Option Value → xM → Prop), xW xSC 63 18 [.ref a0, .ref a1, .int a2, .int a3, .int a4, .int a5] (st) M Q = xW xSC 63 19 [.ref a0, .ref a1, .int a2, .int a3, .int a4, .int a5] (.int (nI 0) :: st) M Q) ∧
  (∀ (a0 : Nat) (a1 : Nat) (a2 : Int32) (a3 : Int32) (a4 : Int32) (a5 : Int32) (st : List Value) (M : xM) (Q : Option Value → xM → Prop), xW xSC 63 19 [.ref a0, .ref a1, .int a2, .int a3, .int a4, .int a5] (st) M Q = xW xSC 63 20 [.ref a0, .ref a1, .int a2, .int a3, .int a4, .int a5] (.ref a1 :: st) M Q) ∧
  (∀ (a0 : Nat) (a1 : Nat) (a2 : Int32) (a3 : Int32) (a4 : Int32) (a5 : Int32) (st : List Value) (M : xM) (Q : Option Value → xM → Prop), xW xSC 63 20 [.ref a0, .ref a1, .int a2, .int a3, .int a4, .int a5] (st) M Q = xW xSC 63 21 [.ref a0, .ref a1, .int a2, .int a3, .int a4, .int a5] (.int a2 :: st) M Q) ∧
  (∀ (a0 : Nat) (a1 : Nat) (a2 : Int32) (a3 : Int32) (a4 : Int32) (a5 : Int32) (st : List Value) (M : xM) (Q : Option Value → xM → Prop), xW xSC 63 21 [.ref a0, .ref a1, .int a2, .int a3, .int a4, .int a5] (st) M Q = xW xSC 63 22 [.ref a0, .ref a1, .int a2, .int a3, .int a4, .int a5] (.int (nI 3) :: st) M Q) ∧
  (∀ (a0 : Nat) (a1 : Nat) (a2 : Int32) (a3 : Int32) (a4 : Int32) (a5 : Int32) (y0 : Int32) (y1 : Int32) (y3 : Int32) (y4 : Int32) (y5 : Nat) (M : xM) (Q : Option Value → xM → Prop), xW xSC 63 22 [.ref a0, .ref a1, .int a2, .int a3, .int a4, .int a5] (.int y0 :: .int y1 :: .ref 9 :: .int y3 :: .int y4 :: .ref y5 :: []) M Q = xW xSC 28 0 [.ref 9, .int y1, .int y0] [] M (fun v M' => xW xSC 63 25 [.ref a0, .ref a1, .int a2, .int a3, .int a4, .int a5] (xpush v [.int y3, .int y4, .ref y5]) M' Q)) ∧
  (∀ (a0 : Nat) (a1 : Nat) (a2 : Int32) (a3 : Int32) (a4 : Int32) (a5 : Int32) (st : List Value) (M : xM) (Q : Option Value → xM → Prop), xW xSC 63 25 [.ref a0, .ref a1, .int a2, .int a3, .int a4, .int a5] (st) M Q = xW xSC 63 26 [.ref a0, .ref a1, .int a2, .int a3, .int a4, .int a5] (.int (nI 0) :: st) M Q) ∧
  (∀ (a0 : Nat) (a1 : Nat) (a2 : Int32) (a3 : Int32) (a4 : Int32) (a5 : Int32) (y0 : Int32) (y1 : Int32) (y2 : Int32) (y3 : Int32) (M : xM) (Q : Option Value → xM → Prop), xW xSC 63 26 [.ref a0, .ref a1, .int a2, .int a3, .int a4, .int a5] (.int y0 :: .int y1 :: .int y2 :: .int y3 :: .ref 40 :: []) M Q = xW xSC 51 0 [.ref 40, .int y3, .int y2, .int y1, .int y0, .null, .null] [] M (fun v M' => xW xSC 63 29 [.ref a0, .ref a1, .int a2, .int a3, .int a4, .int a5] (xpush v []) M' Q)) ∧
  (∀ (a0 : Nat) (a1 : Nat) (a2 : Int32) (a3 : Int32) (a4 : Int32) (a5 : Int32) (M : xM) (Q : Option Value → xM → Prop), xW xSC 63 29 [.ref a0, .ref a1, .int a2, .int a3, .int a4, .int a5] ([]) M Q = Q none M) :=
  ⟨fun a0 a1 a2 a3 a4 a5 st M Q => xw_s rfl rfl,
  fun a0 a1 a2 a3 a4 a5 st M Q => xw_s rfl rfl,
  fun a0 a1 a2 a3 a4 a5 st M Q => xw_s rfl rfl,
  fun a0 a1 a2 a3 a4 a5 st M Q => xw_s rfl rfl,
  fun a0 a1 a2 a3 a4 a5 st M Q => xw_s rfl rfl,
  fun a0 a1 a2 a3 a4 a5 st M Q => xw_s rfl rfl,
  fun a0 a1 a2 a3 a4 a5 y0 y1 y2 y3 M Q => xw_call rfl rfl rfl,
  fun a0 a1 a2 a3 a4 a5 st M Q => xw_s rfl rfl,
  fun a0 a1 a2 a3 a4 a5 st M Q => xw_s rfl rfl,
  fun a0 a1 a2 a3 a4 a5 st M Q => xw_s rfl rfl,
  fun a0 a1 a2 a3 a4 a5 st M Q => xw_s rfl rfl,
  fun a0 a1 a2 a3 a4 a5 st M Q => xw_s rfl rfl,
  fun a0 a1 a2 a3 a4 a5 st M Q => xw_s rfl rfl,
  fun a0 a1 a2 a3 a4 a5 st M Q => xw_s rfl rfl,
  fun a0 a1 a2 a3 a4 a5 y0 y1 y3 y4 y5 M Q => xw_call rfl rfl rfl,
  fun a0 a1 a2 a3 a4 a5 st M Q => xw_s rfl rfl,
  fun a0 a1 a2 a3 a4 a5 y0 y1 y2 y3 M Q => xw_call rfl rfl rfl,
  fun a0 a1 a2 a3 a4 a5 M Q => xw_retv rfl rfl⟩
theorem j63 : True := trivial

set_option maxRecDepth 20000 in
theorem s64 :
  (∀ (a0 : Nat) (a1 : Nat) (a2 : Int32) (a3 : Int32) (a4 : Int32) (a5 : Value) (a6 : Value) (a7 : Value) (a8 : Value) (st : List Value) (M : xM) (Q : Option Value → xM → Prop), xW xSC 64 0 [.ref a0, .ref a1, .int a2, .int a3, .int a4, a5, a6, a7, a8] (st) M Q = xW xSC 64 1 [.ref a0, .ref a1, .int a2, .int a3, .int a4, a5, a6, a7, a8] (.int (nI 0) :: st) M Q) ∧
  (∀ (a0 : Nat) (a1 : Nat) (a2 : Int32) (a3 : Int32) (a4 : Int32) (a5 : Value) (a6 : Value) (a7 : Value) (a8 : Value) (y0 : Int32) (st : List Value) (M : xM) (Q : Option Value → xM → Prop), xW xSC 64 1 [.ref a0, .ref a1, .int a2, .int a3, .int a4, a5, a6, a7, a8] (.int y0 :: st) M Q = xW xSC 64 3 [.ref a0, .ref a1, .int a2, .int a3, .int a4, .int y0, a6, a7, a8] (st) M Q) ∧
  (∀ (a0 : Nat) (a1 : Nat) (a2 : Int32) (a3 : Int32) (a4 : Int32) (a5 : Int32) (a6 : Value) (a7 : Value) (a8 : Value) (st : List Value) (M : xM) (Q : Option Value → xM → Prop), xW xSC 64 3 [.ref a0, .ref a1, .int a2, .int a3, .int a4, .int a5, a6, a7, a8] (st) M Q = xW xSC 64 4 [.ref a0, .ref a1, .int a2, .int a3, .int a4, .int a5, a6, a7, a8] (.int (nI 0) :: st) M Q) ∧
  (∀ (a0 : Nat) (a1 : Nat) (a2 : Int32) (a3 : Int32) (a4 : Int32) (a5 : Int32) (a6 : Value) (a7 : Value) (a8 : Value) (y0 : Int32) (st : List Value) (M : xM) (Q : Option Value → xM → Prop), xW xSC 64 4 [.ref a0, .ref a1, .int a2, .int a3, .int a4, .int a5, a6, a7, a8] (.int y0 :: st) M Q = xW xSC 64 6 [.ref a0, .ref a1, .int a2, .int a3, .int a4, .int a5, .int y0, a7, a8] (st) M Q) ∧
  (∀ (a0 : Nat) (a1 : Nat) (a2 : Int32) (a3 : Int32) (a4 : Int32) (a5 : Int32) (a6 : Int32) (a7 : Value) (a8 : Value) (st : List Value) (M : xM) (Q : Option Value → xM → Prop), xW xSC 64 8 [.ref a0, .ref a1, .int a2, .int a3, .int a4, .int a5, .int a6, a7, a8] (st) M Q = xW xSC 64 9 [.ref a0, .ref a1, .int a2, .int a3, .int a4, .int a5, .int a6, a7, a8] (.int (nI 2) :: st) M Q) ∧
  (∀ (a0 : Nat) (a1 : Nat) (a2 : Int32) (a3 : Int32) (a4 : Int32) (a5 : Int32) (a6 : Int32) (a7 : Value) (a8 : Value) (y0 : Int32) (y1 : Int32) (st : List Value) (M : xM) (Q : Option Value → xM → Prop), xW xSC 64 9 [.ref a0, .ref a1, .int a2, .int a3, .int a4, .int a5, .int a6, a7, a8] (.int y0 :: .int y1 :: st) M Q = if y1 < y0 then xW xSC 64 12 [.ref a0, .ref a1, .int a2, .int a3, .int a4, .int a5, .int a6, a7, a8] (st) M Q else xW xSC 64 75 [.ref a0, .ref a1, .int a2, .int a3, .int a4, .int a5, .int a6, a7, a8] (st) M Q) ∧
  (∀ (a0 : Nat) (a1 : Nat) (a2 : Int32) (a3 : Int32) (a4 : Int32) (a5 : Int32) (a6 : Int32) (a7 : Value) (a8 : Value) (st : List Value) (M : xM) (Q : Option Value → xM → Prop), xW xSC 64 12 [.ref a0, .ref a1, .int a2, .int a3, .int a4, .int a5, .int a6, a7, a8] (st) M Q = xW xSC 64 13 [.ref a0, .ref a1, .int a2, .int a3, .int a4, .int a5, .int a6, a7, a8] (.ref a1 :: st) M Q) ∧
  (∀ (a0 : Nat) (a1 : Nat) (a2 : Int32) (a3 : Int32) (a4 : Int32) (a5 : Int32) (a6 : Int32) (a7 : Value) (a8 : Value) (st : List Value) (M : xM) (Q : Option Value → xM → Prop), xW xSC 64 13 [.ref a0, .ref a1, .int a2, .int a3, .int a4, .int a5, .int a6, a7, a8] (st) M Q = xW xSC 64 14 [.ref a0, .ref a1, .int a2, .int a3, .int a4, .int a5, .int a6, a7, a8] (.int a2 :: st) M Q) ∧
  (∀ (a0 : Nat) (a1 : Nat) (a2 : Int32) (a3 : Int32) (a4 : Int32) (a5 : Int32) (a6 : Int32) (a7 : Value) (a8 : Value) (st : List Value) (M : xM) (Q : Option Value → xM → Prop), xW xSC 64 14 [.ref a0, .ref a1, .int a2, .int a3, .int a4, .int a5, .int a6, a7, a8] (st) M Q = xW xSC 64 16 [.ref a0, .ref a1, .int a2, .int a3, .int a4, .int a5, .int a6, a7, a8] (.int a6 :: st) M Q) ∧
  (∀ (a0 : Nat) (a1 : Nat) (a2 : Int32) (a3 : Int32) (a4 : Int32) (a5 : Int32) (a6 : Int32) (a7 : Value) (a8 : Value) (y0 : Int32) (y1 : Int32) (M : xM) (Q : Option Value → xM → Prop), xW xSC 64 16 [.ref a0, .ref a1, .int a2, .int a3, .int a4, .int a5, .int a6, a7, a8] (.int y0 :: .int y1 :: .ref 9 :: []) M Q = xW xSC 36 0 [.ref 9, .int y1, .int y0] [] M (fun v M' => xW xSC 64 19 [.ref a0, .ref a1, .int a2, .int a3, .int a4, .int a5, .int a6, a7, a8] (xpush v []) M' Q)) ∧
  (∀ (a0 : Nat) (a1 : Nat) (a2 : Int32) (a3 : Int32) (a4 : Int32) (a5 : Int32) (a6 : Int32) (a7 : Value) (a8 : Value) (st : List Value) (M : xM) (Q : Option Value → xM → Prop), xW xSC 64 19 [.ref a0, .ref a1, .int a2, .int a3, .int a4, .int a5, .int a6, a7, a8] (st) M Q = xW xSC 64 21 [.ref a0, .ref a1, .int a2, .int a3, .int a4, .int a5, .int a6, a7, a8] (.int a4 :: st) M Q) ∧
  (∀ (a0 : Nat) (a1 : Nat) (a2 : Int32) (a3 : Int32) (a4 : Int32) (a5 : Int32) (a6 : Int32) (a7 : Value) (a8 : Value) (y0 : Int32) (y1 : Int32) (st : List Value) (M : xM) (Q : Option Value → xM → Prop), xW xSC 64 21 [.ref a0, .ref a1, .int a2, .int a3, .int a4, .int a5, .int a6, a7, a8] (.int y0 :: .int y1 :: st) M Q = xW xSC 64 22 [.ref a0, .ref a1, .int a2, .int a3, .int a4, .int a5, .int a6, a7, a8] (.int (y1 &&& y0) :: st) M Q) ∧
  (∀ (a0 : Nat) (a1 : Nat) (a2 : Int32) (a3 : Int32) (a4 : Int32) (a5 : Int32) (a6 : Int32) (a7 : Value) (a8 : Value) (y0 : Int32) (st : List Value) (M : xM) (Q : Option Value → xM → Prop), xW xSC 64 22 [.ref a0, .ref a1, .int a2, .int a3, .int a4, .int a5, .int a6, a7, a8] (.int y0 :: st) M Q = xW xSC 64 24 [.ref a0, .ref a1, .int a2, .int a3, .int a4, .int a5, .int a6, .int y0, a8] (st) M Q) ∧
  (∀ (a0 : Nat) (a1 : Nat) (a2 : Int32) (a3 : Int32) (a4 : Int32) (a5 : Int32) (a6 : Int32) (a7 : Int32) (a8 : Value) (st : List Value) (M : xM) (Q : Option Value → xM → Prop), xW xSC 64 24 [.ref a0, .ref a1, .int a2, .int a3, .int a4, .int a5, .int a6, .int a7, a8] (st) M Q = xW xSC 64 25 [.ref a0, .ref a1, .int a2, .int a3, .int a4, .int a5, .int a6, .int a7, a8] (.ref a1 :: st) M Q) ∧
  (∀ (a0 : Nat) (a1 : Nat) (a2 : Int32) (a3 : Int32) (a4 : Int32) (a5 : Int32) (a6 : Int32) (a7 : Int32) (a8 : Value) (st : List Value) (M : xM) (Q : Option Value → xM → Prop), xW xSC 64 25 [.ref a0, .ref a1, .int a2, .int a3, .int a4, .int a5, .int a6, .int a7, a8] (st) M Q = xW xSC 64 26 [.ref a0, .ref a1, .int a2, .int a3, .int a4, .int a5, .int a6, .int a7, a8] (.int a2 :: st) M Q) ∧
  (∀ (a0 : Nat) (a1 : Nat) (a2 : Int32) (a3 : Int32) (a4 : Int32) (a5 : Int32) (a6 : Int32) (a7 : Int32) (a8 : Value) (st : List Value) (M : xM) (Q : Option Value → xM → Prop), xW xSC 64 26 [.ref a0, .ref a1, .int a2, .int a3, .int a4, .int a5, .int a6, .int a7, a8] (st) M Q = xW xSC 64 27 [.ref a0, .ref a1, .int a2, .int a3, .int a4, .int a5, .int a6, .int a7, a8] (.int (nI 1) :: st) M Q) ∧
  (∀ (a0 : Nat) (a1 : Nat) (a2 : Int32) (a3 : Int32) (a4 : Int32) (a5 : Int32) (a6 : Int32) (a7 : Int32) (a8 : Value) (st : List Value) (M : xM) (Q : Option Value → xM → Prop), xW xSC 64 27 [.ref a0, .ref a1, .int a2, .int a3, .int a4, .int a5, .int a6, .int a7, a8] (st) M Q = xW xSC 64 29 [.ref a0, .ref a1, .int a2, .int a3, .int a4, .int a5, .int a6, .int a7, a8] (.int a6 :: st) M Q) ∧
  (∀ (a0 : Nat) (a1 : Nat) (a2 : Int32) (a3 : Int32) (a4 : Int32) (a5 : Int32) (a6 : Int32) (a7 : Int32) (a8 : Value) (y0 : Int32) (y1 : Int32) (st : List Value) (M : xM) (Q : Option Value → xM → Prop), xW xSC 64 29 [.ref a0, .ref a1, .int a2, .int a3, .int a4, .int a5, .int a6, .int a7, a8] (.int y0 :: .int y1 :: st) M Q = xW xSC 64 30 [.ref a0, .ref a1, .int a2, .int a3, .int a4, .int a5, .int a6, .int a7, a8] (.int (y1 - y0) :: st) M Q) ∧
  (∀ (a0 : Nat) (a1 : Nat) (a2 : Int32) (a3 : Int32) (a4 : Int32) (a5 : Int32) (a6 : Int32) (a7 : Int32) (a8 : Value) (y0 : Int32) (y1 : Int32) (M : xM) (Q : Option Value → xM → Prop), xW xSC 64 30 [.ref a0, .ref a1, .int a2, .int a3, .int a4, .int a5, .int a6, .int a7, a8] (.int y0 :: .int y1 :: .ref 9 :: []) M Q = xW xSC 36 0 [.ref 9, .int y1, .int y0] [] M (fun v M' => xW xSC 64 33 [.ref a0, .ref a1, .int a2, .int a3, .int a4, .int a5, .int a6, .int a7, a8] (xpush v []) M' Q)) ∧
  (∀ (a0 : Nat) (a1 : Nat) (a2 : Int32) (a3 : Int32) (a4 : Int32) (a5 : Int32) (a6 : Int32) (a7 : Int32) (a8 : Value) (st : List Value) (M : xM) (Q : Option Value → xM → Prop), xW xSC 64 33 [.ref a0, .ref a1, .int a2, .int a3, .int a4, .int a5, .int a6, .int a7, a8] (st) M Q = xW xSC 64 35 [.ref a0, .ref a1, .int a2, .int a3, .int a4, .int a5, .int a6, .int a7, a8] (.int a4 :: st) M Q) ∧
  (∀ (a0 : Nat) (a1 : Nat) (a2 : Int32) (a3 : Int32) (a4 : Int32) (a5 : Int32) (a6 : Int32) (a7 : Int32) (a8 : Value) (y0 : Int32) (y1 : Int32) (st : List Value) (M : xM) (Q : Option Value → xM → Prop), xW xSC 64 35 [.ref a0, .ref a1, .int a2, .int a3, .int a4, .int a5, .int a6, .int a7, a8] (.int y0 :: .int y1 :: st) M Q = xW xSC 64 36 [.ref a0, .ref a1, .int a2, .int a3, .int a4, .int a5, .int a6, .int a7, a8] (.int (y1 &&& y0) :: st) M Q) ∧
  (∀ (a0 : Nat) (a1 : Nat) (a2 : Int32) (a3 : Int32) (a4 : Int32) (a5 : Int32) (a6 : Int32) (a7 : Int32) (a8 : Value) (y0 : Int32) (st : List Value) (M : xM) (Q : Option Value → xM → Prop), xW xSC 64 36 [.ref a0, .ref a1, .int a2, .int a3, .int a4, .int a5, .int a6, .int a7, a8] (.int y0 :: st) M Q = xW xSC 64 38 [.ref a0, .ref a1, .int a2, .int a3, .int a4, .int a5, .int a6, .int a7, .int y0] (st) M Q) ∧
  (∀ (a0 : Nat) (a1 : Nat) (a2 : Int32) (a3 : Int32) (a4 : Int32) (a5 : Int32) (a6 : Int32) (a7 : Int32) (a8 : Int32) (st : List Value) (M : xM) (Q : Option Value → xM → Prop), xW xSC 64 38 [.ref a0, .ref a1, .int a2, .int a3, .int a4, .int a5, .int a6, .int a7, .int a8] (st) M Q = xW xSC 64 39 [.ref a0, .ref a1, .int a2, .int a3, .int a4, .int a5, .int a6, .int a7, .int a8] (.ref a0 :: st) M Q) ∧
  (∀ (a0 : Nat) (a1 : Nat) (a2 : Int32) (a3 : Int32) (a4 : Int32) (a5 : Int32) (a6 : Int32) (a7 : Int32) (a8 : Int32) (st : List Value) (M : xM) (Q : Option Value → xM → Prop), xW xSC 64 39 [.ref a0, .ref a1, .int a2, .int a3, .int a4, .int a5, .int a6, .int a7, .int a8] (st) M Q = xW xSC 64 40 [.ref a0, .ref a1, .int a2, .int a3, .int a4, .int a5, .int a6, .int a7, .int a8] (.ref a1 :: st) M Q) ∧
  (∀ (a0 : Nat) (a1 : Nat) (a2 : Int32) (a3 : Int32) (a4 : Int32) (a5 : Int32) (a6 : Int32) (a7 : Int32) (a8 : Int32) (st : List Value) (M : xM) (Q : Option Value → xM → Prop), xW xSC 64 40 [.ref a0, .ref a1, .int a2, .int a3, .int a4, .int a5, .int a6, .int a7, .int a8] (st) M Q = xW xSC 64 41 [.ref a0, .ref a1, .int a2, .int a3, .int a4, .int a5, .int a6, .int a7, .int a8] (.int a2 :: st) M Q) ∧
  (∀ (a0 : Nat) (a1 : Nat) (a2 : Int32) (a3 : Int32) (a4 : Int32) (a5 : Int32) (a6 : Int32) (a7 : Int32) (a8 : Int32) (st : List Value) (M : xM) (Q : Option Value → xM → Prop), xW xSC 64 41 [.ref a0, .ref a1, .int a2, .int a3, .int a4, .int a5, .int a6, .int a7, .int a8] (st) M Q = xW xSC 64 42 [.ref a0, .ref a1, .int a2, .int a3, .int a4, .int a5, .int a6, .int a7, .int a8] (.int a3 :: st) M Q) ∧
  (∀ (a0 : Nat) (a1 : Nat) (a2 : Int32) (a3 : Int32) (a4 : Int32) (a5 : Int32) (a6 : Int32) (a7 : Int32) (a8 : Int32) (st : List Value) (M : xM) (Q : Option Value → xM → Prop), xW xSC 64 42 [.ref a0, .ref a1, .int a2, .int a3, .int a4, .int a5, .int a6, .int a7, .int a8] (st) M Q = xW xSC 64 44 [.ref a0, .ref a1, .int a2, .int a3, .int a4, .int a5, .int a6, .int a7, .int a8] (.int a6 :: st) M Q) ∧
  (∀ (a0 : Nat) (a1 : Nat) (a2 : Int32) (a3 : Int32) (a4 : Int32) (a5 : Int32) (a6 : Int32) (a7 : Int32) (a8 : Int32) (y0 : Int32) (y1 : Int32) (y2 : Int32) (y3 : Nat) (y4 : Nat) (M : xM) (Q : Option Value → xM → Prop), xW xSC 64 44 [.ref a0, .ref a1, .int a2, .int a3, .int a4, .int a5, .int a6, .int a7, .int a8] (.int y0 :: .int y1 :: .int y2 :: .ref y3 :: .ref y4 :: []) M Q = xW xSC 38 0 [.int y1, .int y0] [] M (fun v M' => xW xSC 64 47 [.ref a0, .ref a1, .int a2, .int a3, .int a4, .int a5, .int a6, .int a7, .int a8] (xpush v [.int y2, .ref y3, .ref y4]) M' Q)) ∧
  (∀ (a0 : Nat) (a1 : Nat) (a2 : Int32) (a3 : Int32) (a4 : Int32) (a5 : Int32) (a6 : Int32) (a7 : Int32) (a8 : Int32) (st : List Value) (M : xM) (Q : Option Value → xM → Prop), xW xSC 64 47 [.ref a0, .ref a1, .int a2, .int a3, .int a4, .int a5, .int a6, .int a7, .int a8] (st) M Q = xW xSC 64 49 [.ref a0, .ref a1, .int a2, .int a3, .int a4, .int a5, .int a6, .int a7, .int a8] (.int a7 :: st) M Q) ∧
  (∀ (a0 : Nat) (a1 : Nat) (a2 : Int32) (a3 : Int32) (a4 : Int32) (a5 : Int32) (a6 : Int32) (a7 : Int32) (a8 : Int32) (st : List Value) (M : xM) (Q : Option Value → xM → Prop), xW xSC 64 49 [.ref a0, .ref a1, .int a2, .int a3, .int a4, .int a5, .int a6, .int a7, .int a8] (st) M Q = xW xSC 64 51 [.ref a0, .ref a1, .int a2, .int a3, .int a4, .int a5, .int a6, .int a7, .int a8] (.int a8 :: st) M Q) ∧
  (∀ (a0 : Nat) (a1 : Nat) (a2 : Int32) (a3 : Int32) (a4 : Int32) (a5 : Int32) (a6 : Int32) (a7 : Int32) (a8 : Int32) (y0 : Int32) (y1 : Int32) (y2 : Int32) (y3 : Int32) (y4 : Nat) (M : xM) (Q : Option Value → xM → Prop), xW xSC 64 51 [.ref a0, .ref a1, .int a2, .int a3, .int a4, .int a5, .int a6, .int a7, .int a8] (.int y0 :: .int y1 :: .int y2 :: .int y3 :: .ref y4 :: .ref 39 :: []) M Q = xW xSC 63 0 [.ref 39, .ref y4, .int y3, .int y2, .int y1, .int y0] [] M (fun v M' => xW xSC 64 54 [.ref a0, .ref a1, .int a2, .int a3, .int a4, .int a5, .int a6, .int a7, .int a8] (xpush v []) M' Q)) ∧
  (∀ (a0 : Nat) (a1 : Nat) (a2 : Int32) (a3 : Int32) (a4 : Int32) (a5 : Int32) (a6 : Int32) (a7 : Int32) (a8 : Int32) (st : List Value) (M : xM) (Q : Option Value → xM → Prop), xW xSC 64 54 [.ref a0, .ref a1, .int a2, .int a3, .int a4, .int a5, .int a6, .int a7, .int a8] (st) M Q = xW xSC 64 56 [.ref a0, .ref a1, .int a2, .int a3, .int a4, .int a5, .int a6, .int a7, .int a8] (.int a5 :: st) M Q) ∧
  (∀ (a0 : Nat) (a1 : Nat) (a2 : Int32) (a3 : Int32) (a4 : Int32) (a5 : Int32) (a6 : Int32) (a7 : Int32) (a8 : Int32) (st : List Value) (M : xM) (Q : Option Value → xM → Prop), xW xSC 64 56 [.ref a0, .ref a1, .int a2, .int a3, .int a4, .int a5, .int a6, .int a7, .int a8] (st) M Q = xW xSC 64 57 [.ref a0, .ref a1, .int a2, .int a3, .int a4, .int a5, .int a6, .int a7, .int a8] (.ref a0 :: st) M Q) ∧
  (∀ (a0 : Nat) (a1 : Nat) (a2 : Int32) (a3 : Int32) (a4 : Int32) (a5 : Int32) (a6 : Int32) (a7 : Int32) (a8 : Int32) (st : List Value) (M : xM) (Q : Option Value → xM → Prop), xW xSC 64 57 [.ref a0, .ref a1, .int a2, .int a3, .int a4, .int a5, .int a6, .int a7, .int a8] (.ref 39 :: st) M Q = xW xSC 64 60 [.ref a0, .ref a1, .int a2, .int a3, .int a4, .int a5, .int a6, .int a7, .int a8] (.ref 40 :: st) M Q) ∧
  (∀ (a0 : Nat) (a1 : Nat) (a2 : Int32) (a3 : Int32) (a4 : Int32) (a5 : Int32) (a6 : Int32) (a7 : Int32) (a8 : Int32) (st : List Value) (M : xM) (Q : Option Value → xM → Prop), xW xSC 64 60 [.ref a0, .ref a1, .int a2, .int a3, .int a4, .int a5, .int a6, .int a7, .int a8] (st) M Q = xW xSC 64 63 [.ref a0, .ref a1, .int a2, .int a3, .int a4, .int a5, .int a6, .int a7, .int a8] (.int (nI 1000) :: st) M Q) ∧
  (∀ (a0 : Nat) (a1 : Nat) (a2 : Int32) (a3 : Int32) (a4 : Int32) (a5 : Int32) (a6 : Int32) (a7 : Int32) (a8 : Int32) (y0 : Int32) (y2 : Int32) (M : xM) (Q : Option Value → xM → Prop), xW xSC 64 63 [.ref a0, .ref a1, .int a2, .int a3, .int a4, .int a5, .int a6, .int a7, .int a8] (.int y0 :: .ref 40 :: .int y2 :: []) M Q = xW xSC 55 0 [.ref 40, .int y0] [] M (fun v M' => xW xSC 64 66 [.ref a0, .ref a1, .int a2, .int a3, .int a4, .int a5, .int a6, .int a7, .int a8] (xpush v [.int y2]) M' Q)) ∧
  (∀ (a0 : Nat) (a1 : Nat) (a2 : Int32) (a3 : Int32) (a4 : Int32) (a5 : Int32) (a6 : Int32) (a7 : Int32) (a8 : Int32) (y0 : Int32) (y1 : Int32) (st : List Value) (M : xM) (Q : Option Value → xM → Prop), xW xSC 64 66 [.ref a0, .ref a1, .int a2, .int a3, .int a4, .int a5, .int a6, .int a7, .int a8] (.int y0 :: .int y1 :: st) M Q = xW xSC 64 67 [.ref a0, .ref a1, .int a2, .int a3, .int a4, .int a5, .int a6, .int a7, .int a8] (.int (y1 + y0) :: st) M Q) ∧
  (∀ (a0 : Nat) (a1 : Nat) (a2 : Int32) (a3 : Int32) (a4 : Int32) (a5 : Int32) (a6 : Int32) (a7 : Int32) (a8 : Int32) (y0 : Int32) (st : List Value) (M : xM) (Q : Option Value → xM → Prop), xW xSC 64 67 [.ref a0, .ref a1, .int a2, .int a3, .int a4, .int a5, .int a6, .int a7, .int a8] (.int y0 :: st) M Q = xW xSC 64 69 [.ref a0, .ref a1, .int a2, .int a3, .int a4, .int y0, .int a6, .int a7, .int a8] (st) M Q) ∧
  (∀ (a0 : Nat) (a1 : Nat) (a2 : Int32) (a3 : Int32) (a4 : Int32) (a5 : Int32) (a6 : Int32) (a7 : Int32) (a8 : Int32) (st : List Value) (M : xM) (Q : Option Value → xM → Prop), xW xSC 64 69 [.ref a0, .ref a1, .int a2, .int a3, .int a4, .int a5, .int a6, .int a7, .int a8] (st) M Q = xW xSC 64 72 [.ref a0, .ref a1, .int a2, .int a3, .int a4, .int a5, .int (a6 + nI 1), .int a7, .int a8] (st) M Q) ∧
  (∀ (a0 : Nat) (a1 : Nat) (a2 : Int32) (a3 : Int32) (a4 : Int32) (a5 : Int32) (a6 : Int32) (a7 : Int32) (a8 : Int32) (st : List Value) (M : xM) (Q : Option Value → xM → Prop), xW xSC 64 72 [.ref a0, .ref a1, .int a2, .int a3, .int a4, .int a5, .int a6, .int a7, .int a8] (st) M Q = xW xSC 64 6 [.ref a0, .ref a1, .int a2, .int a3, .int a4, .int a5, .int a6, .int a7, .int a8] (st) M Q) ∧
  (∀ (a0 : Nat) (a1 : Nat) (a2 : Int32) (a3 : Int32) (a4 : Int32) (a5 : Int32) (a6 : Int32) (a7 : Value) (a8 : Value) (st : List Value) (M : xM) (Q : Option Value → xM → Prop), xW xSC 64 75 [.ref a0, .ref a1, .int a2, .int a3, .int a4, .int a5, .int a6, a7, a8] (st) M Q = xW xSC 64 77 [.ref a0, .ref a1, .int a2, .int a3, .int a4, .int a5, .int a6, a7, a8] (.int a5 :: st) M Q) ∧
  (∀ (a0 : Nat) (a1 : Nat) (a2 : Int32) (a3 : Int32) (a4 : Int32) (a5 : Int32) (a6 : Int32) (a7 : Value) (a8 : Value) (y0 : Int32) (M : xM) (Q : Option Value → xM → Prop), xW xSC 64 77 [.ref a0, .ref a1, .int a2, .int a3, .int a4, .int a5, .int a6, a7, a8] ([.int y0]) M Q = Q (some (.int y0)) M) :=
  ⟨fun a0 a1 a2 a3 a4 a5 a6 a7 a8 st M Q => xw_s rfl rfl,
  fun a0 a1 a2 a3 a4 a5 a6 a7 a8 y0 st M Q => xw_s rfl rfl,
  fun a0 a1 a2 a3 a4 a5 a6 a7 a8 st M Q => xw_s rfl rfl,
  fun a0 a1 a2 a3 a4 a5 a6 a7 a8 y0 st M Q => xw_s rfl rfl,
  fun a0 a1 a2 a3 a4 a5 a6 a7 a8 st M Q => xw_s rfl rfl,
  fun a0 a1 a2 a3 a4 a5 a6 a7 a8 y0 y1 st M Q => xw_brn (c0 := y0 ≤ y1) (c1 := y1 < y0) rfl rfl (xge _ _),
  fun a0 a1 a2 a3 a4 a5 a6 a7 a8 st M Q => xw_s rfl rfl,
  fun a0 a1 a2 a3 a4 a5 a6 a7 a8 st M Q => xw_s rfl rfl,
  fun a0 a1 a2 a3 a4 a5 a6 a7 a8 st M Q => xw_s rfl rfl,
  fun a0 a1 a2 a3 a4 a5 a6 a7 a8 y0 y1 M Q => xw_call rfl rfl rfl,
  fun a0 a1 a2 a3 a4 a5 a6 a7 a8 st M Q => xw_s rfl rfl,
  fun a0 a1 a2 a3 a4 a5 a6 a7 a8 y0 y1 st M Q => xw_s rfl rfl,
  fun a0 a1 a2 a3 a4 a5 a6 a7 a8 y0 st M Q => xw_s rfl rfl,
  fun a0 a1 a2 a3 a4 a5 a6 a7 a8 st M Q => xw_s rfl rfl,
  fun a0 a1 a2 a3 a4 a5 a6 a7 a8 st M Q => xw_s rfl rfl,
  fun a0 a1 a2 a3 a4 a5 a6 a7 a8 st M Q => xw_s rfl rfl,
  fun a0 a1 a2 a3 a4 a5 a6 a7 a8 st M Q => xw_s rfl rfl,
  fun a0 a1 a2 a3 a4 a5 a6 a7 a8 y0 y1 st M Q => xw_s rfl rfl,
  fun a0 a1 a2 a3 a4 a5 a6 a7 a8 y0 y1 M Q => xw_call rfl rfl rfl,
  fun a0 a1 a2 a3 a4 a5 a6 a7 a8 st M Q => xw_s rfl rfl,
  fun a0 a1 a2 a3 a4 a5 a6 a7 a8 y0 y1 st M Q => xw_s rfl rfl,
  fun a0 a1 a2 a3 a4 a5 a6 a7 a8 y0 st M Q => xw_s rfl rfl,
  fun a0 a1 a2 a3 a4 a5 a6 a7 a8 st M Q => xw_s rfl rfl,
  fun a0 a1 a2 a3 a4 a5 a6 a7 a8 st M Q => xw_s rfl rfl,
  fun a0 a1 a2 a3 a4 a5 a6 a7 a8 st M Q => xw_s rfl rfl,
  fun a0 a1 a2 a3 a4 a5 a6 a7 a8 st M Q => xw_s rfl rfl,
  fun a0 a1 a2 a3 a4 a5 a6 a7 a8 st M Q => xw_s rfl rfl,
  fun a0 a1 a2 a3 a4 a5 a6 a7 a8 y0 y1 y2 y3 y4 M Q => xw_call rfl rfl rfl,
  fun a0 a1 a2 a3 a4 a5 a6 a7 a8 st M Q => xw_s rfl rfl,
  fun a0 a1 a2 a3 a4 a5 a6 a7 a8 st M Q => xw_s rfl rfl,
  fun a0 a1 a2 a3 a4 a5 a6 a7 a8 y0 y1 y2 y3 y4 M Q => xw_call rfl rfl rfl,
  fun a0 a1 a2 a3 a4 a5 a6 a7 a8 st M Q => xw_s rfl rfl,
  fun a0 a1 a2 a3 a4 a5 a6 a7 a8 st M Q => xw_s rfl rfl,
  fun a0 a1 a2 a3 a4 a5 a6 a7 a8 st M Q => xw_s rfl rfl,
  fun a0 a1 a2 a3 a4 a5 a6 a7 a8 st M Q => xw_s rfl rfl,
  fun a0 a1 a2 a3 a4 a5 a6 a7 a8 y0 y2 M Q => xw_call rfl rfl rfl,
  fun a0 a1 a2 a3 a4 a5 a6 a7 a8 y0 y1 st M Q => xw_s rfl rfl,
  fun a0 a1 a2 a3 a4 a5 a6 a7 a8 y0 st M Q => xw_s rfl rfl,
  fun a0 a1 a2 a3 a4 a5 a6 a7 a8 st M Q => xw_s rfl rfl,
  fun a0 a1 a2 a3 a4 a5 a6 a7 a8 st M Q => xw_s rfl rfl,
  fun a0 a1 a2 a3 a4 a5 a6 a7 a8 st M Q => xw_s rfl rfl,
  fun a0 a1 a2 a3 a4 a5 a6 a7 a8 y0 M Q => xw_ret rfl rfl⟩
set_option maxRecDepth 20000 in
theorem h64_6 :
  (∀ (a0 : Nat) (a1 : Nat) (a2 : Int32) (a3 : Int32) (a4 : Int32) (a5 : Int32) (a6 : Int32) (a7 : Value) (a8 : Value) (st : List Value) (M : xM) (Q : Option Value → xM → Prop), xW xSC 64 6 [.ref a0, .ref a1, .int a2, .int a3, .int a4, .int a5, .int a6, a7, a8] (st) M Q = xW xSC 64 8 [.ref a0, .ref a1, .int a2, .int a3, .int a4, .int a5, .int a6, a7, a8] (.int a6 :: st) M Q) :=
  fun a0 a1 a2 a3 a4 a5 a6 a7 a8 st M Q => xw_s rfl rfl
theorem j64 : True := trivial

set_option maxRecDepth 20000 in
theorem s65 :
  (∀ (a0 : Nat) (a1 : Nat) (a2 : Int32) (a3 : Value) (a4 : Value) (st : List Value) (M : xM) (Q : Option Value → xM → Prop), xW xSC 65 0 [.ref a0, .ref a1, .int a2, a3, a4] (st) M Q = xW xSC 65 1 [.ref a0, .ref a1, .int a2, a3, a4] (.int (nI 0) :: st) M Q) ∧
  (∀ (a0 : Nat) (a1 : Nat) (a2 : Int32) (a3 : Value) (a4 : Value) (y0 : Int32) (st : List Value) (M : xM) (Q : Option Value → xM → Prop), xW xSC 65 1 [.ref a0, .ref a1, .int a2, a3, a4] (.int y0 :: st) M Q = xW xSC 65 2 [.ref a0, .ref a1, .int a2, .int y0, a4] (st) M Q) ∧
  (∀ (a0 : Nat) (a1 : Nat) (a2 : Int32) (a3 : Int32) (a4 : Value) (st : List Value) (M : xM) (Q : Option Value → xM → Prop), xW xSC 65 2 [.ref a0, .ref a1, .int a2, .int a3, a4] (st) M Q = xW xSC 65 3 [.ref a0, .ref a1, .int a2, .int a3, a4] (.int (nI 0) :: st) M Q) ∧
  (∀ (a0 : Nat) (a1 : Nat) (a2 : Int32) (a3 : Int32) (a4 : Value) (y0 : Int32) (st : List Value) (M : xM) (Q : Option Value → xM → Prop), xW xSC 65 3 [.ref a0, .ref a1, .int a2, .int a3, a4] (.int y0 :: st) M Q = xW xSC 65 5 [.ref a0, .ref a1, .int a2, .int a3, .int y0] (st) M Q) ∧
  (∀ (a0 : Nat) (a1 : Nat) (a2 : Int32) (a3 : Int32) (a4 : Int32) (st : List Value) (M : xM) (Q : Option Value → xM → Prop), xW xSC 65 7 [.ref a0, .ref a1, .int a2, .int a3, .int a4] (st) M Q = xW xSC 65 8 [.ref a0, .ref a1, .int a2, .int a3, .int a4] (.ref a1 :: st) M Q) ∧
  (∀ (a0 : Nat) (a1 : Nat) (a2 : Int32) (a3 : Int32) (a4 : Int32) (st : List Value) (M : xM) (Q : Option Value → xM → Prop), xW xSC 65 8 [.ref a0, .ref a1, .int a2, .int a3, .int a4] (.ref 9 :: st) M Q = xW xSC 65 11 [.ref a0, .ref a1, .int a2, .int a3, .int a4] (.int (M 9 1) :: st) M Q) ∧
  (∀ (a0 : Nat) (a1 : Nat) (a2 : Int32) (a3 : Int32) (a4 : Int32) (y0 : Int32) (y1 : Int32) (st : List Value) (M : xM) (Q : Option Value → xM → Prop), xW xSC 65 11 [.ref a0, .ref a1, .int a2, .int a3, .int a4] (.int y0 :: .int y1 :: st) M Q = if y1 < y0 then xW xSC 65 14 [.ref a0, .ref a1, .int a2, .int a3, .int a4] (st) M Q else xW xSC 65 38 [.ref a0, .ref a1, .int a2, .int a3, .int a4] (st) M Q) ∧
  (∀ (a0 : Nat) (a1 : Nat) (a2 : Int32) (a3 : Int32) (a4 : Int32) (st : List Value) (M : xM) (Q : Option Value → xM → Prop), xW xSC 65 14 [.ref a0, .ref a1, .int a2, .int a3, .int a4] (st) M Q = xW xSC 65 15 [.ref a0, .ref a1, .int a2, .int a3, .int a4] (.int a3 :: st) M Q) ∧
  (∀ (a0 : Nat) (a1 : Nat) (a2 : Int32) (a3 : Int32) (a4 : Int32) (st : List Value) (M : xM) (Q : Option Value → xM → Prop), xW xSC 65 15 [.ref a0, .ref a1, .int a2, .int a3, .int a4] (st) M Q = xW xSC 65 16 [.ref a0, .ref a1, .int a2, .int a3, .int a4] (.ref a0 :: st) M Q) ∧
  (∀ (a0 : Nat) (a1 : Nat) (a2 : Int32) (a3 : Int32) (a4 : Int32) (st : List Value) (M : xM) (Q : Option Value → xM → Prop), xW xSC 65 16 [.ref a0, .ref a1, .int a2, .int a3, .int a4] (st) M Q = xW xSC 65 17 [.ref a0, .ref a1, .int a2, .int a3, .int a4] (.ref a1 :: st) M Q) ∧
  (∀ (a0 : Nat) (a1 : Nat) (a2 : Int32) (a3 : Int32) (a4 : Int32) (st : List Value) (M : xM) (Q : Option Value → xM → Prop), xW xSC 65 17 [.ref a0, .ref a1, .int a2, .int a3, .int a4] (st) M Q = xW xSC 65 19 [.ref a0, .ref a1, .int a2, .int a3, .int a4] (.int a4 :: st) M Q) ∧
  (∀ (a0 : Nat) (a1 : Nat) (a2 : Int32) (a3 : Int32) (a4 : Int32) (st : List Value) (M : xM) (Q : Option Value → xM → Prop), xW xSC 65 19 [.ref a0, .ref a1, .int a2, .int a3, .int a4] (st) M Q = xW xSC 65 20 [.ref a0, .ref a1, .int a2, .int a3, .int a4] (.ref a1 :: st) M Q) ∧
  (∀ (a0 : Nat) (a1 : Nat) (a2 : Int32) (a3 : Int32) (a4 : Int32) (st : List Value) (M : xM) (Q : Option Value → xM → Prop), xW xSC 65 20 [.ref a0, .ref a1, .int a2, .int a3, .int a4] (st) M Q = xW xSC 65 22 [.ref a0, .ref a1, .int a2, .int a3, .int a4] (.int a4 :: st) M Q) ∧
  (∀ (a0 : Nat) (a1 : Nat) (a2 : Int32) (a3 : Int32) (a4 : Int32) (st : List Value) (M : xM) (Q : Option Value → xM → Prop), xW xSC 65 22 [.ref a0, .ref a1, .int a2, .int a3, .int a4] (st) M Q = xW xSC 65 23 [.ref a0, .ref a1, .int a2, .int a3, .int a4] (.int (nI 2) :: st) M Q) ∧
  (∀ (a0 : Nat) (a1 : Nat) (a2 : Int32) (a3 : Int32) (a4 : Int32) (y0 : Int32) (y1 : Int32) (y3 : Int32) (y4 : Nat) (y5 : Nat) (y6 : Int32) (M : xM) (Q : Option Value → xM → Prop), xW xSC 65 23 [.ref a0, .ref a1, .int a2, .int a3, .int a4] (.int y0 :: .int y1 :: .ref 9 :: .int y3 :: .ref y4 :: .ref y5 :: .int y6 :: []) M Q = xW xSC 28 0 [.ref 9, .int y1, .int y0] [] M (fun v M' => xW xSC 65 26 [.ref a0, .ref a1, .int a2, .int a3, .int a4] (xpush v [.int y3, .ref y4, .ref y5, .int y6]) M' Q)) ∧
  (∀ (a0 : Nat) (a1 : Nat) (a2 : Int32) (a3 : Int32) (a4 : Int32) (st : List Value) (M : xM) (Q : Option Value → xM → Prop), xW xSC 65 26 [.ref a0, .ref a1, .int a2, .int a3, .int a4] (st) M Q = xW xSC 65 27 [.ref a0, .ref a1, .int a2, .int a3, .int a4] (.int a2 :: st) M Q) ∧
  (∀ (a0 : Nat) (a1 : Nat) (a2 : Int32) (a3 : Int32) (a4 : Int32) (y0 : Int32) (y1 : Int32) (y2 : Int32) (y3 : Nat) (y5 : Int32) (M : xM) (Q : Option Value → xM → Prop), xW xSC 65 27 [.ref a0, .ref a1, .int a2, .int a3, .int a4] (.int y0 :: .int y1 :: .int y2 :: .ref y3 :: .ref 39 :: .int y5 :: []) M Q = xW xSC 64 0 [.ref 39, .ref y3, .int y2, .int y1, .int y0, .null, .null, .null, .null] [] M (fun v M' => xW xSC 65 30 [.ref a0, .ref a1, .int a2, .int a3, .int a4] (xpush v [.int y5]) M' Q)) ∧
  (∀ (a0 : Nat) (a1 : Nat) (a2 : Int32) (a3 : Int32) (a4 : Int32) (y0 : Int32) (y1 : Int32) (st : List Value) (M : xM) (Q : Option Value → xM → Prop), xW xSC 65 30 [.ref a0, .ref a1, .int a2, .int a3, .int a4] (.int y0 :: .int y1 :: st) M Q = xW xSC 65 31 [.ref a0, .ref a1, .int a2, .int a3, .int a4] (.int (y1 + y0) :: st) M Q) ∧
  (∀ (a0 : Nat) (a1 : Nat) (a2 : Int32) (a3 : Int32) (a4 : Int32) (y0 : Int32) (st : List Value) (M : xM) (Q : Option Value → xM → Prop), xW xSC 65 31 [.ref a0, .ref a1, .int a2, .int a3, .int a4] (.int y0 :: st) M Q = xW xSC 65 32 [.ref a0, .ref a1, .int a2, .int y0, .int a4] (st) M Q) ∧
  (∀ (a0 : Nat) (a1 : Nat) (a2 : Int32) (a3 : Int32) (a4 : Int32) (st : List Value) (M : xM) (Q : Option Value → xM → Prop), xW xSC 65 32 [.ref a0, .ref a1, .int a2, .int a3, .int a4] (st) M Q = xW xSC 65 35 [.ref a0, .ref a1, .int a2, .int a3, .int (a4 + nI 1)] (st) M Q) ∧
  (∀ (a0 : Nat) (a1 : Nat) (a2 : Int32) (a3 : Int32) (a4 : Int32) (st : List Value) (M : xM) (Q : Option Value → xM → Prop), xW xSC 65 35 [.ref a0, .ref a1, .int a2, .int a3, .int a4] (st) M Q = xW xSC 65 5 [.ref a0, .ref a1, .int a2, .int a3, .int a4] (st) M Q) ∧
  (∀ (a0 : Nat) (a1 : Nat) (a2 : Int32) (a3 : Int32) (a4 : Int32) (st : List Value) (M : xM) (Q : Option Value → xM → Prop), xW xSC 65 38 [.ref a0, .ref a1, .int a2, .int a3, .int a4] (st) M Q = xW xSC 65 39 [.ref a0, .ref a1, .int a2, .int a3, .int a4] (.int a3 :: st) M Q) ∧
  (∀ (a0 : Nat) (a1 : Nat) (a2 : Int32) (a3 : Int32) (a4 : Int32) (y0 : Int32) (M : xM) (Q : Option Value → xM → Prop), xW xSC 65 39 [.ref a0, .ref a1, .int a2, .int a3, .int a4] ([.int y0]) M Q = Q (some (.int y0)) M) :=
  ⟨fun a0 a1 a2 a3 a4 st M Q => xw_s rfl rfl,
  fun a0 a1 a2 a3 a4 y0 st M Q => xw_s rfl rfl,
  fun a0 a1 a2 a3 a4 st M Q => xw_s rfl rfl,
  fun a0 a1 a2 a3 a4 y0 st M Q => xw_s rfl rfl,
  fun a0 a1 a2 a3 a4 st M Q => xw_s rfl rfl,
  fun a0 a1 a2 a3 a4 st M Q => xw_s rfl rfl,
  fun a0 a1 a2 a3 a4 y0 y1 st M Q => xw_brn (c0 := y0 ≤ y1) (c1 := y1 < y0) rfl rfl (xge _ _),
  fun a0 a1 a2 a3 a4 st M Q => xw_s rfl rfl,
  fun a0 a1 a2 a3 a4 st M Q => xw_s rfl rfl,
  fun a0 a1 a2 a3 a4 st M Q => xw_s rfl rfl,
  fun a0 a1 a2 a3 a4 st M Q => xw_s rfl rfl,
  fun a0 a1 a2 a3 a4 st M Q => xw_s rfl rfl,
  fun a0 a1 a2 a3 a4 st M Q => xw_s rfl rfl,
  fun a0 a1 a2 a3 a4 st M Q => xw_s rfl rfl,
  fun a0 a1 a2 a3 a4 y0 y1 y3 y4 y5 y6 M Q => xw_call rfl rfl rfl,
  fun a0 a1 a2 a3 a4 st M Q => xw_s rfl rfl,
  fun a0 a1 a2 a3 a4 y0 y1 y2 y3 y5 M Q => xw_call rfl rfl rfl,
  fun a0 a1 a2 a3 a4 y0 y1 st M Q => xw_s rfl rfl,
  fun a0 a1 a2 a3 a4 y0 st M Q => xw_s rfl rfl,
  fun a0 a1 a2 a3 a4 st M Q => xw_s rfl rfl,
  fun a0 a1 a2 a3 a4 st M Q => xw_s rfl rfl,
  fun a0 a1 a2 a3 a4 st M Q => xw_s rfl rfl,
  fun a0 a1 a2 a3 a4 y0 M Q => xw_ret rfl rfl⟩
set_option maxRecDepth 20000 in
theorem h65_5 :
  (∀ (a0 : Nat) (a1 : Nat) (a2 : Int32) (a3 : Int32) (a4 : Int32) (st : List Value) (M : xM) (Q : Option Value → xM → Prop), xW xSC 65 5 [.ref a0, .ref a1, .int a2, .int a3, .int a4] (st) M Q = xW xSC 65 7 [.ref a0, .ref a1, .int a2, .int a3, .int a4] (.int a4 :: st) M Q) :=
  fun a0 a1 a2 a3 a4 st M Q => xw_s rfl rfl
theorem j65 : True := trivial

set_option maxRecDepth 20000 in
theorem s66 :
  (∀ (a0 : Nat) (a1 : Nat) (a2 : Value) (a3 : Value) (a4 : Value) (a5 : Value) (st : List Value) (M : xM) (Q : Option Value → xM → Prop), xW xSC 66 0 [.ref a0, .ref a1, a2, a3, a4, a5] (st) M Q = xW xSC 66 1 [.ref a0, .ref a1, a2, a3, a4, a5] (.ref a0 :: st) M Q) ∧
  (∀ (a0 : Nat) (a1 : Nat) (a2 : Value) (a3 : Value) (a4 : Value) (a5 : Value) (st : List Value) (M : xM) (Q : Option Value → xM → Prop), xW xSC 66 1 [.ref a0, .ref a1, a2, a3, a4, a5] (st) M Q = xW xSC 66 2 [.ref a0, .ref a1, a2, a3, a4, a5] (.int (nI 0) :: st) M Q) ∧
  (∀ (a0 : Nat) (a1 : Nat) (a2 : Value) (a3 : Value) (a4 : Value) (a5 : Value) (y0 : Int32) (st : List Value) (M : xM) (Q : Option Value → xM → Prop), xW xSC 66 2 [.ref a0, .ref a1, a2, a3, a4, a5] (.int y0 :: .ref 39 :: st) M Q = xW xSC 66 5 [.ref a0, .ref a1, a2, a3, a4, a5] (st) (xup M 39 1 y0) Q) ∧
  (∀ (a0 : Nat) (a1 : Nat) (a2 : Value) (a3 : Value) (a4 : Value) (a5 : Value) (st : List Value) (M : xM) (Q : Option Value → xM → Prop), xW xSC 66 5 [.ref a0, .ref a1, a2, a3, a4, a5] (st) M Q = xW xSC 66 6 [.ref a0, .ref a1, a2, a3, a4, a5] (.ref a0 :: st) M Q) ∧
  (∀ (a0 : Nat) (a1 : Nat) (a2 : Value) (a3 : Value) (a4 : Value) (a5 : Value) (st : List Value) (M : xM) (Q : Option Value → xM → Prop), xW xSC 66 6 [.ref a0, .ref a1, a2, a3, a4, a5] (st) M Q = xW xSC 66 7 [.ref a0, .ref a1, a2, a3, a4, a5] (.int (nI 0) :: st) M Q) ∧
  (∀ (a0 : Nat) (a1 : Nat) (a2 : Value) (a3 : Value) (a4 : Value) (a5 : Value) (y0 : Int32) (st : List Value) (M : xM) (Q : Option Value → xM → Prop), xW xSC 66 7 [.ref a0, .ref a1, a2, a3, a4, a5] (.int y0 :: .ref 39 :: st) M Q = xW xSC 66 10 [.ref a0, .ref a1, a2, a3, a4, a5] (st) (xup M 39 2 y0) Q) ∧
  (∀ (a0 : Nat) (a1 : Nat) (a2 : Value) (a3 : Value) (a4 : Value) (a5 : Value) (st : List Value) (M : xM) (Q : Option Value → xM → Prop), xW xSC 66 10 [.ref a0, .ref a1, a2, a3, a4, a5] (st) M Q = xW xSC 66 11 [.ref a0, .ref a1, a2, a3, a4, a5] (.int (nI 0) :: st) M Q) ∧
  (∀ (a0 : Nat) (a1 : Nat) (a2 : Value) (a3 : Value) (a4 : Value) (a5 : Value) (y0 : Int32) (st : List Value) (M : xM) (Q : Option Value → xM → Prop), xW xSC 66 11 [.ref a0, .ref a1, a2, a3, a4, a5] (.int y0 :: st) M Q = xW xSC 66 12 [.ref a0, .ref a1, .int y0, a3, a4, a5] (st) M Q) ∧
  (∀ (a0 : Nat) (a1 : Nat) (a2 : Int32) (a3 : Value) (a4 : Value) (a5 : Value) (st : List Value) (M : xM) (Q : Option Value → xM → Prop), xW xSC 66 13 [.ref a0, .ref a1, .int a2, a3, a4, a5] (st) M Q = xW xSC 66 14 [.ref a0, .ref a1, .int a2, a3, a4, a5] (.ref a1 :: st) M Q) ∧
  (∀ (a0 : Nat) (a1 : Nat) (a2 : Int32) (a3 : Value) (a4 : Value) (a5 : Value) (st : List Value) (M : xM) (Q : Option Value → xM → Prop), xW xSC 66 14 [.ref a0, .ref a1, .int a2, a3, a4, a5] (.ref 9 :: st) M Q = xW xSC 66 17 [.ref a0, .ref a1, .int a2, a3, a4, a5] (.int (M 9 1) :: st) M Q) ∧
  (∀ (a0 : Nat) (a1 : Nat) (a2 : Int32) (a3 : Value) (a4 : Value) (a5 : Value) (y0 : Int32) (y1 : Int32) (st : List Value) (M : xM) (Q : Option Value → xM → Prop), xW xSC 66 17 [.ref a0, .ref a1, .int a2, a3, a4, a5] (.int y0 :: .int y1 :: st) M Q = if y1 < y0 then xW xSC 66 20 [.ref a0, .ref a1, .int a2, a3, a4, a5] (st) M Q else xW xSC 66 102 [.ref a0, .ref a1, .int a2, a3, a4, a5] (st) M Q) ∧
  (∀ (a0 : Nat) (a1 : Nat) (a2 : Int32) (a3 : Value) (a4 : Value) (a5 : Value) (st : List Value) (M : xM) (Q : Option Value → xM → Prop), xW xSC 66 20 [.ref a0, .ref a1, .int a2, a3, a4, a5] (st) M Q = xW xSC 66 21 [.ref a0, .ref a1, .int a2, a3, a4, a5] (.ref a1 :: st) M Q) ∧
  (∀ (a0 : Nat) (a1 : Nat) (a2 : Int32) (a3 : Value) (a4 : Value) (a5 : Value) (st : List Value) (M : xM) (Q : Option Value → xM → Prop), xW xSC 66 21 [.ref a0, .ref a1, .int a2, a3, a4, a5] (st) M Q = xW xSC 66 22 [.ref a0, .ref a1, .int a2, a3, a4, a5] (.int a2 :: st) M Q) ∧
  (∀ (a0 : Nat) (a1 : Nat) (a2 : Int32) (a3 : Value) (a4 : Value) (a5 : Value) (st : List Value) (M : xM) (Q : Option Value → xM → Prop), xW xSC 66 22 [.ref a0, .ref a1, .int a2, a3, a4, a5] (st) M Q = xW xSC 66 23 [.ref a0, .ref a1, .int a2, a3, a4, a5] (.int (nI 2) :: st) M Q) ∧
  (∀ (a0 : Nat) (a1 : Nat) (a2 : Int32) (a3 : Value) (a4 : Value) (a5 : Value) (y0 : Int32) (y1 : Int32) (M : xM) (Q : Option Value → xM → Prop), xW xSC 66 23 [.ref a0, .ref a1, .int a2, a3, a4, a5] (.int y0 :: .int y1 :: .ref 9 :: []) M Q = xW xSC 28 0 [.ref 9, .int y1, .int y0] [] M (fun v M' => xW xSC 66 26 [.ref a0, .ref a1, .int a2, a3, a4, a5] (xpush v []) M' Q)) ∧
  (∀ (a0 : Nat) (a1 : Nat) (a2 : Int32) (a3 : Value) (a4 : Value) (a5 : Value) (y0 : Int32) (st : List Value) (M : xM) (Q : Option Value → xM → Prop), xW xSC 66 26 [.ref a0, .ref a1, .int a2, a3, a4, a5] (.int y0 :: st) M Q = xW xSC 66 27 [.ref a0, .ref a1, .int a2, .int y0, a4, a5] (st) M Q) ∧
  (∀ (a0 : Nat) (a1 : Nat) (a2 : Int32) (a3 : Int32) (a4 : Value) (a5 : Value) (st : List Value) (M : xM) (Q : Option Value → xM → Prop), xW xSC 66 27 [.ref a0, .ref a1, .int a2, .int a3, a4, a5] (st) M Q = xW xSC 66 28 [.ref a0, .ref a1, .int a2, .int a3, a4, a5] (.ref a0 :: st) M Q) ∧
  (∀ (a0 : Nat) (a1 : Nat) (a2 : Int32) (a3 : Int32) (a4 : Value) (a5 : Value) (st : List Value) (M : xM) (Q : Option Value → xM → Prop), xW xSC 66 28 [.ref a0, .ref a1, .int a2, .int a3, a4, a5] (st) M Q = xW xSC 66 29 [.ref a0, .ref a1, .int a2, .int a3, a4, a5] (.ref a1 :: st) M Q) ∧
  (∀ (a0 : Nat) (a1 : Nat) (a2 : Int32) (a3 : Int32) (a4 : Value) (a5 : Value) (st : List Value) (M : xM) (Q : Option Value → xM → Prop), xW xSC 66 29 [.ref a0, .ref a1, .int a2, .int a3, a4, a5] (st) M Q = xW xSC 66 30 [.ref a0, .ref a1, .int a2, .int a3, a4, a5] (.int a2 :: st) M Q) ∧
  (∀ (a0 : Nat) (a1 : Nat) (a2 : Int32) (a3 : Int32) (a4 : Value) (a5 : Value) (st : List Value) (M : xM) (Q : Option Value → xM → Prop), xW xSC 66 30 [.ref a0, .ref a1, .int a2, .int a3, a4, a5] (st) M Q = xW xSC 66 31 [.ref a0, .ref a1, .int a2, .int a3, a4, a5] (.int a3 :: st) M Q) ∧
  (∀ (a0 : Nat) (a1 : Nat) (a2 : Int32) (a3 : Int32) (a4 : Value) (a5 : Value) (st : List Value) (M : xM) (Q : Option Value → xM → Prop), xW xSC 66 31 [.ref a0, .ref a1, .int a2, .int a3, a4, a5] (st) M Q = xW xSC 66 33 [.ref a0, .ref a1, .int a2, .int a3, a4, a5] (.int (nI 63) :: st) M Q) ∧
  (∀ (a0 : Nat) (a1 : Nat) (a2 : Int32) (a3 : Int32) (a4 : Value) (a5 : Value) (y0 : Int32) (y1 : Int32) (y2 : Int32) (y3 : Nat) (M : xM) (Q : Option Value → xM → Prop), xW xSC 66 33 [.ref a0, .ref a1, .int a2, .int a3, a4, a5] (.int y0 :: .int y1 :: .int y2 :: .ref y3 :: .ref 39 :: []) M Q = xW xSC 64 0 [.ref 39, .ref y3, .int y2, .int y1, .int y0, .null, .null, .null, .null] [] M (fun v M' => xW xSC 66 36 [.ref a0, .ref a1, .int a2, .int a3, a4, a5] (xpush v []) M' Q)) ∧
  (∀ (a0 : Nat) (a1 : Nat) (a2 : Int32) (a3 : Int32) (a4 : Value) (a5 : Value) (y0 : Int32) (st : List Value) (M : xM) (Q : Option Value → xM → Prop), xW xSC 66 36 [.ref a0, .ref a1, .int a2, .int a3, a4, a5] (.int y0 :: st) M Q = xW xSC 66 38 [.ref a0, .ref a1, .int a2, .int a3, .int y0, a5] (st) M Q) ∧
  (∀ (a0 : Nat) (a1 : Nat) (a2 : Int32) (a3 : Int32) (a4 : Int32) (a5 : Value) (st : List Value) (M : xM) (Q : Option Value → xM → Prop), xW xSC 66 38 [.ref a0, .ref a1, .int a2, .int a3, .int a4, a5] (st) M Q = xW xSC 66 39 [.ref a0, .ref a1, .int a2, .int a3, .int a4, a5] (.int a3 :: st) M Q) ∧
  (∀ (a0 : Nat) (a1 : Nat) (a2 : Int32) (a3 : Int32) (a4 : Int32) (a5 : Value) (st : List Value) (M : xM) (Q : Option Value → xM → Prop), xW xSC 66 39 [.ref a0, .ref a1, .int a2, .int a3, .int a4, a5] (st) M Q = xW xSC 66 40 [.ref a0, .ref a1, .int a2, .int a3, .int a4, a5] (.int (nI 2) :: st) M Q) ∧
  (∀ (a0 : Nat) (a1 : Nat) (a2 : Int32) (a3 : Int32) (a4 : Int32) (a5 : Value) (y0 : Int32) (y1 : Int32) (st : List Value) (M : xM) (Q : Option Value → xM → Prop), xW xSC 66 40 [.ref a0, .ref a1, .int a2, .int a3, .int a4, a5] (.int y0 :: .int y1 :: st) M Q = if y1 = y0 then xW xSC 66 43 [.ref a0, .ref a1, .int a2, .int a3, .int a4, a5] (st) M Q else xW xSC 66 48 [.ref a0, .ref a1, .int a2, .int a3, .int a4, a5] (st) M Q) ∧
  (∀ (a0 : Nat) (a1 : Nat) (a2 : Int32) (a3 : Int32) (a4 : Int32) (a5 : Value) (st : List Value) (M : xM) (Q : Option Value → xM → Prop), xW xSC 66 43 [.ref a0, .ref a1, .int a2, .int a3, .int a4, a5] (st) M Q = xW xSC 66 45 [.ref a0, .ref a1, .int a2, .int a3, .int a4, a5] (.int a4 :: st) M Q) ∧
  (∀ (a0 : Nat) (a1 : Nat) (a2 : Int32) (a3 : Int32) (a4 : Int32) (a5 : Value) (st : List Value) (M : xM) (Q : Option Value → xM → Prop), xW xSC 66 45 [.ref a0, .ref a1, .int a2, .int a3, .int a4, a5] (st) M Q = xW xSC 66 59 [.ref a0, .ref a1, .int a2, .int a3, .int a4, a5] (st) M Q) ∧
  (∀ (a0 : Nat) (a1 : Nat) (a2 : Int32) (a3 : Int32) (a4 : Int32) (a5 : Value) (st : List Value) (M : xM) (Q : Option Value → xM → Prop), xW xSC 66 48 [.ref a0, .ref a1, .int a2, .int a3, .int a4, a5] (st) M Q = xW xSC 66 49 [.ref a0, .ref a1, .int a2, .int a3, .int a4, a5] (.ref a0 :: st) M Q) ∧
  (∀ (a0 : Nat) (a1 : Nat) (a2 : Int32) (a3 : Int32) (a4 : Int32) (a5 : Value) (st : List Value) (M : xM) (Q : Option Value → xM → Prop), xW xSC 66 49 [.ref a0, .ref a1, .int a2, .int a3, .int a4, a5] (st) M Q = xW xSC 66 50 [.ref a0, .ref a1, .int a2, .int a3, .int a4, a5] (.ref a1 :: st) M Q) ∧
  (∀ (a0 : Nat) (a1 : Nat) (a2 : Int32) (a3 : Int32) (a4 : Int32) (a5 : Value) (st : List Value) (M : xM) (Q : Option Value → xM → Prop), xW xSC 66 50 [.ref a0, .ref a1, .int a2, .int a3, .int a4, a5] (st) M Q = xW xSC 66 51 [.ref a0, .ref a1, .int a2, .int a3, .int a4, a5] (.int a2 :: st) M Q) ∧
  (∀ (a0 : Nat) (a1 : Nat) (a2 : Int32) (a3 : Int32) (a4 : Int32) (a5 : Value) (st : List Value) (M : xM) (Q : Option Value → xM → Prop), xW xSC 66 51 [.ref a0, .ref a1, .int a2, .int a3, .int a4, a5] (st) M Q = xW xSC 66 52 [.ref a0, .ref a1, .int a2, .int a3, .int a4, a5] (.int (nI 1) :: st) M Q) ∧
  (∀ (a0 : Nat) (a1 : Nat) (a2 : Int32) (a3 : Int32) (a4 : Int32) (a5 : Value) (st : List Value) (M : xM) (Q : Option Value → xM → Prop), xW xSC 66 52 [.ref a0, .ref a1, .int a2, .int a3, .int a4, a5] (st) M Q = xW xSC 66 53 [.ref a0, .ref a1, .int a2, .int a3, .int a4, a5] (.int a3 :: st) M Q) ∧
  (∀ (a0 : Nat) (a1 : Nat) (a2 : Int32) (a3 : Int32) (a4 : Int32) (a5 : Value) (y0 : Int32) (y1 : Int32) (st : List Value) (M : xM) (Q : Option Value → xM → Prop), xW xSC 66 53 [.ref a0, .ref a1, .int a2, .int a3, .int a4, a5] (.int y0 :: .int y1 :: st) M Q = xW xSC 66 54 [.ref a0, .ref a1, .int a2, .int a3, .int a4, a5] (.int (y1 - y0) :: st) M Q) ∧
  (∀ (a0 : Nat) (a1 : Nat) (a2 : Int32) (a3 : Int32) (a4 : Int32) (a5 : Value) (st : List Value) (M : xM) (Q : Option Value → xM → Prop), xW xSC 66 54 [.ref a0, .ref a1, .int a2, .int a3, .int a4, a5] (st) M Q = xW xSC 66 56 [.ref a0, .ref a1, .int a2, .int a3, .int a4, a5] (.int (nI 63) :: st) M Q) ∧
  (∀ (a0 : Nat) (a1 : Nat) (a2 : Int32) (a3 : Int32) (a4 : Int32) (a5 : Value) (y0 : Int32) (y1 : Int32) (y2 : Int32) (y3 : Nat) (M : xM) (Q : Option Value → xM → Prop), xW xSC 66 56 [.ref a0, .ref a1, .int a2, .int a3, .int a4, a5] (.int y0 :: .int y1 :: .int y2 :: .ref y3 :: .ref 39 :: []) M Q = xW xSC 64 0 [.ref 39, .ref y3, .int y2, .int y1, .int y0, .null, .null, .null, .null] [] M (fun v M' => xW xSC 66 59 [.ref a0, .ref a1, .int a2, .int a3, .int a4, a5] (xpush v []) M' Q)) ∧
  (∀ (a0 : Nat) (a1 : Nat) (a2 : Int32) (a3 : Int32) (a4 : Int32) (a5 : Int32) (st : List Value) (M : xM) (Q : Option Value → xM → Prop), xW xSC 66 61 [.ref a0, .ref a1, .int a2, .int a3, .int a4, .int a5] (st) M Q = xW xSC 66 63 [.ref a0, .ref a1, .int a2, .int a3, .int a4, .int a5] (.int a5 :: st) M Q) ∧
  (∀ (a0 : Nat) (a1 : Nat) (a2 : Int32) (a3 : Int32) (a4 : Int32) (a5 : Int32) (st : List Value) (M : xM) (Q : Option Value → xM → Prop), xW xSC 66 63 [.ref a0, .ref a1, .int a2, .int a3, .int a4, .int a5] (st) M Q = xW xSC 66 65 [.ref a0, .ref a1, .int a2, .int a3, .int a4, .int a5] (.int a4 :: st) M Q) ∧
  (∀ (a0 : Nat) (a1 : Nat) (a2 : Int32) (a3 : Int32) (a4 : Int32) (a5 : Int32) (y0 : Int32) (y1 : Int32) (st : List Value) (M : xM) (Q : Option Value → xM → Prop), xW xSC 66 65 [.ref a0, .ref a1, .int a2, .int a3, .int a4, .int a5] (.int y0 :: .int y1 :: st) M Q = if y1 < y0 then xW xSC 66 68 [.ref a0, .ref a1, .int a2, .int a3, .int a4, .int a5] (st) M Q else xW xSC 66 80 [.ref a0, .ref a1, .int a2, .int a3, .int a4, .int a5] (st) M Q) ∧
  (∀ (a0 : Nat) (a1 : Nat) (a2 : Int32) (a3 : Int32) (a4 : Int32) (a5 : Int32) (st : List Value) (M : xM) (Q : Option Value → xM → Prop), xW xSC 66 68 [.ref a0, .ref a1, .int a2, .int a3, .int a4, .int a5] (st) M Q = xW xSC 66 69 [.ref a0, .ref a1, .int a2, .int a3, .int a4, .int a5] (.ref a0 :: st) M Q) ∧
  (∀ (a0 : Nat) (a1 : Nat) (a2 : Int32) (a3 : Int32) (a4 : Int32) (a5 : Int32) (y0 : Nat) (st : List Value) (M : xM) (Q : Option Value → xM → Prop), xW xSC 66 69 [.ref a0, .ref a1, .int a2, .int a3, .int a4, .int a5] (.ref y0 :: st) M Q = xW xSC 66 70 [.ref a0, .ref a1, .int a2, .int a3, .int a4, .int a5] (.ref y0 :: .ref y0 :: st) M Q) ∧
  (∀ (a0 : Nat) (a1 : Nat) (a2 : Int32) (a3 : Int32) (a4 : Int32) (a5 : Int32) (st : List Value) (M : xM) (Q : Option Value → xM → Prop), xW xSC 66 70 [.ref a0, .ref a1, .int a2, .int a3, .int a4, .int a5] (.ref 39 :: st) M Q = xW xSC 66 73 [.ref a0, .ref a1, .int a2, .int a3, .int a4, .int a5] (.int (M 39 1) :: st) M Q) ∧
  (∀ (a0 : Nat) (a1 : Nat) (a2 : Int32) (a3 : Int32) (a4 : Int32) (a5 : Int32) (st : List Value) (M : xM) (Q : Option Value → xM → Prop), xW xSC 66 73 [.ref a0, .ref a1, .int a2, .int a3, .int a4, .int a5] (st) M Q = xW xSC 66 74 [.ref a0, .ref a1, .int a2, .int a3, .int a4, .int a5] (.int (nI 1) :: st) M Q) ∧
  (∀ (a0 : Nat) (a1 : Nat) (a2 : Int32) (a3 : Int32) (a4 : Int32) (a5 : Int32) (st : List Value) (M : xM) (Q : Option Value → xM → Prop), xW xSC 66 74 [.ref a0, .ref a1, .int a2, .int a3, .int a4, .int a5] (st) M Q = xW xSC 66 75 [.ref a0, .ref a1, .int a2, .int a3, .int a4, .int a5] (.int a2 :: st) M Q) ∧
  (∀ (a0 : Nat) (a1 : Nat) (a2 : Int32) (a3 : Int32) (a4 : Int32) (a5 : Int32) (y0 : Int32) (y1 : Int32) (st : List Value) (M : xM) (Q : Option Value → xM → Prop), xW xSC 66 75 [.ref a0, .ref a1, .int a2, .int a3, .int a4, .int a5] (.int y0 :: .int y1 :: st) M Q = xW xSC 66 76 [.ref a0, .ref a1, .int a2, .int a3, .int a4, .int a5] (.int (y1 <<< (y0 &&& nI 31)) :: st) M Q) ∧
  (∀ (a0 : Nat) (a1 : Nat) (a2 : Int32) (a3 : Int32) (a4 : Int32) (a5 : Int32) (y0 : Int32) (y1 : Int32) (st : List Value) (M : xM) (Q : Option Value → xM → Prop), xW xSC 66 76 [.ref a0, .ref a1, .int a2, .int a3, .int a4, .int a5] (.int y0 :: .int y1 :: st) M Q = xW xSC 66 77 [.ref a0, .ref a1, .int a2, .int a3, .int a4, .int a5] (.int (y1 ||| y0) :: st) M Q) ∧
  (∀ (a0 : Nat) (a1 : Nat) (a2 : Int32) (a3 : Int32) (a4 : Int32) (a5 : Int32) (y0 : Int32) (st : List Value) (M : xM) (Q : Option Value → xM → Prop), xW xSC 66 77 [.ref a0, .ref a1, .int a2, .int a3, .int a4, .int a5] (.int y0 :: .ref 39 :: st) M Q = xW xSC 66 80 [.ref a0, .ref a1, .int a2, .int a3, .int a4, .int a5] (st) (xup M 39 1 y0) Q) ∧
  (∀ (a0 : Nat) (a1 : Nat) (a2 : Int32) (a3 : Int32) (a4 : Int32) (a5 : Int32) (y0 : Nat) (st : List Value) (M : xM) (Q : Option Value → xM → Prop), xW xSC 66 81 [.ref a0, .ref a1, .int a2, .int a3, .int a4, .int a5] (.ref y0 :: st) M Q = xW xSC 66 82 [.ref a0, .ref a1, .int a2, .int a3, .int a4, .int a5] (.ref y0 :: .ref y0 :: st) M Q) ∧
  (∀ (a0 : Nat) (a1 : Nat) (a2 : Int32) (a3 : Int32) (a4 : Int32) (a5 : Int32) (st : List Value) (M : xM) (Q : Option Value → xM → Prop), xW xSC 66 82 [.ref a0, .ref a1, .int a2, .int a3, .int a4, .int a5] (.ref 39 :: st) M Q = xW xSC 66 85 [.ref a0, .ref a1, .int a2, .int a3, .int a4, .int a5] (.int (M 39 2) :: st) M Q) ∧
  (∀ (a0 : Nat) (a1 : Nat) (a2 : Int32) (a3 : Int32) (a4 : Int32) (a5 : Int32) (st : List Value) (M : xM) (Q : Option Value → xM → Prop), xW xSC 66 85 [.ref a0, .ref a1, .int a2, .int a3, .int a4, .int a5] (st) M Q = xW xSC 66 87 [.ref a0, .ref a1, .int a2, .int a3, .int a4, .int a5] (.int a4 :: st) M Q) ∧
  (∀ (a0 : Nat) (a1 : Nat) (a2 : Int32) (a3 : Int32) (a4 : Int32) (a5 : Int32) (st : List Value) (M : xM) (Q : Option Value → xM → Prop), xW xSC 66 87 [.ref a0, .ref a1, .int a2, .int a3, .int a4, .int a5] (st) M Q = xW xSC 66 89 [.ref a0, .ref a1, .int a2, .int a3, .int a4, .int a5] (.int a5 :: st) M Q) ∧
  (∀ (a0 : Nat) (a1 : Nat) (a2 : Int32) (a3 : Int32) (a4 : Int32) (a5 : Int32) (y0 : Int32) (y1 : Int32) (y2 : Int32) (y3 : Nat) (M : xM) (Q : Option Value → xM → Prop), xW xSC 66 89 [.ref a0, .ref a1, .int a2, .int a3, .int a4, .int a5] (.int y0 :: .int y1 :: .int y2 :: .ref y3 :: []) M Q = xW xSC 66 92 [.ref a0, .ref a1, .int a2, .int a3, .int a4, .int a5] (.int (xmin y1 y0) :: .int y2 :: .ref y3 :: []) M Q) ∧
  (∀ (a0 : Nat) (a1 : Nat) (a2 : Int32) (a3 : Int32) (a4 : Int32) (a5 : Int32) (y0 : Int32) (y1 : Int32) (st : List Value) (M : xM) (Q : Option Value → xM → Prop), xW xSC 66 92 [.ref a0, .ref a1, .int a2, .int a3, .int a4, .int a5] (.int y0 :: .int y1 :: st) M Q = xW xSC 66 93 [.ref a0, .ref a1, .int a2, .int a3, .int a4, .int a5] (.int (y1 + y0) :: st) M Q) ∧
  (∀ (a0 : Nat) (a1 : Nat) (a2 : Int32) (a3 : Int32) (a4 : Int32) (a5 : Int32) (y0 : Int32) (st : List Value) (M : xM) (Q : Option Value → xM → Prop), xW xSC 66 93 [.ref a0, .ref a1, .int a2, .int a3, .int a4, .int a5] (.int y0 :: .ref 39 :: st) M Q = xW xSC 66 96 [.ref a0, .ref a1, .int a2, .int a3, .int a4, .int a5] (st) (xup M 39 2 y0) Q) ∧
  (∀ (a0 : Nat) (a1 : Nat) (a2 : Int32) (a3 : Int32) (a4 : Int32) (a5 : Int32) (st : List Value) (M : xM) (Q : Option Value → xM → Prop), xW xSC 66 96 [.ref a0, .ref a1, .int a2, .int a3, .int a4, .int a5] (st) M Q = xW xSC 66 99 [.ref a0, .ref a1, .int (a2 + nI 1), .int a3, .int a4, .int a5] (st) M Q) ∧
  (∀ (a0 : Nat) (a1 : Nat) (a2 : Int32) (a3 : Int32) (a4 : Int32) (a5 : Int32) (st : List Value) (M : xM) (Q : Option Value → xM → Prop), xW xSC 66 99 [.ref a0, .ref a1, .int a2, .int a3, .int a4, .int a5] (st) M Q = xW xSC 66 12 [.ref a0, .ref a1, .int a2, .int a3, .int a4, .int a5] (st) M Q) ∧
  (∀ (a0 : Nat) (a1 : Nat) (a2 : Int32) (a3 : Value) (a4 : Value) (a5 : Value) (M : xM) (Q : Option Value → xM → Prop), xW xSC 66 102 [.ref a0, .ref a1, .int a2, a3, a4, a5] ([]) M Q = Q none M) :=
  ⟨fun a0 a1 a2 a3 a4 a5 st M Q => xw_s rfl rfl,
  fun a0 a1 a2 a3 a4 a5 st M Q => xw_s rfl rfl,
  fun a0 a1 a2 a3 a4 a5 y0 st M Q => xw_s rfl rfl,
  fun a0 a1 a2 a3 a4 a5 st M Q => xw_s rfl rfl,
  fun a0 a1 a2 a3 a4 a5 st M Q => xw_s rfl rfl,
  fun a0 a1 a2 a3 a4 a5 y0 st M Q => xw_s rfl rfl,
  fun a0 a1 a2 a3 a4 a5 st M Q => xw_s rfl rfl,
  fun a0 a1 a2 a3 a4 a5 y0 st M Q => xw_s rfl rfl,
  fun a0 a1 a2 a3 a4 a5 st M Q => xw_s rfl rfl,
  fun a0 a1 a2 a3 a4 a5 st M Q => xw_s rfl rfl,
  fun a0 a1 a2 a3 a4 a5 y0 y1 st M Q => xw_brn (c0 := y0 ≤ y1) (c1 := y1 < y0) rfl rfl (xge _ _),
  fun a0 a1 a2 a3 a4 a5 st M Q => xw_s rfl rfl,
  fun a0 a1 a2 a3 a4 a5 st M Q => xw_s rfl rfl,
  fun a0 a1 a2 a3 a4 a5 st M Q => xw_s rfl rfl,
  fun a0 a1 a2 a3 a4 a5 y0 y1 M Q => xw_call rfl rfl rfl,
  fun a0 a1 a2 a3 a4 a5 y0 st M Q => xw_s rfl rfl,
  fun a0 a1 a2 a3 a4 a5 st M Q => xw_s rfl rfl,
  fun a0 a1 a2 a3 a4 a5 st M Q => xw_s rfl rfl,
  fun a0 a1 a2 a3 a4 a5 st M Q => xw_s rfl rfl,
  fun a0 a1 a2 a3 a4 a5 st M Q => xw_s rfl rfl,
  fun a0 a1 a2 a3 a4 a5 st M Q => xw_s rfl rfl,
  fun a0 a1 a2 a3 a4 a5 y0 y1 y2 y3 M Q => xw_call rfl rfl rfl,
  fun a0 a1 a2 a3 a4 a5 y0 st M Q => xw_s rfl rfl,
  fun a0 a1 a2 a3 a4 a5 st M Q => xw_s rfl rfl,
  fun a0 a1 a2 a3 a4 a5 st M Q => xw_s rfl rfl,
  fun a0 a1 a2 a3 a4 a5 y0 y1 st M Q => xw_brn (c0 := y1 ≠ y0) (c1 := y1 = y0) rfl rfl (Iff.rfl),
  fun a0 a1 a2 a3 a4 a5 st M Q => xw_s rfl rfl,
  fun a0 a1 a2 a3 a4 a5 st M Q => xw_s rfl rfl,
  fun a0 a1 a2 a3 a4 a5 st M Q => xw_s rfl rfl,
  fun a0 a1 a2 a3 a4 a5 st M Q => xw_s rfl rfl,
  fun a0 a1 a2 a3 a4 a5 st M Q => xw_s rfl rfl,
  fun a0 a1 a2 a3 a4 a5 st M Q => xw_s rfl rfl,
  fun a0 a1 a2 a3 a4 a5 st M Q => xw_s rfl rfl,
  fun a0 a1 a2 a3 a4 a5 y0 y1 st M Q => xw_s rfl rfl,
  fun a0 a1 a2 a3 a4 a5 st M Q => xw_s rfl rfl,
  fun a0 a1 a2 a3 a4 a5 y0 y1 y2 y3 M Q => xw_call rfl rfl rfl,
  fun a0 a1 a2 a3 a4 a5 st M Q => xw_s rfl rfl,
  fun a0 a1 a2 a3 a4 a5 st M Q => xw_s rfl rfl,
  fun a0 a1 a2 a3 a4 a5 y0 y1 st M Q => xw_brn (c0 := y0 ≤ y1) (c1 := y1 < y0) rfl rfl (xge _ _),
  fun a0 a1 a2 a3 a4 a5 st M Q => xw_s rfl rfl,
  fun a0 a1 a2 a3 a4 a5 y0 st M Q => xw_s rfl rfl,
  fun a0 a1 a2 a3 a4 a5 st M Q => xw_s rfl rfl,
  fun a0 a1 a2 a3 a4 a5 st M Q => xw_s rfl rfl,
  fun a0 a1 a2 a3 a4 a5 st M Q => xw_s rfl rfl,
  fun a0 a1 a2 a3 a4 a5 y0 y1 st M Q => xw_s rfl rfl,
  fun a0 a1 a2 a3 a4 a5 y0 y1 st M Q => xw_s rfl rfl,
  fun a0 a1 a2 a3 a4 a5 y0 st M Q => xw_s rfl rfl,
  fun a0 a1 a2 a3 a4 a5 y0 st M Q => xw_s rfl rfl,
  fun a0 a1 a2 a3 a4 a5 st M Q => xw_s rfl rfl,
  fun a0 a1 a2 a3 a4 a5 st M Q => xw_s rfl rfl,
  fun a0 a1 a2 a3 a4 a5 st M Q => xw_s rfl rfl,
  fun a0 a1 a2 a3 a4 a5 y0 y1 y2 y3 M Q => xw_s rfl rfl,
  fun a0 a1 a2 a3 a4 a5 y0 y1 st M Q => xw_s rfl rfl,
  fun a0 a1 a2 a3 a4 a5 y0 st M Q => xw_s rfl rfl,
  fun a0 a1 a2 a3 a4 a5 st M Q => xw_s rfl rfl,
  fun a0 a1 a2 a3 a4 a5 st M Q => xw_s rfl rfl,
  fun a0 a1 a2 a3 a4 a5 M Q => xw_retv rfl rfl⟩
set_option maxRecDepth 20000 in
theorem h66_12 :
  (∀ (a0 : Nat) (a1 : Nat) (a2 : Int32) (a3 : Value) (a4 : Value) (a5 : Value) (st : List Value) (M : xM) (Q : Option Value → xM → Prop), xW xSC 66 12 [.ref a0, .ref a1, .int a2, a3, a4, a5] (st) M Q = xW xSC 66 13 [.ref a0, .ref a1, .int a2, a3, a4, a5] (.int a2 :: st) M Q) :=
  fun a0 a1 a2 a3 a4 a5 st M Q => xw_s rfl rfl
set_option maxRecDepth 20000 in
theorem h66_59 :
  (∀ (a0 : Nat) (a1 : Nat) (a2 : Int32) (a3 : Int32) (a4 : Int32) (a5 : Value) (y0 : Int32) (st : List Value) (M : xM) (Q : Option Value → xM → Prop), xW xSC 66 59 [.ref a0, .ref a1, .int a2, .int a3, .int a4, a5] (.int y0 :: st) M Q = xW xSC 66 61 [.ref a0, .ref a1, .int a2, .int a3, .int a4, .int y0] (st) M Q) :=
  fun a0 a1 a2 a3 a4 a5 y0 st M Q => xw_s rfl rfl
set_option maxRecDepth 20000 in
theorem h66_80 :
  (∀ (a0 : Nat) (a1 : Nat) (a2 : Int32) (a3 : Int32) (a4 : Int32) (a5 : Int32) (st : List Value) (M : xM) (Q : Option Value → xM → Prop), xW xSC 66 80 [.ref a0, .ref a1, .int a2, .int a3, .int a4, .int a5] (st) M Q = xW xSC 66 81 [.ref a0, .ref a1, .int a2, .int a3, .int a4, .int a5] (.ref a0 :: st) M Q) :=
  fun a0 a1 a2 a3 a4 a5 st M Q => xw_s rfl rfl
set_option maxRecDepth 20000 in
theorem j66 :
  (∀ (a0 : Nat) (a1 : Nat) (a2 : Int32) (a3 : Int32) (a4 : Int32) (a5 : Value) (y0 : Int32) (st : List Value) (M : xM) (Q : Option Value → xM → Prop), xW xSC 66 59 [.ref a0, .ref a1, .int a2, .int a3, .int a4, a5] (.int y0 :: st) M Q = xW xSC 66 61 [.ref a0, .ref a1, .int a2, .int a3, .int a4, .int y0] (st) M Q) ∧
  (∀ (a0 : Nat) (a1 : Nat) (a2 : Int32) (a3 : Int32) (a4 : Int32) (a5 : Int32) (st : List Value) (M : xM) (Q : Option Value → xM → Prop), xW xSC 66 80 [.ref a0, .ref a1, .int a2, .int a3, .int a4, .int a5] (st) M Q = xW xSC 66 81 [.ref a0, .ref a1, .int a2, .int a3, .int a4, .int a5] (.ref a0 :: st) M Q) :=
  ⟨fun a0 a1 a2 a3 a4 a5 y0 st M Q => xw_s rfl rfl,
  fun a0 a1 a2 a3 a4 a5 st M Q => xw_s rfl rfl⟩

set_option maxRecDepth 20000 in
theorem s67 :
  (∀ (a0 : Nat) (a1 : Nat) (a2 : Value) (a3 : Value) (a4 : Value) (a5 : Value) (a6 : Value) (st : List Value) (M : xM) (Q : Option Value → xM → Prop), xW xSC 67 0 [.ref a0, .ref a1, a2, a3, a4, a5, a6] (st) M Q = xW xSC 67 1 [.ref a0, .ref a1, a2, a3, a4, a5, a6] (.ref a0 :: st) M Q) ∧
  (∀ (a0 : Nat) (a1 : Nat) (a2 : Value) (a3 : Value) (a4 : Value) (a5 : Value) (a6 : Value) (st : List Value) (M : xM) (Q : Option Value → xM → Prop), xW xSC 67 1 [.ref a0, .ref a1, a2, a3, a4, a5, a6] (st) M Q = xW xSC 67 2 [.ref a0, .ref a1, a2, a3, a4, a5, a6] (.int (nI 0) :: st) M Q) ∧
  (∀ (a0 : Nat) (a1 : Nat) (a2 : Value) (a3 : Value) (a4 : Value) (a5 : Value) (a6 : Value) (y0 : Int32) (st : List Value) (M : xM) (Q : Option Value → xM → Prop), xW xSC 67 2 [.ref a0, .ref a1, a2, a3, a4, a5, a6] (.int y0 :: .ref 39 :: st) M Q = xW xSC 67 5 [.ref a0, .ref a1, a2, a3, a4, a5, a6] (st) (xup M 39 3 y0) Q) ∧
  (∀ (a0 : Nat) (a1 : Nat) (a2 : Value) (a3 : Value) (a4 : Value) (a5 : Value) (a6 : Value) (st : List Value) (M : xM) (Q : Option Value → xM → Prop), xW xSC 67 5 [.ref a0, .ref a1, a2, a3, a4, a5, a6] (st) M Q = xW xSC 67 6 [.ref a0, .ref a1, a2, a3, a4, a5, a6] (.ref a0 :: st) M Q) ∧
  (∀ (a0 : Nat) (a1 : Nat) (a2 : Value) (a3 : Value) (a4 : Value) (a5 : Value) (a6 : Value) (st : List Value) (M : xM) (Q : Option Value → xM → Prop), xW xSC 67 6 [.ref a0, .ref a1, a2, a3, a4, a5, a6] (st) M Q = xW xSC 67 7 [.ref a0, .ref a1, a2, a3, a4, a5, a6] (.int (nI 0) :: st) M Q) ∧
  (∀ (a0 : Nat) (a1 : Nat) (a2 : Value) (a3 : Value) (a4 : Value) (a5 : Value) (a6 : Value) (y0 : Int32) (st : List Value) (M : xM) (Q : Option Value → xM → Prop), xW xSC 67 7 [.ref a0, .ref a1, a2, a3, a4, a5, a6] (.int y0 :: .ref 39 :: st) M Q = xW xSC 67 10 [.ref a0, .ref a1, a2, a3, a4, a5, a6] (st) (xup M 39 4 y0) Q) ∧
  (∀ (a0 : Nat) (a1 : Nat) (a2 : Value) (a3 : Value) (a4 : Value) (a5 : Value) (a6 : Value) (st : List Value) (M : xM) (Q : Option Value → xM → Prop), xW xSC 67 10 [.ref a0, .ref a1, a2, a3, a4, a5, a6] (st) M Q = xW xSC 67 11 [.ref a0, .ref a1, a2, a3, a4, a5, a6] (.int (nI 0) :: st) M Q) ∧
  (∀ (a0 : Nat) (a1 : Nat) (a2 : Value) (a3 : Value) (a4 : Value) (a5 : Value) (a6 : Value) (y0 : Int32) (st : List Value) (M : xM) (Q : Option Value → xM → Prop), xW xSC 67 11 [.ref a0, .ref a1, a2, a3, a4, a5, a6] (.int y0 :: st) M Q = xW xSC 67 12 [.ref a0, .ref a1, .int y0, a3, a4, a5, a6] (st) M Q) ∧
  (∀ (a0 : Nat) (a1 : Nat) (a2 : Int32) (a3 : Value) (a4 : Value) (a5 : Value) (a6 : Value) (st : List Value) (M : xM) (Q : Option Value → xM → Prop), xW xSC 67 12 [.ref a0, .ref a1, .int a2, a3, a4, a5, a6] (st) M Q = xW xSC 67 13 [.ref a0, .ref a1, .int a2, a3, a4, a5, a6] (.int (nI 0) :: st) M Q) ∧
  (∀ (a0 : Nat) (a1 : Nat) (a2 : Int32) (a3 : Value) (a4 : Value) (a5 : Value) (a6 : Value) (y0 : Int32) (st : List Value) (M : xM) (Q : Option Value → xM → Prop), xW xSC 67 13 [.ref a0, .ref a1, .int a2, a3, a4, a5, a6] (.int y0 :: st) M Q = xW xSC 67 14 [.ref a0, .ref a1, .int a2, .int y0, a4, a5, a6] (st) M Q) ∧
  (∀ (a0 : Nat) (a1 : Nat) (a2 : Int32) (a3 : Int32) (a4 : Value) (a5 : Value) (a6 : Value) (st : List Value) (M : xM) (Q : Option Value → xM → Prop), xW xSC 67 15 [.ref a0, .ref a1, .int a2, .int a3, a4, a5, a6] (st) M Q = xW xSC 67 16 [.ref a0, .ref a1, .int a2, .int a3, a4, a5, a6] (.int (nI 2) :: st) M Q) ∧
  (∀ (a0 : Nat) (a1 : Nat) (a2 : Int32) (a3 : Int32) (a4 : Value) (a5 : Value) (a6 : Value) (st : List Value) (M : xM) (Q : Option Value → xM → Prop), xW xSC 67 16 [.ref a0, .ref a1, .int a2, .int a3, a4, a5, a6] (st) M Q = xW xSC 67 17 [.ref a0, .ref a1, .int a2, .int a3, a4, a5, a6] (.ref a1 :: st) M Q) ∧
  (∀ (a0 : Nat) (a1 : Nat) (a2 : Int32) (a3 : Int32) (a4 : Value) (a5 : Value) (a6 : Value) (st : List Value) (M : xM) (Q : Option Value → xM → Prop), xW xSC 67 17 [.ref a0, .ref a1, .int a2, .int a3, a4, a5, a6] (.ref 9 :: st) M Q = xW xSC 67 20 [.ref a0, .ref a1, .int a2, .int a3, a4, a5, a6] (.int (M 9 1) :: st) M Q) ∧
  (∀ (a0 : Nat) (a1 : Nat) (a2 : Int32) (a3 : Int32) (a4 : Value) (a5 : Value) (a6 : Value) (y0 : Int32) (y1 : Int32) (st : List Value) (M : xM) (Q : Option Value → xM → Prop), xW xSC 67 20 [.ref a0, .ref a1, .int a2, .int a3, a4, a5, a6] (.int y0 :: .int y1 :: st) M Q = xW xSC 67 21 [.ref a0, .ref a1, .int a2, .int a3, a4, a5, a6] (.int (y1 * y0) :: st) M Q) ∧
  (∀ (a0 : Nat) (a1 : Nat) (a2 : Int32) (a3 : Int32) (a4 : Value) (a5 : Value) (a6 : Value) (y0 : Int32) (y1 : Int32) (st : List Value) (M : xM) (Q : Option Value → xM → Prop), xW xSC 67 21 [.ref a0, .ref a1, .int a2, .int a3, a4, a5, a6] (.int y0 :: .int y1 :: st) M Q = if y1 < y0 then xW xSC 67 24 [.ref a0, .ref a1, .int a2, .int a3, a4, a5, a6] (st) M Q else xW xSC 67 102 [.ref a0, .ref a1, .int a2, .int a3, a4, a5, a6] (st) M Q) ∧
  (∀ (a0 : Nat) (a1 : Nat) (a2 : Int32) (a3 : Int32) (a4 : Value) (a5 : Value) (a6 : Value) (st : List Value) (M : xM) (Q : Option Value → xM → Prop), xW xSC 67 24 [.ref a0, .ref a1, .int a2, .int a3, a4, a5, a6] (st) M Q = xW xSC 67 25 [.ref a0, .ref a1, .int a2, .int a3, a4, a5, a6] (.int a3 :: st) M Q) ∧
  (∀ (a0 : Nat) (a1 : Nat) (a2 : Int32) (a3 : Int32) (a4 : Value) (a5 : Value) (a6 : Value) (st : List Value) (M : xM) (Q : Option Value → xM → Prop), xW xSC 67 25 [.ref a0, .ref a1, .int a2, .int a3, a4, a5, a6] (st) M Q = xW xSC 67 26 [.ref a0, .ref a1, .int a2, .int a3, a4, a5, a6] (.int (nI 1) :: st) M Q) ∧
  (∀ (a0 : Nat) (a1 : Nat) (a2 : Int32) (a3 : Int32) (a4 : Value) (a5 : Value) (a6 : Value) (y0 : Int32) (y1 : Int32) (st : List Value) (M : xM) (Q : Option Value → xM → Prop), xW xSC 67 26 [.ref a0, .ref a1, .int a2, .int a3, a4, a5, a6] (.int y0 :: .int y1 :: st) M Q = xW xSC 67 27 [.ref a0, .ref a1, .int a2, .int a3, a4, a5, a6] (.int (y1 >>> (y0 &&& nI 31)) :: st) M Q) ∧
  (∀ (a0 : Nat) (a1 : Nat) (a2 : Int32) (a3 : Int32) (a4 : Value) (a5 : Value) (a6 : Value) (y0 : Int32) (st : List Value) (M : xM) (Q : Option Value → xM → Prop), xW xSC 67 27 [.ref a0, .ref a1, .int a2, .int a3, a4, a5, a6] (.int y0 :: st) M Q = xW xSC 67 29 [.ref a0, .ref a1, .int a2, .int a3, .int y0, a5, a6] (st) M Q) ∧
  (∀ (a0 : Nat) (a1 : Nat) (a2 : Int32) (a3 : Int32) (a4 : Int32) (a5 : Value) (a6 : Value) (st : List Value) (M : xM) (Q : Option Value → xM → Prop), xW xSC 67 29 [.ref a0, .ref a1, .int a2, .int a3, .int a4, a5, a6] (st) M Q = xW xSC 67 30 [.ref a0, .ref a1, .int a2, .int a3, .int a4, a5, a6] (.int a3 :: st) M Q) ∧
  (∀ (a0 : Nat) (a1 : Nat) (a2 : Int32) (a3 : Int32) (a4 : Int32) (a5 : Value) (a6 : Value) (st : List Value) (M : xM) (Q : Option Value → xM → Prop), xW xSC 67 30 [.ref a0, .ref a1, .int a2, .int a3, .int a4, a5, a6] (st) M Q = xW xSC 67 31 [.ref a0, .ref a1, .int a2, .int a3, .int a4, a5, a6] (.int (nI 1) :: st) M Q) ∧
  (∀ (a0 : Nat) (a1 : Nat) (a2 : Int32) (a3 : Int32) (a4 : Int32) (a5 : Value) (a6 : Value) (y0 : Int32) (y1 : Int32) (st : List Value) (M : xM) (Q : Option Value → xM → Prop), xW xSC 67 31 [.ref a0, .ref a1, .int a2, .int a3, .int a4, a5, a6] (.int y0 :: .int y1 :: st) M Q = xW xSC 67 32 [.ref a0, .ref a1, .int a2, .int a3, .int a4, a5, a6] (.int (y1 &&& y0) :: st) M Q) ∧
  (∀ (a0 : Nat) (a1 : Nat) (a2 : Int32) (a3 : Int32) (a4 : Int32) (a5 : Value) (a6 : Value) (y0 : Int32) (st : List Value) (M : xM) (Q : Option Value → xM → Prop), xW xSC 67 32 [.ref a0, .ref a1, .int a2, .int a3, .int a4, a5, a6] (.int y0 :: st) M Q = xW xSC 67 34 [.ref a0, .ref a1, .int a2, .int a3, .int a4, .int y0, a6] (st) M Q) ∧
  (∀ (a0 : Nat) (a1 : Nat) (a2 : Int32) (a3 : Int32) (a4 : Int32) (a5 : Int32) (a6 : Value) (st : List Value) (M : xM) (Q : Option Value → xM → Prop), xW xSC 67 34 [.ref a0, .ref a1, .int a2, .int a3, .int a4, .int a5, a6] (st) M Q = xW xSC 67 35 [.ref a0, .ref a1, .int a2, .int a3, .int a4, .int a5, a6] (.ref a0 :: st) M Q) ∧
  (∀ (a0 : Nat) (a1 : Nat) (a2 : Int32) (a3 : Int32) (a4 : Int32) (a5 : Int32) (a6 : Value) (st : List Value) (M : xM) (Q : Option Value → xM → Prop), xW xSC 67 35 [.ref a0, .ref a1, .int a2, .int a3, .int a4, .int a5, a6] (.ref 39 :: st) M Q = xW xSC 67 38 [.ref a0, .ref a1, .int a2, .int a3, .int a4, .int a5, a6] (.ref 40 :: st) M Q) ∧
  (∀ (a0 : Nat) (a1 : Nat) (a2 : Int32) (a3 : Int32) (a4 : Int32) (a5 : Int32) (a6 : Value) (st : List Value) (M : xM) (Q : Option Value → xM → Prop), xW xSC 67 38 [.ref a0, .ref a1, .int a2, .int a3, .int a4, .int a5, a6] (st) M Q = xW xSC 67 39 [.ref a0, .ref a1, .int a2, .int a3, .int a4, .int a5, a6] (.ref a1 :: st) M Q) ∧
  (∀ (a0 : Nat) (a1 : Nat) (a2 : Int32) (a3 : Int32) (a4 : Int32) (a5 : Int32) (a6 : Value) (st : List Value) (M : xM) (Q : Option Value → xM → Prop), xW xSC 67 39 [.ref a0, .ref a1, .int a2, .int a3, .int a4, .int a5, a6] (st) M Q = xW xSC 67 41 [.ref a0, .ref a1, .int a2, .int a3, .int a4, .int a5, a6] (.int a4 :: st) M Q) ∧
  (∀ (a0 : Nat) (a1 : Nat) (a2 : Int32) (a3 : Int32) (a4 : Int32) (a5 : Int32) (a6 : Value) (st : List Value) (M : xM) (Q : Option Value → xM → Prop), xW xSC 67 41 [.ref a0, .ref a1, .int a2, .int a3, .int a4, .int a5, a6] (st) M Q = xW xSC 67 43 [.ref a0, .ref a1, .int a2, .int a3, .int a4, .int a5, a6] (.int a5 :: st) M Q) ∧
  (∀ (a0 : Nat) (a1 : Nat) (a2 : Int32) (a3 : Int32) (a4 : Int32) (a5 : Int32) (a6 : Value) (y0 : Int32) (y1 : Int32) (y2 : Nat) (M : xM) (Q : Option Value → xM → Prop), xW xSC 67 43 [.ref a0, .ref a1, .int a2, .int a3, .int a4, .int a5, a6] (.int y0 :: .int y1 :: .ref y2 :: .ref 40 :: []) M Q = xW xSC 44 0 [.ref 40, .ref y2, .int y1, .int y0] [] M (fun v M' => xW xSC 67 46 [.ref a0, .ref a1, .int a2, .int a3, .int a4, .int a5, a6] (xpush v []) M' Q)) ∧
  (∀ (a0 : Nat) (a1 : Nat) (a2 : Int32) (a3 : Int32) (a4 : Int32) (a5 : Int32) (a6 : Value) (st : List Value) (M : xM) (Q : Option Value → xM → Prop), xW xSC 67 46 [.ref a0, .ref a1, .int a2, .int a3, .int a4, .int a5, a6] (st) M Q = xW xSC 67 47 [.ref a0, .ref a1, .int a2, .int a3, .int a4, .int a5, a6] (.ref a0 :: st) M Q) ∧
  (∀ (a0 : Nat) (a1 : Nat) (a2 : Int32) (a3 : Int32) (a4 : Int32) (a5 : Int32) (a6 : Value) (st : List Value) (M : xM) (Q : Option Value → xM → Prop), xW xSC 67 47 [.ref a0, .ref a1, .int a2, .int a3, .int a4, .int a5, a6] (.ref 39 :: st) M Q = xW xSC 67 50 [.ref a0, .ref a1, .int a2, .int a3, .int a4, .int a5, a6] (.ref 40 :: st) M Q) ∧
  (∀ (a0 : Nat) (a1 : Nat) (a2 : Int32) (a3 : Int32) (a4 : Int32) (a5 : Int32) (a6 : Value) (st : List Value) (M : xM) (Q : Option Value → xM → Prop), xW xSC 67 50 [.ref a0, .ref a1, .int a2, .int a3, .int a4, .int a5, a6] (.ref 40 :: st) M Q = xW xSC 67 53 [.ref a0, .ref a1, .int a2, .int a3, .int a4, .int a5, a6] (.int (M 40 0) :: st) M Q) ∧
  (∀ (a0 : Nat) (a1 : Nat) (a2 : Int32) (a3 : Int32) (a4 : Int32) (a5 : Int32) (a6 : Value) (st : List Value) (M : xM) (Q : Option Value → xM → Prop), xW xSC 67 53 [.ref a0, .ref a1, .int a2, .int a3, .int a4, .int a5, a6] (st) M Q = xW xSC 67 54 [.ref a0, .ref a1, .int a2, .int a3, .int a4, .int a5, a6] (.ref a0 :: st) M Q) ∧
  (∀ (a0 : Nat) (a1 : Nat) (a2 : Int32) (a3 : Int32) (a4 : Int32) (a5 : Int32) (a6 : Value) (st : List Value) (M : xM) (Q : Option Value → xM → Prop), xW xSC 67 54 [.ref a0, .ref a1, .int a2, .int a3, .int a4, .int a5, a6] (.ref 39 :: st) M Q = xW xSC 67 57 [.ref a0, .ref a1, .int a2, .int a3, .int a4, .int a5, a6] (.ref 40 :: st) M Q) ∧
  (∀ (a0 : Nat) (a1 : Nat) (a2 : Int32) (a3 : Int32) (a4 : Int32) (a5 : Int32) (a6 : Value) (st : List Value) (M : xM) (Q : Option Value → xM → Prop), xW xSC 67 57 [.ref a0, .ref a1, .int a2, .int a3, .int a4, .int a5, a6] (.ref 40 :: st) M Q = xW xSC 67 60 [.ref a0, .ref a1, .int a2, .int a3, .int a4, .int a5, a6] (.int (M 40 1) :: st) M Q) ∧
  (∀ (a0 : Nat) (a1 : Nat) (a2 : Int32) (a3 : Int32) (a4 : Int32) (a5 : Int32) (a6 : Value) (y0 : Int32) (y1 : Int32) (M : xM) (Q : Option Value → xM → Prop), xW xSC 67 60 [.ref a0, .ref a1, .int a2, .int a3, .int a4, .int a5, a6] (.int y0 :: .int y1 :: []) M Q = xW xSC 67 63 [.ref a0, .ref a1, .int a2, .int a3, .int a4, .int a5, a6] (.int (xmin y1 y0) :: []) M Q) ∧
  (∀ (a0 : Nat) (a1 : Nat) (a2 : Int32) (a3 : Int32) (a4 : Int32) (a5 : Int32) (a6 : Value) (st : List Value) (M : xM) (Q : Option Value → xM → Prop), xW xSC 67 63 [.ref a0, .ref a1, .int a2, .int a3, .int a4, .int a5, a6] (st) M Q = xW xSC 67 64 [.ref a0, .ref a1, .int a2, .int a3, .int a4, .int a5, a6] (.int (nI 1) :: st) M Q) ∧
  (∀ (a0 : Nat) (a1 : Nat) (a2 : Int32) (a3 : Int32) (a4 : Int32) (a5 : Int32) (a6 : Value) (y0 : Int32) (y1 : Int32) (st : List Value) (M : xM) (Q : Option Value → xM → Prop), xW xSC 67 64 [.ref a0, .ref a1, .int a2, .int a3, .int a4, .int a5, a6] (.int y0 :: .int y1 :: st) M Q = xW xSC 67 65 [.ref a0, .ref a1, .int a2, .int a3, .int a4, .int a5, a6] (.int (y1 - y0) :: st) M Q) ∧
  (∀ (a0 : Nat) (a1 : Nat) (a2 : Int32) (a3 : Int32) (a4 : Int32) (a5 : Int32) (a6 : Value) (y0 : Int32) (st : List Value) (M : xM) (Q : Option Value → xM → Prop), xW xSC 67 65 [.ref a0, .ref a1, .int a2, .int a3, .int a4, .int a5, a6] (.int y0 :: st) M Q = xW xSC 67 67 [.ref a0, .ref a1, .int a2, .int a3, .int a4, .int a5, .int y0] (st) M Q) ∧
  (∀ (a0 : Nat) (a1 : Nat) (a2 : Int32) (a3 : Int32) (a4 : Int32) (a5 : Int32) (a6 : Int32) (st : List Value) (M : xM) (Q : Option Value → xM → Prop), xW xSC 67 67 [.ref a0, .ref a1, .int a2, .int a3, .int a4, .int a5, .int a6] (st) M Q = xW xSC 67 69 [.ref a0, .ref a1, .int a2, .int a3, .int a4, .int a5, .int a6] (.int a6 :: st) M Q) ∧
  (∀ (a0 : Nat) (a1 : Nat) (a2 : Int32) (a3 : Int32) (a4 : Int32) (a5 : Int32) (a6 : Int32) (y0 : Int32) (st : List Value) (M : xM) (Q : Option Value → xM → Prop), xW xSC 67 69 [.ref a0, .ref a1, .int a2, .int a3, .int a4, .int a5, .int a6] (.int y0 :: st) M Q = if nI 0 < y0 then xW xSC 67 72 [.ref a0, .ref a1, .int a2, .int a3, .int a4, .int a5, .int a6] (st) M Q else xW xSC 67 82 [.ref a0, .ref a1, .int a2, .int a3, .int a4, .int a5, .int a6] (st) M Q) ∧
  (∀ (a0 : Nat) (a1 : Nat) (a2 : Int32) (a3 : Int32) (a4 : Int32) (a5 : Int32) (a6 : Int32) (st : List Value) (M : xM) (Q : Option Value → xM → Prop), xW xSC 67 72 [.ref a0, .ref a1, .int a2, .int a3, .int a4, .int a5, .int a6] (st) M Q = xW xSC 67 73 [.ref a0, .ref a1, .int a2, .int a3, .int a4, .int a5, .int a6] (.ref a0 :: st) M Q) ∧
  (∀ (a0 : Nat) (a1 : Nat) (a2 : Int32) (a3 : Int32) (a4 : Int32) (a5 : Int32) (a6 : Int32) (y0 : Nat) (st : List Value) (M : xM) (Q : Option Value → xM → Prop), xW xSC 67 73 [.ref a0, .ref a1, .int a2, .int a3, .int a4, .int a5, .int a6] (.ref y0 :: st) M Q = xW xSC 67 74 [.ref a0, .ref a1, .int a2, .int a3, .int a4, .int a5, .int a6] (.ref y0 :: .ref y0 :: st) M Q) ∧
  (∀ (a0 : Nat) (a1 : Nat) (a2 : Int32) (a3 : Int32) (a4 : Int32) (a5 : Int32) (a6 : Int32) (st : List Value) (M : xM) (Q : Option Value → xM → Prop), xW xSC 67 74 [.ref a0, .ref a1, .int a2, .int a3, .int a4, .int a5, .int a6] (.ref 39 :: st) M Q = xW xSC 67 77 [.ref a0, .ref a1, .int a2, .int a3, .int a4, .int a5, .int a6] (.int (M 39 3) :: st) M Q) ∧
  (∀ (a0 : Nat) (a1 : Nat) (a2 : Int32) (a3 : Int32) (a4 : Int32) (a5 : Int32) (a6 : Int32) (st : List Value) (M : xM) (Q : Option Value → xM → Prop), xW xSC 67 77 [.ref a0, .ref a1, .int a2, .int a3, .int a4, .int a5, .int a6] (st) M Q = xW xSC 67 78 [.ref a0, .ref a1, .int a2, .int a3, .int a4, .int a5, .int a6] (.int (nI 1) :: st) M Q) ∧
  (∀ (a0 : Nat) (a1 : Nat) (a2 : Int32) (a3 : Int32) (a4 : Int32) (a5 : Int32) (a6 : Int32) (y0 : Int32) (y1 : Int32) (st : List Value) (M : xM) (Q : Option Value → xM → Prop), xW xSC 67 78 [.ref a0, .ref a1, .int a2, .int a3, .int a4, .int a5, .int a6] (.int y0 :: .int y1 :: st) M Q = xW xSC 67 79 [.ref a0, .ref a1, .int a2, .int a3, .int a4, .int a5, .int a6] (.int (y1 + y0) :: st) M Q) ∧
  (∀ (a0 : Nat) (a1 : Nat) (a2 : Int32) (a3 : Int32) (a4 : Int32) (a5 : Int32) (a6 : Int32) (y0 : Int32) (st : List Value) (M : xM) (Q : Option Value → xM → Prop), xW xSC 67 79 [.ref a0, .ref a1, .int a2, .int a3, .int a4, .int a5, .int a6] (.int y0 :: .ref 39 :: st) M Q = xW xSC 67 82 [.ref a0, .ref a1, .int a2, .int a3, .int a4, .int a5, .int a6] (st) (xup M 39 3 y0) Q) ∧
  (∀ (a0 : Nat) (a1 : Nat) (a2 : Int32) (a3 : Int32) (a4 : Int32) (a5 : Int32) (a6 : Int32) (st : List Value) (M : xM) (Q : Option Value → xM → Prop), xW xSC 67 84 [.ref a0, .ref a1, .int a2, .int a3, .int a4, .int a5, .int a6] (st) M Q = xW xSC 67 85 [.ref a0, .ref a1, .int a2, .int a3, .int a4, .int a5, .int a6] (.int a2 :: st) M Q) ∧
  (∀ (a0 : Nat) (a1 : Nat) (a2 : Int32) (a3 : Int32) (a4 : Int32) (a5 : Int32) (a6 : Int32) (y0 : Int32) (y1 : Int32) (st : List Value) (M : xM) (Q : Option Value → xM → Prop), xW xSC 67 85 [.ref a0, .ref a1, .int a2, .int a3, .int a4, .int a5, .int a6] (.int y0 :: .int y1 :: st) M Q = if y0 < y1 then xW xSC 67 88 [.ref a0, .ref a1, .int a2, .int a3, .int a4, .int a5, .int a6] (st) M Q else xW xSC 67 96 [.ref a0, .ref a1, .int a2, .int a3, .int a4, .int a5, .int a6] (st) M Q) ∧
  (∀ (a0 : Nat) (a1 : Nat) (a2 : Int32) (a3 : Int32) (a4 : Int32) (a5 : Int32) (a6 : Int32) (st : List Value) (M : xM) (Q : Option Value → xM → Prop), xW xSC 67 88 [.ref a0, .ref a1, .int a2, .int a3, .int a4, .int a5, .int a6] (st) M Q = xW xSC 67 90 [.ref a0, .ref a1, .int a2, .int a3, .int a4, .int a5, .int a6] (.int a6 :: st) M Q) ∧
  (∀ (a0 : Nat) (a1 : Nat) (a2 : Int32) (a3 : Int32) (a4 : Int32) (a5 : Int32) (a6 : Int32) (y0 : Int32) (st : List Value) (M : xM) (Q : Option Value → xM → Prop), xW xSC 67 90 [.ref a0, .ref a1, .int a2, .int a3, .int a4, .int a5, .int a6] (.int y0 :: st) M Q = xW xSC 67 91 [.ref a0, .ref a1, .int y0, .int a3, .int a4, .int a5, .int a6] (st) M Q) ∧
  (∀ (a0 : Nat) (a1 : Nat) (a2 : Int32) (a3 : Int32) (a4 : Int32) (a5 : Int32) (a6 : Int32) (st : List Value) (M : xM) (Q : Option Value → xM → Prop), xW xSC 67 91 [.ref a0, .ref a1, .int a2, .int a3, .int a4, .int a5, .int a6] (st) M Q = xW xSC 67 92 [.ref a0, .ref a1, .int a2, .int a3, .int a4, .int a5, .int a6] (.ref a0 :: st) M Q) ∧
  (∀ (a0 : Nat) (a1 : Nat) (a2 : Int32) (a3 : Int32) (a4 : Int32) (a5 : Int32) (a6 : Int32) (st : List Value) (M : xM) (Q : Option Value → xM → Prop), xW xSC 67 92 [.ref a0, .ref a1, .int a2, .int a3, .int a4, .int a5, .int a6] (st) M Q = xW xSC 67 93 [.ref a0, .ref a1, .int a2, .int a3, .int a4, .int a5, .int a6] (.int a3 :: st) M Q) ∧
  (∀ (a0 : Nat) (a1 : Nat) (a2 : Int32) (a3 : Int32) (a4 : Int32) (a5 : Int32) (a6 : Int32) (y0 : Int32) (st : List Value) (M : xM) (Q : Option Value → xM → Prop), xW xSC 67 93 [.ref a0, .ref a1, .int a2, .int a3, .int a4, .int a5, .int a6] (.int y0 :: .ref 39 :: st) M Q = xW xSC 67 96 [.ref a0, .ref a1, .int a2, .int a3, .int a4, .int a5, .int a6] (st) (xup M 39 4 y0) Q) ∧
  (∀ (a0 : Nat) (a1 : Nat) (a2 : Int32) (a3 : Int32) (a4 : Int32) (a5 : Int32) (a6 : Int32) (st : List Value) (M : xM) (Q : Option Value → xM → Prop), xW xSC 67 99 [.ref a0, .ref a1, .int a2, .int a3, .int a4, .int a5, .int a6] (st) M Q = xW xSC 67 14 [.ref a0, .ref a1, .int a2, .int a3, .int a4, .int a5, .int a6] (st) M Q) ∧
  (∀ (a0 : Nat) (a1 : Nat) (a2 : Int32) (a3 : Int32) (a4 : Value) (a5 : Value) (a6 : Value) (M : xM) (Q : Option Value → xM → Prop), xW xSC 67 102 [.ref a0, .ref a1, .int a2, .int a3, a4, a5, a6] ([]) M Q = Q none M) :=
  ⟨fun a0 a1 a2 a3 a4 a5 a6 st M Q => xw_s rfl rfl,
  fun a0 a1 a2 a3 a4 a5 a6 st M Q => xw_s rfl rfl,
  fun a0 a1 a2 a3 a4 a5 a6 y0 st M Q => xw_s rfl rfl,
  fun a0 a1 a2 a3 a4 a5 a6 st M Q => xw_s rfl rfl,
  fun a0 a1 a2 a3 a4 a5 a6 st M Q => xw_s rfl rfl,
  fun a0 a1 a2 a3 a4 a5 a6 y0 st M Q => xw_s rfl rfl,
  fun a0 a1 a2 a3 a4 a5 a6 st M Q => xw_s rfl rfl,
  fun a0 a1 a2 a3 a4 a5 a6 y0 st M Q => xw_s rfl rfl,
  fun a0 a1 a2 a3 a4 a5 a6 st M Q => xw_s rfl rfl,
  fun a0 a1 a2 a3 a4 a5 a6 y0 st M Q => xw_s rfl rfl,
  fun a0 a1 a2 a3 a4 a5 a6 st M Q => xw_s rfl rfl,
  fun a0 a1 a2 a3 a4 a5 a6 st M Q => xw_s rfl rfl,
  fun a0 a1 a2 a3 a4 a5 a6 st M Q => xw_s rfl rfl,
  fun a0 a1 a2 a3 a4 a5 a6 y0 y1 st M Q => xw_s rfl rfl,
  fun a0 a1 a2 a3 a4 a5 a6 y0 y1 st M Q => xw_brn (c0 := y0 ≤ y1) (c1 := y1 < y0) rfl rfl (xge _ _),
  fun a0 a1 a2 a3 a4 a5 a6 st M Q => xw_s rfl rfl,
  fun a0 a1 a2 a3 a4 a5 a6 st M Q => xw_s rfl rfl,
  fun a0 a1 a2 a3 a4 a5 a6 y0 y1 st M Q => xw_s rfl rfl,
  fun a0 a1 a2 a3 a4 a5 a6 y0 st M Q => xw_s rfl rfl,
  fun a0 a1 a2 a3 a4 a5 a6 st M Q => xw_s rfl rfl,
  fun a0 a1 a2 a3 a4 a5 a6 st M Q => xw_s rfl rfl,
  fun a0 a1 a2 a3 a4 a5 a6 y0 y1 st M Q => xw_s rfl rfl,
  fun a0 a1 a2 a3 a4 a5 a6 y0 st M Q => xw_s rfl rfl,
  fun a0 a1 a2 a3 a4 a5 a6 st M Q => xw_s rfl rfl,
  fun a0 a1 a2 a3 a4 a5 a6 st M Q => xw_s rfl rfl,
  fun a0 a1 a2 a3 a4 a5 a6 st M Q => xw_s rfl rfl,
  fun a0 a1 a2 a3 a4 a5 a6 st M Q => xw_s rfl rfl,
  fun a0 a1 a2 a3 a4 a5 a6 st M Q => xw_s rfl rfl,
  fun a0 a1 a2 a3 a4 a5 a6 y0 y1 y2 M Q => xw_call rfl rfl rfl,
  fun a0 a1 a2 a3 a4 a5 a6 st M Q => xw_s rfl rfl,
  fun a0 a1 a2 a3 a4 a5 a6 st M Q => xw_s rfl rfl,
  fun a0 a1 a2 a3 a4 a5 a6 st M Q => xw_s rfl rfl,
  fun a0 a1 a2 a3 a4 a5 a6 st M Q => xw_s rfl rfl,
  fun a0 a1 a2 a3 a4 a5 a6 st M Q => xw_s rfl rfl,
  fun a0 a1 a2 a3 a4 a5 a6 st M Q => xw_s rfl rfl,
  fun a0 a1 a2 a3 a4 a5 a6 y0 y1 M Q => xw_s rfl rfl,
  fun a0 a1 a2 a3 a4 a5 a6 st M Q => xw_s rfl rfl,
  fun a0 a1 a2 a3 a4 a5 a6 y0 y1 st M Q => xw_s rfl rfl,
  fun a0 a1 a2 a3 a4 a5 a6 y0 st M Q => xw_s rfl rfl,
  fun a0 a1 a2 a3 a4 a5 a6 st M Q => xw_s rfl rfl,
  fun a0 a1 a2 a3 a4 a5 a6 y0 st M Q => xw_brn (c0 := y0 ≤ nI 0) (c1 := nI 0 < y0) rfl rfl (xge _ _),
  fun a0 a1 a2 a3 a4 a5 a6 st M Q => xw_s rfl rfl,
  fun a0 a1 a2 a3 a4 a5 a6 y0 st M Q => xw_s rfl rfl,
  fun a0 a1 a2 a3 a4 a5 a6 st M Q => xw_s rfl rfl,
  fun a0 a1 a2 a3 a4 a5 a6 st M Q => xw_s rfl rfl,
  fun a0 a1 a2 a3 a4 a5 a6 y0 y1 st M Q => xw_s rfl rfl,
  fun a0 a1 a2 a3 a4 a5 a6 y0 st M Q => xw_s rfl rfl,
  fun a0 a1 a2 a3 a4 a5 a6 st M Q => xw_s rfl rfl,
  fun a0 a1 a2 a3 a4 a5 a6 y0 y1 st M Q => xw_brn (c0 := y1 ≤ y0) (c1 := y0 < y1) rfl rfl (xge _ _),
  fun a0 a1 a2 a3 a4 a5 a6 st M Q => xw_s rfl rfl,
  fun a0 a1 a2 a3 a4 a5 a6 y0 st M Q => xw_s rfl rfl,
  fun a0 a1 a2 a3 a4 a5 a6 st M Q => xw_s rfl rfl,
  fun a0 a1 a2 a3 a4 a5 a6 st M Q => xw_s rfl rfl,
  fun a0 a1 a2 a3 a4 a5 a6 y0 st M Q => xw_s rfl rfl,
  fun a0 a1 a2 a3 a4 a5 a6 st M Q => xw_s rfl rfl,
  fun a0 a1 a2 a3 a4 a5 a6 M Q => xw_retv rfl rfl⟩
set_option maxRecDepth 20000 in
theorem h67_14 :
  (∀ (a0 : Nat) (a1 : Nat) (a2 : Int32) (a3 : Int32) (a4 : Value) (a5 : Value) (a6 : Value) (st : List Value) (M : xM) (Q : Option Value → xM → Prop), xW xSC 67 14 [.ref a0, .ref a1, .int a2, .int a3, a4, a5, a6] (st) M Q = xW xSC 67 15 [.ref a0, .ref a1, .int a2, .int a3, a4, a5, a6] (.int a3 :: st) M Q) :=
  fun a0 a1 a2 a3 a4 a5 a6 st M Q => xw_s rfl rfl
set_option maxRecDepth 20000 in
theorem h67_82 :
  (∀ (a0 : Nat) (a1 : Nat) (a2 : Int32) (a3 : Int32) (a4 : Int32) (a5 : Int32) (a6 : Int32) (st : List Value) (M : xM) (Q : Option Value → xM → Prop), xW xSC 67 82 [.ref a0, .ref a1, .int a2, .int a3, .int a4, .int a5, .int a6] (st) M Q = xW xSC 67 84 [.ref a0, .ref a1, .int a2, .int a3, .int a4, .int a5, .int a6] (.int a6 :: st) M Q) :=
  fun a0 a1 a2 a3 a4 a5 a6 st M Q => xw_s rfl rfl
set_option maxRecDepth 20000 in
theorem h67_96 :
  (∀ (a0 : Nat) (a1 : Nat) (a2 : Int32) (a3 : Int32) (a4 : Int32) (a5 : Int32) (a6 : Int32) (st : List Value) (M : xM) (Q : Option Value → xM → Prop), xW xSC 67 96 [.ref a0, .ref a1, .int a2, .int a3, .int a4, .int a5, .int a6] (st) M Q = xW xSC 67 99 [.ref a0, .ref a1, .int a2, .int (a3 + nI 1), .int a4, .int a5, .int a6] (st) M Q) :=
  fun a0 a1 a2 a3 a4 a5 a6 st M Q => xw_s rfl rfl
set_option maxRecDepth 20000 in
theorem j67 :
  (∀ (a0 : Nat) (a1 : Nat) (a2 : Int32) (a3 : Int32) (a4 : Int32) (a5 : Int32) (a6 : Int32) (st : List Value) (M : xM) (Q : Option Value → xM → Prop), xW xSC 67 82 [.ref a0, .ref a1, .int a2, .int a3, .int a4, .int a5, .int a6] (st) M Q = xW xSC 67 84 [.ref a0, .ref a1, .int a2, .int a3, .int a4, .int a5, .int a6] (.int a6 :: st) M Q) ∧
  (∀ (a0 : Nat) (a1 : Nat) (a2 : Int32) (a3 : Int32) (a4 : Int32) (a5 : Int32) (a6 : Int32) (st : List Value) (M : xM) (Q : Option Value → xM → Prop), xW xSC 67 96 [.ref a0, .ref a1, .int a2, .int a3, .int a4, .int a5, .int a6] (st) M Q = xW xSC 67 99 [.ref a0, .ref a1, .int a2, .int (a3 + nI 1), .int a4, .int a5, .int a6] (st) M Q) :=
  ⟨fun a0 a1 a2 a3 a4 a5 a6 st M Q => xw_s rfl rfl,
  fun a0 a1 a2 a3 a4 a5 a6 st M Q => xw_s rfl rfl⟩
