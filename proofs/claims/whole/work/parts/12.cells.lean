/-! the class's rows, and small tests -/
abbrev xbt (x : Int32) (lo hi : Int) : Prop := lo ≤ x.toInt ∧ x.toInt ≤ hi
section C12
variable {M : xM} {Q : Option Value → xM → Prop}
theorem al0 {a n : Nat} {L st : List Value} (hS : xSC[a]? = some (1, n, [])) : xW xSC 0 6 L (.ref a :: st) M Q = xW xSC 0 7 L (.int (nI n) :: st) M Q := xw_s rfl (by simp only [xdo, xalen, hS, xgo])
theorem al1 {a n : Nat} {L st : List Value} (hS : xSC[a]? = some (1, n, [])) : xW xSC 1 6 L (.ref a :: st) M Q = xW xSC 1 7 L (.int (nI n) :: st) M Q := xw_s rfl (by simp only [xdo, xalen, hS, xgo])
theorem al2 {a n : Nat} {L st : List Value} (hS : xSC[a]? = some (1, n, [])) : xW xSC 2 5 L (.ref a :: st) M Q = xW xSC 2 6 L (.int (nI n) :: st) M Q := xw_s rfl (by simp only [xdo, xalen, hS, xgo])
theorem al2b {a n : Nat} {L st : List Value} (hS : xSC[a]? = some (1, n, [])) : xW xSC 2 7 L (.ref a :: st) M Q = xW xSC 2 8 L (.int (nI n) :: st) M Q := xw_s rfl (by simp only [xdo, xalen, hS, xgo])
theorem al3 {a n : Nat} {L st : List Value} (hS : xSC[a]? = some (1, n, [])) : xW xSC 3 4 L (.ref a :: st) M Q = xW xSC 3 5 L (.int (nI n) :: st) M Q := xw_s rfl (by simp only [xdo, xalen, hS, xgo])
theorem nI_nneg {j : Nat} (h : j < 2 ^ 31) : (nI j < nI 0) = False := by
  rw [nI_ltI h (by decide)]
  simp
theorem nI_lt_t {a b : Nat} (h : a < b) (hb : b < 2 ^ 31) : (nI a < nI b) = True := by
  rw [nI_ltI (by omega) hb]
  simp [h]
theorem nI_lt_f {a b : Nat} (h : b ≤ a) (ha : a < 2 ^ 31) : (nI a < nI b) = False := by
  rw [nI_ltI ha (by omega)]
  simp [h]
theorem nI_eq_t {a b : Nat} (h : a = b) : (nI a = nI b) = True := by simp [h]
theorem nI_eq_f {a b : Nat} (h : a ≠ b) (ha : a < 2 ^ 31) (hb : b < 2 ^ 31) : (nI a = nI b) = False := by
  rw [nI_eq ha hb]
  simp [h]
theorem xup_same (M : xM) (a i : Nat) (x : Int32) : xup M a i x a = upd (M a) i x := by simp [xup]
theorem xup_other {M : xM} {a b i : Nat} {x : Int32} (h : b ≠ a) : xup M a i x b = M b := by simp [xup, h]
theorem xset_same (M : xM) (a : Nat) (f : Nat → Int32) : xset M a f a = f := by simp [xset]
theorem xset_other {M : xM} {a b : Nat} {f : Nat → Int32} (h : b ≠ a) : xset M a f b = M b := by simp [xset, h]
theorem xset_xup (M : xM) (a i : Nat) (x : Int32) (f : Nat → Int32) : xset (xup M a i x) a f = xset M a f := by
  funext b
  by_cases h : b = a
  · subst h; simp [xset]
  · simp [xset, xup, h]
theorem xset_id (M : xM) (a : Nat) : xset M a (M a) = M := by
  funext b
  by_cases h : b = a
  · subst h; simp [xset]
  · simp [xset, h]
def xcp (n : Nat) (f g : Nat → Int32) : Nat → Int32 := fun j => if j < n then f j else g j
def xfl (n : Nat) (x : Int32) (g : Nat → Int32) : Nat → Int32 := fun j => if j < n then x else g j
theorem cGet {a n j : Nat} (hS : xSC[a]? = some (1, n, [])) (hn : n < 2 ^ 31) (hj : j < n) : xW xSC 0 0 [.ref a, .int (nI j)] [] M Q = Q (some (.int (M a j))) M := by
  have e : ∀ L st, xW xSC 0 12 L (.int (nI j) :: .ref a :: st) M Q = xW xSC 0 13 L (.int (M a j) :: st) M Q := fun L st => xw_ald rfl rfl hS hn hj
  simp only [s0, j0, nI_nneg (show j < 2 ^ 31 by omega), if_false, al0 hS, nI_lt_t hj hn, if_true, e]
theorem cSet {a n j : Nat} {x : Int32} (hS : xSC[a]? = some (1, n, [])) (hn : n < 2 ^ 31) (hj : j < n) : xW xSC 1 0 [.ref a, .int (nI j), .int x] [] M Q = Q none (xup M a j x) := by
  have e : ∀ L st, xW xSC 1 13 L (.int x :: .int (nI j) :: .ref a :: st) M Q = xW xSC 1 14 L st (xup M a j x) Q := fun L st => xw_ast (f := fun x => x) rfl rfl hS hn hj
  simp only [s1, j1, nI_nneg (show j < 2 ^ 31 by omega), if_false, al1 hS, nI_lt_t hj hn, if_true, e]
theorem cCopy {a b n : Nat} (hS : xSC[a]? = some (1, n, [])) (hS2 : xSC[b]? = some (1, n, [])) (hn : n < 2 ^ 31) : xW xSC 2 0 [.ref a, .ref b] [] M Q = Q none (xset M b (xcp n (M a) (M b))) := by
  have e0 : xmin (nI n) (nI n) = nI n := by simp [xmin]
  have e1 : va_cpy (M a) (M b) (nI 0).toNatClampNeg (nI 0).toNatClampNeg (nI n).toNatClampNeg = xcp n (M a) (M b) := by
    rw [nI_clamp hn, nI_clamp (by decide)]
    funext j
    simp [va_cpy, xcp]
  have e : ∀ L, xW xSC 2 11 L [.int (nI n), .int (nI 0), .ref b, .int (nI 0), .ref a] M Q = xW xSC 2 14 L [] (xset M b (xcp n (M a) (M b))) Q := fun L => xw_s rfl (by
    have h0 : ¬ nI 0 < 0 := nI_pos (by decide)
    have h1 : ¬ nI n < 0 := nI_pos hn
    have e2 : xdo xSC 2 (.invokestatic 13) 1002 0 0 11 L [.int (nI n), .int (nI 0), .ref b, .int (nI 0), .ref a] M = xcopy xSC L [.int (nI n), .int (nI 0), .ref b, .int (nI 0), .ref a] 14 M := rfl
    rw [e2]
    simp only [xcopy, hS, hS2]
    rw [e1, nI_clamp hn, nI_clamp (show 0 < 2 ^ 31 by decide)]
    simp [h0, h1, xgo]
    rfl)
  simp only [s2, j2, al2 hS, al2b hS2, e0, e]
theorem cFill {a n : Nat} {x : Int32} (hS : xSC[a]? = some (1, n, [])) (hn : n < 2 ^ 31) : xW xSC 3 0 [.ref a, .int x, .null] [] M Q = Q none (xset M a (xfl n x (M a))) := by
  have key : ∀ (m k : Nat) (M : xM), k + m = n → xW xSC 3 2 [.ref a, .int x, .int (nI k)] [] M Q = Q none (xset M a (fun j => if k ≤ j ∧ j < n then x else M a j)) := by
    intro m
    induction m with
    | zero =>
      intro k M hk
      have e2 : (fun j => if k ≤ j ∧ j < n then x else M a j) = M a := by
        funext j
        rw [if_neg (by omega)]
      rw [h3_2]
      simp only [s3, j3, al3 hS, nI_lt_f (show n ≤ k by omega) (show k < 2 ^ 31 by omega), if_false, e2, xset_id]
    | succ m ih =>
      intro k M hk
      have e : ∀ L st, xW xSC 3 11 L (.int x :: .int (nI k) :: .ref a :: st) M Q = xW xSC 3 12 L st (xup M a k x) Q := fun L st => xw_ast (f := fun x => x) rfl rfl hS hn (by omega)
      rw [h3_2]
      simp only [s3, j3, al3 hS, nI_lt_t (show k < n by omega) hn, if_true, e, nI_add]
      rw [ih (k + 1) (xup M a k x) (by omega), xset_xup, xup_same]
      congr 1
      congr 1
      funext j
      by_cases h : j = k
      · subst h
        simp [upd]
        omega
      · simp only [upd, if_neg h]
        by_cases h2 : k + 1 ≤ j ∧ j < n
        · rw [if_pos h2, if_pos (by omega)]
        · rw [if_neg h2, if_neg (by omega)]
  simp only [s3, j3]
  rw [key n 0 M (by omega)]
  congr 1
  congr 1
  funext j
  simp [xfl]
theorem cWithin {x lo hi : Int32} : xW xSC 132 0 [.int x, .int lo, .int hi] [] M Q = Q (some (.int (if lo ≤ x ∧ x ≤ hi then nI 1 else nI 0))) M := by
  simp (disch := decide) only [s132, j132]
  by_cases h1 : x < lo
  · rw [if_pos h1, if_neg (fun z => absurd z.1 (Int32.not_le.mpr h1))]
  · rw [if_neg h1]
    by_cases h2 : hi < x
    · rw [if_pos h2, if_neg (fun z => absurd z.2 (Int32.not_le.mpr h2))]
    · rw [if_neg h2, if_pos ⟨Int32.not_lt.mp h1, Int32.not_lt.mp h2⟩]
theorem xbt_iff {x : Int32} {a b : Nat} (ha : a < 2 ^ 31) (hb : b < 2 ^ 31) : (nI a ≤ x ∧ x ≤ nI b) = xbt x a b := by
  rw [Int32.le_iff_toInt_le, Int32.le_iff_toInt_le, nI_toInt ha, nI_toInt hb]
theorem cG :
  (∀ (j : Nat) (M : xM) (Q : Option Value → xM → Prop), j < 6 → xW xSC 0 0 [.ref 3, .int (nI j)] [] M Q = Q (some (.int (M 3 j))) M) ∧
  (∀ (j : Nat) (M : xM) (Q : Option Value → xM → Prop), j < 48 → xW xSC 0 0 [.ref 5, .int (nI j)] [] M Q = Q (some (.int (M 5 j))) M) ∧
  (∀ (j : Nat) (M : xM) (Q : Option Value → xM → Prop), j < 15 → xW xSC 0 0 [.ref 6, .int (nI j)] [] M Q = Q (some (.int (M 6 j))) M) ∧
  (∀ (j : Nat) (M : xM) (Q : Option Value → xM → Prop), j < 80 → xW xSC 0 0 [.ref 7, .int (nI j)] [] M Q = Q (some (.int (M 7 j))) M) ∧
  (∀ (j : Nat) (M : xM) (Q : Option Value → xM → Prop), j < 10 → xW xSC 0 0 [.ref 8, .int (nI j)] [] M Q = Q (some (.int (M 8 j))) M) ∧
  (∀ (j : Nat) (M : xM) (Q : Option Value → xM → Prop), j < 48 → xW xSC 0 0 [.ref 10, .int (nI j)] [] M Q = Q (some (.int (M 10 j))) M) ∧
  (∀ (j : Nat) (M : xM) (Q : Option Value → xM → Prop), j < 15 → xW xSC 0 0 [.ref 11, .int (nI j)] [] M Q = Q (some (.int (M 11 j))) M) ∧
  (∀ (j : Nat) (M : xM) (Q : Option Value → xM → Prop), j < 80 → xW xSC 0 0 [.ref 12, .int (nI j)] [] M Q = Q (some (.int (M 12 j))) M) ∧
  (∀ (j : Nat) (M : xM) (Q : Option Value → xM → Prop), j < 10 → xW xSC 0 0 [.ref 13, .int (nI j)] [] M Q = Q (some (.int (M 13 j))) M) ∧
  (∀ (j : Nat) (M : xM) (Q : Option Value → xM → Prop), j < 48 → xW xSC 0 0 [.ref 15, .int (nI j)] [] M Q = Q (some (.int (M 15 j))) M) ∧
  (∀ (j : Nat) (M : xM) (Q : Option Value → xM → Prop), j < 15 → xW xSC 0 0 [.ref 16, .int (nI j)] [] M Q = Q (some (.int (M 16 j))) M) ∧
  (∀ (j : Nat) (M : xM) (Q : Option Value → xM → Prop), j < 80 → xW xSC 0 0 [.ref 17, .int (nI j)] [] M Q = Q (some (.int (M 17 j))) M) ∧
  (∀ (j : Nat) (M : xM) (Q : Option Value → xM → Prop), j < 10 → xW xSC 0 0 [.ref 18, .int (nI j)] [] M Q = Q (some (.int (M 18 j))) M) ∧
  (∀ (j : Nat) (M : xM) (Q : Option Value → xM → Prop), j < 48 → xW xSC 0 0 [.ref 20, .int (nI j)] [] M Q = Q (some (.int (M 20 j))) M) ∧
  (∀ (j : Nat) (M : xM) (Q : Option Value → xM → Prop), j < 15 → xW xSC 0 0 [.ref 21, .int (nI j)] [] M Q = Q (some (.int (M 21 j))) M) ∧
  (∀ (j : Nat) (M : xM) (Q : Option Value → xM → Prop), j < 80 → xW xSC 0 0 [.ref 22, .int (nI j)] [] M Q = Q (some (.int (M 22 j))) M) ∧
  (∀ (j : Nat) (M : xM) (Q : Option Value → xM → Prop), j < 10 → xW xSC 0 0 [.ref 23, .int (nI j)] [] M Q = Q (some (.int (M 23 j))) M) ∧
  (∀ (j : Nat) (M : xM) (Q : Option Value → xM → Prop), j < 48 → xW xSC 0 0 [.ref 25, .int (nI j)] [] M Q = Q (some (.int (M 25 j))) M) ∧
  (∀ (j : Nat) (M : xM) (Q : Option Value → xM → Prop), j < 12 → xW xSC 0 0 [.ref 26, .int (nI j)] [] M Q = Q (some (.int (M 26 j))) M) ∧
  (∀ (j : Nat) (M : xM) (Q : Option Value → xM → Prop), j < 8 → xW xSC 0 0 [.ref 28, .int (nI j)] [] M Q = Q (some (.int (M 28 j))) M) ∧
  (∀ (j : Nat) (M : xM) (Q : Option Value → xM → Prop), j < 8 → xW xSC 0 0 [.ref 29, .int (nI j)] [] M Q = Q (some (.int (M 29 j))) M) ∧
  (∀ (j : Nat) (M : xM) (Q : Option Value → xM → Prop), j < 8 → xW xSC 0 0 [.ref 30, .int (nI j)] [] M Q = Q (some (.int (M 30 j))) M) ∧
  (∀ (j : Nat) (M : xM) (Q : Option Value → xM → Prop), j < 16 → xW xSC 0 0 [.ref 32, .int (nI j)] [] M Q = Q (some (.int (M 32 j))) M) ∧
  (∀ (j : Nat) (M : xM) (Q : Option Value → xM → Prop), j < 64 → xW xSC 0 0 [.ref 36, .int (nI j)] [] M Q = Q (some (.int (M 36 j))) M) ∧
  (∀ (j : Nat) (M : xM) (Q : Option Value → xM → Prop), j < 32 → xW xSC 0 0 [.ref 37, .int (nI j)] [] M Q = Q (some (.int (M 37 j))) M) ∧
  (∀ (j : Nat) (M : xM) (Q : Option Value → xM → Prop), j < 32 → xW xSC 0 0 [.ref 38, .int (nI j)] [] M Q = Q (some (.int (M 38 j))) M) ∧
  (∀ (j : Nat) (M : xM) (Q : Option Value → xM → Prop), j < 8 → xW xSC 0 0 [.ref 42, .int (nI j)] [] M Q = Q (some (.int (M 42 j))) M) ∧
  (∀ (j : Nat) (M : xM) (Q : Option Value → xM → Prop), j < 8 → xW xSC 0 0 [.ref 43, .int (nI j)] [] M Q = Q (some (.int (M 43 j))) M) ∧
  (∀ (j : Nat) (M : xM) (Q : Option Value → xM → Prop), j < 8 → xW xSC 0 0 [.ref 44, .int (nI j)] [] M Q = Q (some (.int (M 44 j))) M) :=
  ⟨fun j M Q h => cGet rfl (by decide) h, fun j M Q h => cGet rfl (by decide) h, fun j M Q h => cGet rfl (by decide) h, fun j M Q h => cGet rfl (by decide) h, fun j M Q h => cGet rfl (by decide) h, fun j M Q h => cGet rfl (by decide) h, fun j M Q h => cGet rfl (by decide) h, fun j M Q h => cGet rfl (by decide) h, fun j M Q h => cGet rfl (by decide) h, fun j M Q h => cGet rfl (by decide) h, fun j M Q h => cGet rfl (by decide) h, fun j M Q h => cGet rfl (by decide) h, fun j M Q h => cGet rfl (by decide) h, fun j M Q h => cGet rfl (by decide) h, fun j M Q h => cGet rfl (by decide) h, fun j M Q h => cGet rfl (by decide) h, fun j M Q h => cGet rfl (by decide) h, fun j M Q h => cGet rfl (by decide) h, fun j M Q h => cGet rfl (by decide) h, fun j M Q h => cGet rfl (by decide) h, fun j M Q h => cGet rfl (by decide) h, fun j M Q h => cGet rfl (by decide) h, fun j M Q h => cGet rfl (by decide) h, fun j M Q h => cGet rfl (by decide) h, fun j M Q h => cGet rfl (by decide) h, fun j M Q h => cGet rfl (by decide) h, fun j M Q h => cGet rfl (by decide) h, fun j M Q h => cGet rfl (by decide) h, fun j M Q h => cGet rfl (by decide) h⟩
theorem cS :
  (∀ (j : Nat) (x : Int32) (M : xM) (Q : Option Value → xM → Prop), j < 6 → xW xSC 1 0 [.ref 3, .int (nI j), .int x] [] M Q = Q none (xup M 3 j x)) ∧
  (∀ (j : Nat) (x : Int32) (M : xM) (Q : Option Value → xM → Prop), j < 48 → xW xSC 1 0 [.ref 5, .int (nI j), .int x] [] M Q = Q none (xup M 5 j x)) ∧
  (∀ (j : Nat) (x : Int32) (M : xM) (Q : Option Value → xM → Prop), j < 15 → xW xSC 1 0 [.ref 6, .int (nI j), .int x] [] M Q = Q none (xup M 6 j x)) ∧
  (∀ (j : Nat) (x : Int32) (M : xM) (Q : Option Value → xM → Prop), j < 80 → xW xSC 1 0 [.ref 7, .int (nI j), .int x] [] M Q = Q none (xup M 7 j x)) ∧
  (∀ (j : Nat) (x : Int32) (M : xM) (Q : Option Value → xM → Prop), j < 10 → xW xSC 1 0 [.ref 8, .int (nI j), .int x] [] M Q = Q none (xup M 8 j x)) ∧
  (∀ (j : Nat) (x : Int32) (M : xM) (Q : Option Value → xM → Prop), j < 48 → xW xSC 1 0 [.ref 10, .int (nI j), .int x] [] M Q = Q none (xup M 10 j x)) ∧
  (∀ (j : Nat) (x : Int32) (M : xM) (Q : Option Value → xM → Prop), j < 15 → xW xSC 1 0 [.ref 11, .int (nI j), .int x] [] M Q = Q none (xup M 11 j x)) ∧
  (∀ (j : Nat) (x : Int32) (M : xM) (Q : Option Value → xM → Prop), j < 80 → xW xSC 1 0 [.ref 12, .int (nI j), .int x] [] M Q = Q none (xup M 12 j x)) ∧
  (∀ (j : Nat) (x : Int32) (M : xM) (Q : Option Value → xM → Prop), j < 10 → xW xSC 1 0 [.ref 13, .int (nI j), .int x] [] M Q = Q none (xup M 13 j x)) ∧
  (∀ (j : Nat) (x : Int32) (M : xM) (Q : Option Value → xM → Prop), j < 48 → xW xSC 1 0 [.ref 15, .int (nI j), .int x] [] M Q = Q none (xup M 15 j x)) ∧
  (∀ (j : Nat) (x : Int32) (M : xM) (Q : Option Value → xM → Prop), j < 15 → xW xSC 1 0 [.ref 16, .int (nI j), .int x] [] M Q = Q none (xup M 16 j x)) ∧
  (∀ (j : Nat) (x : Int32) (M : xM) (Q : Option Value → xM → Prop), j < 80 → xW xSC 1 0 [.ref 17, .int (nI j), .int x] [] M Q = Q none (xup M 17 j x)) ∧
  (∀ (j : Nat) (x : Int32) (M : xM) (Q : Option Value → xM → Prop), j < 10 → xW xSC 1 0 [.ref 18, .int (nI j), .int x] [] M Q = Q none (xup M 18 j x)) ∧
  (∀ (j : Nat) (x : Int32) (M : xM) (Q : Option Value → xM → Prop), j < 48 → xW xSC 1 0 [.ref 20, .int (nI j), .int x] [] M Q = Q none (xup M 20 j x)) ∧
  (∀ (j : Nat) (x : Int32) (M : xM) (Q : Option Value → xM → Prop), j < 15 → xW xSC 1 0 [.ref 21, .int (nI j), .int x] [] M Q = Q none (xup M 21 j x)) ∧
  (∀ (j : Nat) (x : Int32) (M : xM) (Q : Option Value → xM → Prop), j < 80 → xW xSC 1 0 [.ref 22, .int (nI j), .int x] [] M Q = Q none (xup M 22 j x)) ∧
  (∀ (j : Nat) (x : Int32) (M : xM) (Q : Option Value → xM → Prop), j < 10 → xW xSC 1 0 [.ref 23, .int (nI j), .int x] [] M Q = Q none (xup M 23 j x)) ∧
  (∀ (j : Nat) (x : Int32) (M : xM) (Q : Option Value → xM → Prop), j < 48 → xW xSC 1 0 [.ref 25, .int (nI j), .int x] [] M Q = Q none (xup M 25 j x)) ∧
  (∀ (j : Nat) (x : Int32) (M : xM) (Q : Option Value → xM → Prop), j < 12 → xW xSC 1 0 [.ref 26, .int (nI j), .int x] [] M Q = Q none (xup M 26 j x)) ∧
  (∀ (j : Nat) (x : Int32) (M : xM) (Q : Option Value → xM → Prop), j < 8 → xW xSC 1 0 [.ref 28, .int (nI j), .int x] [] M Q = Q none (xup M 28 j x)) ∧
  (∀ (j : Nat) (x : Int32) (M : xM) (Q : Option Value → xM → Prop), j < 8 → xW xSC 1 0 [.ref 29, .int (nI j), .int x] [] M Q = Q none (xup M 29 j x)) ∧
  (∀ (j : Nat) (x : Int32) (M : xM) (Q : Option Value → xM → Prop), j < 8 → xW xSC 1 0 [.ref 30, .int (nI j), .int x] [] M Q = Q none (xup M 30 j x)) ∧
  (∀ (j : Nat) (x : Int32) (M : xM) (Q : Option Value → xM → Prop), j < 16 → xW xSC 1 0 [.ref 32, .int (nI j), .int x] [] M Q = Q none (xup M 32 j x)) ∧
  (∀ (j : Nat) (x : Int32) (M : xM) (Q : Option Value → xM → Prop), j < 64 → xW xSC 1 0 [.ref 36, .int (nI j), .int x] [] M Q = Q none (xup M 36 j x)) ∧
  (∀ (j : Nat) (x : Int32) (M : xM) (Q : Option Value → xM → Prop), j < 32 → xW xSC 1 0 [.ref 37, .int (nI j), .int x] [] M Q = Q none (xup M 37 j x)) ∧
  (∀ (j : Nat) (x : Int32) (M : xM) (Q : Option Value → xM → Prop), j < 32 → xW xSC 1 0 [.ref 38, .int (nI j), .int x] [] M Q = Q none (xup M 38 j x)) ∧
  (∀ (j : Nat) (x : Int32) (M : xM) (Q : Option Value → xM → Prop), j < 8 → xW xSC 1 0 [.ref 42, .int (nI j), .int x] [] M Q = Q none (xup M 42 j x)) ∧
  (∀ (j : Nat) (x : Int32) (M : xM) (Q : Option Value → xM → Prop), j < 8 → xW xSC 1 0 [.ref 43, .int (nI j), .int x] [] M Q = Q none (xup M 43 j x)) ∧
  (∀ (j : Nat) (x : Int32) (M : xM) (Q : Option Value → xM → Prop), j < 8 → xW xSC 1 0 [.ref 44, .int (nI j), .int x] [] M Q = Q none (xup M 44 j x)) :=
  ⟨fun j x M Q h => cSet rfl (by decide) h, fun j x M Q h => cSet rfl (by decide) h, fun j x M Q h => cSet rfl (by decide) h, fun j x M Q h => cSet rfl (by decide) h, fun j x M Q h => cSet rfl (by decide) h, fun j x M Q h => cSet rfl (by decide) h, fun j x M Q h => cSet rfl (by decide) h, fun j x M Q h => cSet rfl (by decide) h, fun j x M Q h => cSet rfl (by decide) h, fun j x M Q h => cSet rfl (by decide) h, fun j x M Q h => cSet rfl (by decide) h, fun j x M Q h => cSet rfl (by decide) h, fun j x M Q h => cSet rfl (by decide) h, fun j x M Q h => cSet rfl (by decide) h, fun j x M Q h => cSet rfl (by decide) h, fun j x M Q h => cSet rfl (by decide) h, fun j x M Q h => cSet rfl (by decide) h, fun j x M Q h => cSet rfl (by decide) h, fun j x M Q h => cSet rfl (by decide) h, fun j x M Q h => cSet rfl (by decide) h, fun j x M Q h => cSet rfl (by decide) h, fun j x M Q h => cSet rfl (by decide) h, fun j x M Q h => cSet rfl (by decide) h, fun j x M Q h => cSet rfl (by decide) h, fun j x M Q h => cSet rfl (by decide) h, fun j x M Q h => cSet rfl (by decide) h, fun j x M Q h => cSet rfl (by decide) h, fun j x M Q h => cSet rfl (by decide) h, fun j x M Q h => cSet rfl (by decide) h⟩
theorem cF :
  (∀ (x : Int32) (M : xM) (Q : Option Value → xM → Prop), xW xSC 3 0 [.ref 3, .int x, .null] [] M Q = Q none (xset M 3 (xfl 6 x (M 3)))) ∧
  (∀ (x : Int32) (M : xM) (Q : Option Value → xM → Prop), xW xSC 3 0 [.ref 5, .int x, .null] [] M Q = Q none (xset M 5 (xfl 48 x (M 5)))) ∧
  (∀ (x : Int32) (M : xM) (Q : Option Value → xM → Prop), xW xSC 3 0 [.ref 6, .int x, .null] [] M Q = Q none (xset M 6 (xfl 15 x (M 6)))) ∧
  (∀ (x : Int32) (M : xM) (Q : Option Value → xM → Prop), xW xSC 3 0 [.ref 7, .int x, .null] [] M Q = Q none (xset M 7 (xfl 80 x (M 7)))) ∧
  (∀ (x : Int32) (M : xM) (Q : Option Value → xM → Prop), xW xSC 3 0 [.ref 8, .int x, .null] [] M Q = Q none (xset M 8 (xfl 10 x (M 8)))) ∧
  (∀ (x : Int32) (M : xM) (Q : Option Value → xM → Prop), xW xSC 3 0 [.ref 10, .int x, .null] [] M Q = Q none (xset M 10 (xfl 48 x (M 10)))) ∧
  (∀ (x : Int32) (M : xM) (Q : Option Value → xM → Prop), xW xSC 3 0 [.ref 11, .int x, .null] [] M Q = Q none (xset M 11 (xfl 15 x (M 11)))) ∧
  (∀ (x : Int32) (M : xM) (Q : Option Value → xM → Prop), xW xSC 3 0 [.ref 12, .int x, .null] [] M Q = Q none (xset M 12 (xfl 80 x (M 12)))) ∧
  (∀ (x : Int32) (M : xM) (Q : Option Value → xM → Prop), xW xSC 3 0 [.ref 13, .int x, .null] [] M Q = Q none (xset M 13 (xfl 10 x (M 13)))) ∧
  (∀ (x : Int32) (M : xM) (Q : Option Value → xM → Prop), xW xSC 3 0 [.ref 15, .int x, .null] [] M Q = Q none (xset M 15 (xfl 48 x (M 15)))) ∧
  (∀ (x : Int32) (M : xM) (Q : Option Value → xM → Prop), xW xSC 3 0 [.ref 16, .int x, .null] [] M Q = Q none (xset M 16 (xfl 15 x (M 16)))) ∧
  (∀ (x : Int32) (M : xM) (Q : Option Value → xM → Prop), xW xSC 3 0 [.ref 17, .int x, .null] [] M Q = Q none (xset M 17 (xfl 80 x (M 17)))) ∧
  (∀ (x : Int32) (M : xM) (Q : Option Value → xM → Prop), xW xSC 3 0 [.ref 18, .int x, .null] [] M Q = Q none (xset M 18 (xfl 10 x (M 18)))) ∧
  (∀ (x : Int32) (M : xM) (Q : Option Value → xM → Prop), xW xSC 3 0 [.ref 20, .int x, .null] [] M Q = Q none (xset M 20 (xfl 48 x (M 20)))) ∧
  (∀ (x : Int32) (M : xM) (Q : Option Value → xM → Prop), xW xSC 3 0 [.ref 21, .int x, .null] [] M Q = Q none (xset M 21 (xfl 15 x (M 21)))) ∧
  (∀ (x : Int32) (M : xM) (Q : Option Value → xM → Prop), xW xSC 3 0 [.ref 22, .int x, .null] [] M Q = Q none (xset M 22 (xfl 80 x (M 22)))) ∧
  (∀ (x : Int32) (M : xM) (Q : Option Value → xM → Prop), xW xSC 3 0 [.ref 23, .int x, .null] [] M Q = Q none (xset M 23 (xfl 10 x (M 23)))) ∧
  (∀ (x : Int32) (M : xM) (Q : Option Value → xM → Prop), xW xSC 3 0 [.ref 25, .int x, .null] [] M Q = Q none (xset M 25 (xfl 48 x (M 25)))) ∧
  (∀ (x : Int32) (M : xM) (Q : Option Value → xM → Prop), xW xSC 3 0 [.ref 26, .int x, .null] [] M Q = Q none (xset M 26 (xfl 12 x (M 26)))) ∧
  (∀ (x : Int32) (M : xM) (Q : Option Value → xM → Prop), xW xSC 3 0 [.ref 28, .int x, .null] [] M Q = Q none (xset M 28 (xfl 8 x (M 28)))) ∧
  (∀ (x : Int32) (M : xM) (Q : Option Value → xM → Prop), xW xSC 3 0 [.ref 29, .int x, .null] [] M Q = Q none (xset M 29 (xfl 8 x (M 29)))) ∧
  (∀ (x : Int32) (M : xM) (Q : Option Value → xM → Prop), xW xSC 3 0 [.ref 30, .int x, .null] [] M Q = Q none (xset M 30 (xfl 8 x (M 30)))) ∧
  (∀ (x : Int32) (M : xM) (Q : Option Value → xM → Prop), xW xSC 3 0 [.ref 32, .int x, .null] [] M Q = Q none (xset M 32 (xfl 16 x (M 32)))) ∧
  (∀ (x : Int32) (M : xM) (Q : Option Value → xM → Prop), xW xSC 3 0 [.ref 36, .int x, .null] [] M Q = Q none (xset M 36 (xfl 64 x (M 36)))) ∧
  (∀ (x : Int32) (M : xM) (Q : Option Value → xM → Prop), xW xSC 3 0 [.ref 37, .int x, .null] [] M Q = Q none (xset M 37 (xfl 32 x (M 37)))) ∧
  (∀ (x : Int32) (M : xM) (Q : Option Value → xM → Prop), xW xSC 3 0 [.ref 38, .int x, .null] [] M Q = Q none (xset M 38 (xfl 32 x (M 38)))) ∧
  (∀ (x : Int32) (M : xM) (Q : Option Value → xM → Prop), xW xSC 3 0 [.ref 42, .int x, .null] [] M Q = Q none (xset M 42 (xfl 8 x (M 42)))) ∧
  (∀ (x : Int32) (M : xM) (Q : Option Value → xM → Prop), xW xSC 3 0 [.ref 43, .int x, .null] [] M Q = Q none (xset M 43 (xfl 8 x (M 43)))) ∧
  (∀ (x : Int32) (M : xM) (Q : Option Value → xM → Prop), xW xSC 3 0 [.ref 44, .int x, .null] [] M Q = Q none (xset M 44 (xfl 8 x (M 44)))) :=
  ⟨fun x M Q => cFill rfl (by decide), fun x M Q => cFill rfl (by decide), fun x M Q => cFill rfl (by decide), fun x M Q => cFill rfl (by decide), fun x M Q => cFill rfl (by decide), fun x M Q => cFill rfl (by decide), fun x M Q => cFill rfl (by decide), fun x M Q => cFill rfl (by decide), fun x M Q => cFill rfl (by decide), fun x M Q => cFill rfl (by decide), fun x M Q => cFill rfl (by decide), fun x M Q => cFill rfl (by decide), fun x M Q => cFill rfl (by decide), fun x M Q => cFill rfl (by decide), fun x M Q => cFill rfl (by decide), fun x M Q => cFill rfl (by decide), fun x M Q => cFill rfl (by decide), fun x M Q => cFill rfl (by decide), fun x M Q => cFill rfl (by decide), fun x M Q => cFill rfl (by decide), fun x M Q => cFill rfl (by decide), fun x M Q => cFill rfl (by decide), fun x M Q => cFill rfl (by decide), fun x M Q => cFill rfl (by decide), fun x M Q => cFill rfl (by decide), fun x M Q => cFill rfl (by decide), fun x M Q => cFill rfl (by decide), fun x M Q => cFill rfl (by decide), fun x M Q => cFill rfl (by decide)⟩
end C12
