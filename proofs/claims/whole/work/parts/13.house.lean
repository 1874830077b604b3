/-! a house: its reads and writes -/
section C13
variable {M : xM} {Q : Option Value → xM → Prop}
def xwi (o e : Int32) : Int32 := if o = nI 2 then nI 2 else if o = e then nI 0 else nI 1
theorem c38 {o e : Int32} : xW xSC 38 0 [.int o, .int e] [] M Q = Q (some (.int (xwi o e))) M := by
  simp only [s38, j38, xwi]
  by_cases h : o = nI 2
  · simp only [if_pos h]
  · simp only [if_neg h]
    by_cases h2 : o = e
    · simp only [if_pos h2]
    · simp only [if_neg h2]
theorem c23 :
  (∀ (x : Int32) (M : xM) (Q : Option Value → xM → Prop), xW xSC 23 0 [.ref 4, .int x] [] M Q = Q (some (.int (if ¬ x < nI 0 ∧ x < M 4 0 then nI 1 else nI 0))) M) ∧
  (∀ (x : Int32) (M : xM) (Q : Option Value → xM → Prop), xW xSC 23 0 [.ref 9, .int x] [] M Q = Q (some (.int (if ¬ x < nI 0 ∧ x < M 9 0 then nI 1 else nI 0))) M) := by
  refine ⟨?_, ?_⟩
  · intro x M Q
    simp (disch := decide) only [s23, j23]
    by_cases h1 : x < nI 0
    · simp only [h1, if_true, not_true, false_and, if_false]
    · simp only [h1, if_false, not_false_eq_true, true_and]
      split <;> rfl
  · intro x M Q
    simp (disch := decide) only [s23, j23]
    by_cases h1 : x < nI 0
    · simp only [h1, if_true, not_true, false_and, if_false]
    · simp only [h1, if_false, not_false_eq_true, true_and]
      split <;> rfl
theorem c24 :
  (∀ (x : Int32) (M : xM) (Q : Option Value → xM → Prop), xW xSC 24 0 [.ref 4, .int x] [] M Q = Q (some (.int (if ¬ x < nI 0 ∧ x < M 4 1 then nI 1 else nI 0))) M) ∧
  (∀ (x : Int32) (M : xM) (Q : Option Value → xM → Prop), xW xSC 24 0 [.ref 9, .int x] [] M Q = Q (some (.int (if ¬ x < nI 0 ∧ x < M 9 1 then nI 1 else nI 0))) M) := by
  refine ⟨?_, ?_⟩
  · intro x M Q
    simp (disch := decide) only [s24, j24]
    by_cases h1 : x < nI 0
    · simp only [h1, if_true, not_true, false_and, if_false]
    · simp only [h1, if_false, not_false_eq_true, true_and]
      split <;> rfl
  · intro x M Q
    simp (disch := decide) only [s24, j24]
    by_cases h1 : x < nI 0
    · simp only [h1, if_true, not_true, false_and, if_false]
    · simp only [h1, if_false, not_false_eq_true, true_and]
      split <;> rfl
theorem c25 :
  (∀ (x : Int32) (M : xM) (Q : Option Value → xM → Prop), xW xSC 25 0 [.ref 4, .int x] [] M Q = Q (some (.int (if ¬ x < nI 0 ∧ x < M 4 2 then nI 1 else nI 0))) M) ∧
  (∀ (x : Int32) (M : xM) (Q : Option Value → xM → Prop), xW xSC 25 0 [.ref 9, .int x] [] M Q = Q (some (.int (if ¬ x < nI 0 ∧ x < M 9 2 then nI 1 else nI 0))) M) := by
  refine ⟨?_, ?_⟩
  · intro x M Q
    simp (disch := decide) only [s25, j25]
    by_cases h1 : x < nI 0
    · simp only [h1, if_true, not_true, false_and, if_false]
    · simp only [h1, if_false, not_false_eq_true, true_and]
      split <;> rfl
  · intro x M Q
    simp (disch := decide) only [s25, j25]
    by_cases h1 : x < nI 0
    · simp only [h1, if_true, not_true, false_and, if_false]
    · simp only [h1, if_false, not_false_eq_true, true_and]
      split <;> rfl
theorem c28 :
  (∀ (d c : Nat) (M : xM) (Q : Option Value → xM → Prop), d * 6 + c < 48 → xW xSC 28 0 [.ref 4, .int (nI d), .int (nI c)] [] M Q = Q (some (.int (M 5 (d * 6 + c)))) M) ∧
  (∀ (d c : Nat) (M : xM) (Q : Option Value → xM → Prop), d * 6 + c < 48 → xW xSC 28 0 [.ref 9, .int (nI d), .int (nI c)] [] M Q = Q (some (.int (M 10 (d * 6 + c)))) M) := by
  refine ⟨?_, ?_⟩
  · intro d c M Q h
    simp (disch := omega) only [s28, j28, nI_add, pk_mul, cG, xpush_s]
  · intro d c M Q h
    simp (disch := omega) only [s28, j28, nI_add, pk_mul, cG, xpush_s]
theorem c29 :
  (∀ (d c : Nat) (x : Int32) (M : xM) (Q : Option Value → xM → Prop), d * 6 + c < 48 → xW xSC 29 0 [.ref 4, .int (nI d), .int (nI c), .int x] [] M Q = Q none (xup M 5 (d * 6 + c) x)) ∧
  (∀ (d c : Nat) (x : Int32) (M : xM) (Q : Option Value → xM → Prop), d * 6 + c < 48 → xW xSC 29 0 [.ref 9, .int (nI d), .int (nI c), .int x] [] M Q = Q none (xup M 10 (d * 6 + c) x)) := by
  refine ⟨?_, ?_⟩
  · intro d c x M Q h
    simp (disch := omega) only [s29, j29, nI_add, pk_mul, cS, xpush_n]
  · intro d c x M Q h
    simp (disch := omega) only [s29, j29, nI_add, pk_mul, cS, xpush_n]
theorem c30 :
  (∀ (d c : Nat) (M : xM) (Q : Option Value → xM → Prop), d * 3 + c < 15 → xW xSC 30 0 [.ref 4, .int (nI d), .int (nI c)] [] M Q = Q (some (.int (M 6 (d * 3 + c)))) M) ∧
  (∀ (d c : Nat) (M : xM) (Q : Option Value → xM → Prop), d * 3 + c < 15 → xW xSC 30 0 [.ref 9, .int (nI d), .int (nI c)] [] M Q = Q (some (.int (M 11 (d * 3 + c)))) M) := by
  refine ⟨?_, ?_⟩
  · intro d c M Q h
    simp (disch := omega) only [s30, j30, nI_add, pk_mul, cG, xpush_s]
  · intro d c M Q h
    simp (disch := omega) only [s30, j30, nI_add, pk_mul, cG, xpush_s]
theorem c31 :
  (∀ (d c : Nat) (x : Int32) (M : xM) (Q : Option Value → xM → Prop), d * 3 + c < 15 → xW xSC 31 0 [.ref 4, .int (nI d), .int (nI c), .int x] [] M Q = Q none (xup M 6 (d * 3 + c) x)) ∧
  (∀ (d c : Nat) (x : Int32) (M : xM) (Q : Option Value → xM → Prop), d * 3 + c < 15 → xW xSC 31 0 [.ref 9, .int (nI d), .int (nI c), .int x] [] M Q = Q none (xup M 11 (d * 3 + c) x)) := by
  refine ⟨?_, ?_⟩
  · intro d c x M Q h
    simp (disch := omega) only [s31, j31, nI_add, pk_mul, cS, xpush_n]
  · intro d c x M Q h
    simp (disch := omega) only [s31, j31, nI_add, pk_mul, cS, xpush_n]
theorem c32 :
  (∀ (d c : Nat) (M : xM) (Q : Option Value → xM → Prop), d * 16 + c < 80 → xW xSC 32 0 [.ref 4, .int (nI d), .int (nI c)] [] M Q = Q (some (.int (M 7 (d * 16 + c)))) M) ∧
  (∀ (d c : Nat) (M : xM) (Q : Option Value → xM → Prop), d * 16 + c < 80 → xW xSC 32 0 [.ref 9, .int (nI d), .int (nI c)] [] M Q = Q (some (.int (M 12 (d * 16 + c)))) M) := by
  refine ⟨?_, ?_⟩
  · intro d c M Q h
    simp (disch := omega) only [s32, j32, nI_add, pk_mul, cG, xpush_s]
  · intro d c M Q h
    simp (disch := omega) only [s32, j32, nI_add, pk_mul, cG, xpush_s]
theorem c33 :
  (∀ (d c : Nat) (x : Int32) (M : xM) (Q : Option Value → xM → Prop), d * 16 + c < 80 → xW xSC 33 0 [.ref 4, .int (nI d), .int (nI c), .int x] [] M Q = Q none (xup M 7 (d * 16 + c) x)) ∧
  (∀ (d c : Nat) (x : Int32) (M : xM) (Q : Option Value → xM → Prop), d * 16 + c < 80 → xW xSC 33 0 [.ref 9, .int (nI d), .int (nI c), .int x] [] M Q = Q none (xup M 12 (d * 16 + c) x)) := by
  refine ⟨?_, ?_⟩
  · intro d c x M Q h
    simp (disch := omega) only [s33, j33, nI_add, pk_mul, cS, xpush_n]
  · intro d c x M Q h
    simp (disch := omega) only [s33, j33, nI_add, pk_mul, cS, xpush_n]
theorem c34 :
  (∀ (c : Nat) (M : xM) (Q : Option Value → xM → Prop), c < 10 → xW xSC 34 0 [.ref 4, .int (nI c)] [] M Q = Q (some (.int (M 8 c))) M) ∧
  (∀ (c : Nat) (M : xM) (Q : Option Value → xM → Prop), c < 10 → xW xSC 34 0 [.ref 9, .int (nI c)] [] M Q = Q (some (.int (M 13 c))) M) := by
  refine ⟨?_, ?_⟩
  · intro c M Q h
    simp (disch := omega) only [s34, j34, cG, xpush_s]
  · intro c M Q h
    simp (disch := omega) only [s34, j34, cG, xpush_s]
theorem c35 :
  (∀ (c : Nat) (x : Int32) (M : xM) (Q : Option Value → xM → Prop), c < 10 → xW xSC 35 0 [.ref 4, .int (nI c), .int x] [] M Q = Q none (xup M 8 c x)) ∧
  (∀ (c : Nat) (x : Int32) (M : xM) (Q : Option Value → xM → Prop), c < 10 → xW xSC 35 0 [.ref 9, .int (nI c), .int x] [] M Q = Q none (xup M 13 c x)) := by
  refine ⟨?_, ?_⟩
  · intro c x M Q h
    simp (disch := omega) only [s35, j35, cS, xpush_n]
  · intro c x M Q h
    simp (disch := omega) only [s35, j35, cS, xpush_n]
theorem c36 :
  (∀ (d e : Nat) (M : xM) (Q : Option Value → xM → Prop), d * 6 + (4 + e) < 48 → xW xSC 36 0 [.ref 4, .int (nI d), .int (nI e)] [] M Q = Q (some (.int (M 5 (d * 6 + (4 + e))))) M) ∧
  (∀ (d e : Nat) (M : xM) (Q : Option Value → xM → Prop), d * 6 + (4 + e) < 48 → xW xSC 36 0 [.ref 9, .int (nI d), .int (nI e)] [] M Q = Q (some (.int (M 10 (d * 6 + (4 + e))))) M) := by
  refine ⟨?_, ?_⟩
  · intro d e M Q h
    simp (disch := omega) only [s36, j36, nI_add, c28, xpush_s]
  · intro d e M Q h
    simp (disch := omega) only [s36, j36, nI_add, c28, xpush_s]
theorem c37 :
  (∀ (d e : Nat) (M : xM) (Q : Option Value → xM → Prop), d < 8 → xW xSC 37 0 [.ref 4, .int (nI d), .int (nI e)] [] M Q = Q (some (.int (xwi (M 5 (d * 6 + 2)) (nI e)))) M) ∧
  (∀ (d e : Nat) (M : xM) (Q : Option Value → xM → Prop), d < 8 → xW xSC 37 0 [.ref 9, .int (nI d), .int (nI e)] [] M Q = Q (some (.int (xwi (M 10 (d * 6 + 2)) (nI e)))) M) := by
  refine ⟨?_, ?_⟩
  · intro d e M Q h
    simp (disch := omega) only [s37, j37, nI_add, c28, c38, xpush_s]
  · intro d e M Q h
    simp (disch := omega) only [s37, j37, nI_add, c28, c38, xpush_s]
theorem c39 :
  (∀ (d e : Nat) (M : xM) (Q : Option Value → xM → Prop), d < 8 → e < 2 → xW xSC 39 0 [.ref 4, .int (nI d), .int (nI e)] [] M Q = Q (some (.int (M 5 (d * 6 + e)))) M) ∧
  (∀ (d e : Nat) (M : xM) (Q : Option Value → xM → Prop), d < 8 → e < 2 → xW xSC 39 0 [.ref 9, .int (nI d), .int (nI e)] [] M Q = Q (some (.int (M 10 (d * 6 + e)))) M) := by
  refine ⟨?_, ?_⟩
  · intro d e M Q h h2
    rcases (show e = 0 ∨ e = 1 by omega) with rfl | rfl
    · simp (disch := omega) only [s39, j39, c28, xpush_s, if_true]
    · simp (disch := omega) only [s39, j39, c28, xpush_s, nI_eq_f, if_false]
  · intro d e M Q h h2
    rcases (show e = 0 ∨ e = 1 by omega) with rfl | rfl
    · simp (disch := omega) only [s39, j39, c28, xpush_s, if_true]
    · simp (disch := omega) only [s39, j39, c28, xpush_s, nI_eq_f, if_false]
theorem c40 :
  (∀ (d : Nat) (r : Int32) (M : xM) (Q : Option Value → xM → Prop), d < 8 → xW xSC 40 0 [.ref 4, .int (nI d), .int r] [] M Q = Q (some (.int (if M 5 (d * 6 + 0) = r then nI 0 else if M 5 (d * 6 + 1) = r then nI 1 else -1))) M) ∧
  (∀ (d : Nat) (r : Int32) (M : xM) (Q : Option Value → xM → Prop), d < 8 → xW xSC 40 0 [.ref 9, .int (nI d), .int r] [] M Q = Q (some (.int (if M 10 (d * 6 + 0) = r then nI 0 else if M 10 (d * 6 + 1) = r then nI 1 else -1))) M) := by
  refine ⟨?_, ?_⟩
  · intro d r M Q h
    simp (disch := omega) only [s40, j40, c39, xpush_s]
    split
    · rfl
    · split <;> rfl
  · intro d r M Q h
    simp (disch := omega) only [s40, j40, c39, xpush_s]
    split
    · rfl
    · split <;> rfl
end C13
