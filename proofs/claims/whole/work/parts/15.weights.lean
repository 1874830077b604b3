/-! what push and pull weigh by signs -/
def xbs (s k : Nat) : Nat := s / 2 ^ k % 2
theorem xbs01 (s k : Nat) : xbs s k = 0 ∨ xbs s k = 1 := by
  unfold xbs
  omega
theorem xbq : ∀ s, s < 64 → ∀ k, k < 6 → ((nI s &&& nI (2 ^ k)) = nI 0 ↔ xbs s k = 0) := by decide +kernel
def xsc (s p r : Nat) (M : xM) : xM := xset M s (fun j => if j = 0 then nI p else if j = 1 then nI r else M s j)
theorem xsc_0 (s p r : Nat) (M : xM) : xsc s p r M s 0 = nI p := by simp [xsc, xset]
theorem xsc_1 (s p r : Nat) (M : xM) : xsc s p r M s 1 = nI r := by simp [xsc, xset]
theorem xsc_j {s p r j : Nat} {M : xM} (h : 2 ≤ j) : xsc s p r M s j = M s j := by
  simp [xsc, xset, show j ≠ 0 by omega, show j ≠ 1 by omega]
theorem xsc_o {s a p r : Nat} {M : xM} (h : a ≠ s) : xsc s p r M a = M a := by simp [xsc, xset, h]
theorem xsc_u0 (s p r q : Nat) (M : xM) : xup (xsc s p r M) s 0 (nI q) = xsc s q r M := by
  funext b
  by_cases h : b = s
  · subst h
    funext j
    simp only [xup, xsc, xset, upd, if_true]
    by_cases hj : j = 0
    · subst hj; simp
    · simp [hj]
  · simp [xup, xsc, xset, h]
theorem xsc_u1 (s p r q : Nat) (M : xM) : xup (xsc s p r M) s 1 (nI q) = xsc s p q M := by
  funext b
  by_cases h : b = s
  · subst h
    funext j
    simp only [xup, xsc, xset, upd, if_true]
    by_cases hj : j = 0
    · subst hj; simp
    · by_cases hj1 : j = 1
      · subst hj1; simp
      · simp [hj, hj1]
  · simp [xup, xsc, xset, h]
theorem xsc_in (s p r : Nat) (M : xM) : xup (xup M s 0 (nI p)) s 1 (nI r) = xsc s p r M := by
  funext b
  by_cases h : b = s
  · subst h
    funext j
    simp only [xup, xsc, xset, upd, if_true]
    by_cases hj : j = 0
    · subst hj; simp
    · by_cases hj1 : j = 1
      · subst hj1; simp
      · simp [hj, hj1]
  · simp [xup, xsc, xset, h]
theorem xsc_fr {s p r : Nat} {M : xM} : xfr s s M (xsc s p r M) := fun a q => xsc_o (by omega)
def xSP (h : Nat → Nat) (w mine other : Nat) : Nat := xbs mine 1 * h 147 + xbs mine 2 * h 148 + (if w = 0 then xbs mine 4 * h 149 else 0) + xbs mine 5 * (xbs other 2 * (h 148 / 2))
def xSQ (h : Nat → Nat) (w mine other : Nat) : Nat := xbs mine 0 * h 146 + xbs mine 3 * h 148 + (if w = 1 then xbs mine 4 * h 149 else 0) + xbs mine 5 * (xbs other 3 * (h 148 / 2))
def xDo (h : Nat → Nat) (M : xM) : Prop := ∀ j, j < 10 → M 13 j = nI (h (146 + j))
section C15
variable {M : xM} {Q : Option Value → xM → Prop} {h : Nat → Nat}
theorem c49_33 {u m p r : Nat} (hu : u < 2 ^ 31) : xW xSC 49 0 [.ref 33, .int (nI u), .int (nI m)] [] (xsc 33 p r M) Q = Q none (xsc 33 (if u = 0 then p + m else p) (if u = 1 then r + m else r) M) := by
  simp (disch := omega) only [s49, nI_eq]
  by_cases h0 : u = 0
  · subst h0
    simp only [if_true, xsc_0, nI_add, xsc_u0, s49, j49, if_neg (show ¬ (0 : Nat) = 1 by decide)]
  · by_cases h1 : u = 1
    · subst h1
      simp only [if_true, xsc_1, nI_add, xsc_u1, s49, j49, if_neg (show ¬ (1 : Nat) = 0 by decide)]
    · simp only [if_neg h0, if_neg h1, s49, j49]
theorem c48_33 {sg m p r : Nat} (hs : sg < 64) : xW xSC 48 0 [.ref 33, .int (nI sg), .int (nI m)] [] (xsc 33 p r M) Q = Q none (xsc 33 (p + xbs sg 2 * m) (r + xbs sg 3 * m) M) := by
  have e2 : ((nI sg &&& nI 4) = nI 0) = (xbs sg 2 = 0) := propext (xbq sg hs 2 (by decide))
  have e3 : ((nI sg &&& nI 8) = nI 0) = (xbs sg 3 = 0) := propext (xbq sg hs 3 (by decide))
  rcases xbs01 sg 2 with b2 | b2 <;> rcases xbs01 sg 3 with b3 | b3 <;> simp (disch := omega) only [s48, j48, e2, e3, b2, b3, if_true, if_false, c49_33, xpush_n, Nat.zero_mul, Nat.one_mul, Nat.add_zero, Nat.one_ne_zero, Nat.zero_ne_one]
theorem c45b_33 {w mine other p r : Nat} (hD : xDo h M) (hw : w < 3) (hm : mine < 64) (ho : other < 64) (hb : h 148 < 2 ^ 31) : xW xSC 45 10 [.ref 33, .ref 9, .int (nI w), .int (nI mine), .int (nI other), .null] [] (xsc 33 p r M) Q = Q none (xsc 33 (p + xSP h w mine other) (r + xSQ h w mine other) M) := by
  have d0 : M 13 0 = nI (h 146) := hD 0 (by decide)
  have d1 : M 13 1 = nI (h 147) := hD 1 (by decide)
  have d2 : M 13 2 = nI (h 148) := hD 2 (by decide)
  have d3 : M 13 3 = nI (h 149) := hD 3 (by decide)
  have eo : ∀ p r, xsc 33 p r M 13 = M 13 := fun p r => xsc_o (by decide)
  have b0 : ((nI mine &&& nI 1) = nI 0) = (xbs mine 0 = 0) := propext (xbq mine hm 0 (by decide))
  have b1 : ((nI mine &&& nI 2) = nI 0) = (xbs mine 1 = 0) := propext (xbq mine hm 1 (by decide))
  have b4 : ((nI mine &&& nI 16) = nI 0) = (xbs mine 4 = 0) := propext (xbq mine hm 4 (by decide))
  have b5 : ((nI mine &&& nI 32) = nI 0) = (xbs mine 5 = 0) := propext (xbq mine hm 5 (by decide))
  have eE : ∀ p r, xW xSC 45 73 [.ref 33, .ref 9, .int (nI w), .int (nI mine), .int (nI other), .int (nI (h 148))] [] (xsc 33 p r M) Q = Q none (xsc 33 (p + xbs mine 5 * (xbs other 2 * (h 148 / 2))) (r + xbs mine 5 * (xbs other 3 * (h 148 / 2))) M) := by
    intro p r
    rw [h45_73]
    rcases xbs01 mine 5 with q | q <;> simp (disch := omega) only [s45, j45, b5, q, if_true, if_false, Nat.one_ne_zero, pk_div, c48_33, xpush_n, Nat.zero_mul, Nat.one_mul, Nat.add_zero]
  have eC : ∀ p r, xW xSC 45 49 [.ref 33, .ref 9, .int (nI w), .int (nI mine), .int (nI other), .int (nI (h 148))] [] (xsc 33 p r M) Q = xW xSC 45 73 [.ref 33, .ref 9, .int (nI w), .int (nI mine), .int (nI other), .int (nI (h 148))] [] (xsc 33 (p + xbs mine 2 * h 148 + (if w = 0 then xbs mine 4 * h 149 else 0)) (r + xbs mine 3 * h 148 + (if w = 1 then xbs mine 4 * h 149 else 0)) M) Q := by
    intro p r
    rw [h45_49]
    rcases xbs01 mine 4 with q | q
    · simp (disch := omega) only [s45, c48_33, xpush_n, b4, q, if_true, Nat.zero_mul, ite_self, Nat.add_zero]
    · simp (disch := omega) only [s45, c48_33, xpush_n, b4, q, if_false, Nat.one_ne_zero, c34, eo, d3, xpush_s, c49_33, Nat.one_mul]
      rcases (show w = 0 ∨ w = 1 ∨ w = 2 by omega) with rfl | rfl | rfl <;> simp
  have eB : ∀ p r, xW xSC 45 33 [.ref 33, .ref 9, .int (nI w), .int (nI mine), .int (nI other), .int (nI (h 148))] [] (xsc 33 p r M) Q = xW xSC 45 49 [.ref 33, .ref 9, .int (nI w), .int (nI mine), .int (nI other), .int (nI (h 148))] [] (xsc 33 (p + xbs mine 1 * h 147) r M) Q := by
    intro p r
    rw [h45_33]
    rcases xbs01 mine 1 with q | q
    · simp (disch := omega) only [s45, b1, q, if_true, Nat.zero_mul, Nat.add_zero]
    · simp (disch := omega) only [s45, b1, q, if_false, Nat.one_ne_zero, c34, eo, d1, xpush_s, xpush_n, c49_33, Nat.one_mul, if_true, Nat.zero_ne_one]
  have eA : ∀ p r, xW xSC 45 17 [.ref 33, .ref 9, .int (nI w), .int (nI mine), .int (nI other), .int (nI (h 148))] [] (xsc 33 p r M) Q = xW xSC 45 33 [.ref 33, .ref 9, .int (nI w), .int (nI mine), .int (nI other), .int (nI (h 148))] [] (xsc 33 p (r + xbs mine 0 * h 146) M) Q := by
    intro p r
    rcases xbs01 mine 0 with q | q
    · simp (disch := omega) only [s45, b0, q, if_true, Nat.zero_mul, Nat.add_zero]
    · simp (disch := omega) only [s45, b0, q, if_false, Nat.one_ne_zero, c34, eo, d0, xpush_s, xpush_n, c49_33, Nat.one_mul, if_true]
  have eZ : xW xSC 45 10 [.ref 33, .ref 9, .int (nI w), .int (nI mine), .int (nI other), .null] [] (xsc 33 p r M) Q = xW xSC 45 17 [.ref 33, .ref 9, .int (nI w), .int (nI mine), .int (nI other), .int (nI (h 148))] [] (xsc 33 p r M) Q := by
    simp (disch := omega) only [s45, c34, eo, d2, xpush_s, b0]
  rw [eZ, eA, eB, eC, eE]
  congr 2
  · unfold xSP
    omega
  · unfold xSQ
    omega
theorem c49_35 {u m p r : Nat} (hu : u < 2 ^ 31) : xW xSC 49 0 [.ref 35, .int (nI u), .int (nI m)] [] (xsc 35 p r M) Q = Q none (xsc 35 (if u = 0 then p + m else p) (if u = 1 then r + m else r) M) := by
  simp (disch := omega) only [s49, nI_eq]
  by_cases h0 : u = 0
  · subst h0
    simp only [if_true, xsc_0, nI_add, xsc_u0, s49, j49, if_neg (show ¬ (0 : Nat) = 1 by decide)]
  · by_cases h1 : u = 1
    · subst h1
      simp only [if_true, xsc_1, nI_add, xsc_u1, s49, j49, if_neg (show ¬ (1 : Nat) = 0 by decide)]
    · simp only [if_neg h0, if_neg h1, s49, j49]
theorem c48_35 {sg m p r : Nat} (hs : sg < 64) : xW xSC 48 0 [.ref 35, .int (nI sg), .int (nI m)] [] (xsc 35 p r M) Q = Q none (xsc 35 (p + xbs sg 2 * m) (r + xbs sg 3 * m) M) := by
  have e2 : ((nI sg &&& nI 4) = nI 0) = (xbs sg 2 = 0) := propext (xbq sg hs 2 (by decide))
  have e3 : ((nI sg &&& nI 8) = nI 0) = (xbs sg 3 = 0) := propext (xbq sg hs 3 (by decide))
  rcases xbs01 sg 2 with b2 | b2 <;> rcases xbs01 sg 3 with b3 | b3 <;> simp (disch := omega) only [s48, j48, e2, e3, b2, b3, if_true, if_false, c49_35, xpush_n, Nat.zero_mul, Nat.one_mul, Nat.add_zero, Nat.one_ne_zero, Nat.zero_ne_one]
theorem c45b_35 {w mine other p r : Nat} (hD : xDo h M) (hw : w < 3) (hm : mine < 64) (ho : other < 64) (hb : h 148 < 2 ^ 31) : xW xSC 45 10 [.ref 35, .ref 9, .int (nI w), .int (nI mine), .int (nI other), .null] [] (xsc 35 p r M) Q = Q none (xsc 35 (p + xSP h w mine other) (r + xSQ h w mine other) M) := by
  have d0 : M 13 0 = nI (h 146) := hD 0 (by decide)
  have d1 : M 13 1 = nI (h 147) := hD 1 (by decide)
  have d2 : M 13 2 = nI (h 148) := hD 2 (by decide)
  have d3 : M 13 3 = nI (h 149) := hD 3 (by decide)
  have eo : ∀ p r, xsc 35 p r M 13 = M 13 := fun p r => xsc_o (by decide)
  have b0 : ((nI mine &&& nI 1) = nI 0) = (xbs mine 0 = 0) := propext (xbq mine hm 0 (by decide))
  have b1 : ((nI mine &&& nI 2) = nI 0) = (xbs mine 1 = 0) := propext (xbq mine hm 1 (by decide))
  have b4 : ((nI mine &&& nI 16) = nI 0) = (xbs mine 4 = 0) := propext (xbq mine hm 4 (by decide))
  have b5 : ((nI mine &&& nI 32) = nI 0) = (xbs mine 5 = 0) := propext (xbq mine hm 5 (by decide))
  have eE : ∀ p r, xW xSC 45 73 [.ref 35, .ref 9, .int (nI w), .int (nI mine), .int (nI other), .int (nI (h 148))] [] (xsc 35 p r M) Q = Q none (xsc 35 (p + xbs mine 5 * (xbs other 2 * (h 148 / 2))) (r + xbs mine 5 * (xbs other 3 * (h 148 / 2))) M) := by
    intro p r
    rw [h45_73]
    rcases xbs01 mine 5 with q | q <;> simp (disch := omega) only [s45, j45, b5, q, if_true, if_false, Nat.one_ne_zero, pk_div, c48_35, xpush_n, Nat.zero_mul, Nat.one_mul, Nat.add_zero]
  have eC : ∀ p r, xW xSC 45 49 [.ref 35, .ref 9, .int (nI w), .int (nI mine), .int (nI other), .int (nI (h 148))] [] (xsc 35 p r M) Q = xW xSC 45 73 [.ref 35, .ref 9, .int (nI w), .int (nI mine), .int (nI other), .int (nI (h 148))] [] (xsc 35 (p + xbs mine 2 * h 148 + (if w = 0 then xbs mine 4 * h 149 else 0)) (r + xbs mine 3 * h 148 + (if w = 1 then xbs mine 4 * h 149 else 0)) M) Q := by
    intro p r
    rw [h45_49]
    rcases xbs01 mine 4 with q | q
    · simp (disch := omega) only [s45, c48_35, xpush_n, b4, q, if_true, Nat.zero_mul, ite_self, Nat.add_zero]
    · simp (disch := omega) only [s45, c48_35, xpush_n, b4, q, if_false, Nat.one_ne_zero, c34, eo, d3, xpush_s, c49_35, Nat.one_mul]
      rcases (show w = 0 ∨ w = 1 ∨ w = 2 by omega) with rfl | rfl | rfl <;> simp
  have eB : ∀ p r, xW xSC 45 33 [.ref 35, .ref 9, .int (nI w), .int (nI mine), .int (nI other), .int (nI (h 148))] [] (xsc 35 p r M) Q = xW xSC 45 49 [.ref 35, .ref 9, .int (nI w), .int (nI mine), .int (nI other), .int (nI (h 148))] [] (xsc 35 (p + xbs mine 1 * h 147) r M) Q := by
    intro p r
    rw [h45_33]
    rcases xbs01 mine 1 with q | q
    · simp (disch := omega) only [s45, b1, q, if_true, Nat.zero_mul, Nat.add_zero]
    · simp (disch := omega) only [s45, b1, q, if_false, Nat.one_ne_zero, c34, eo, d1, xpush_s, xpush_n, c49_35, Nat.one_mul, if_true, Nat.zero_ne_one]
  have eA : ∀ p r, xW xSC 45 17 [.ref 35, .ref 9, .int (nI w), .int (nI mine), .int (nI other), .int (nI (h 148))] [] (xsc 35 p r M) Q = xW xSC 45 33 [.ref 35, .ref 9, .int (nI w), .int (nI mine), .int (nI other), .int (nI (h 148))] [] (xsc 35 p (r + xbs mine 0 * h 146) M) Q := by
    intro p r
    rcases xbs01 mine 0 with q | q
    · simp (disch := omega) only [s45, b0, q, if_true, Nat.zero_mul, Nat.add_zero]
    · simp (disch := omega) only [s45, b0, q, if_false, Nat.one_ne_zero, c34, eo, d0, xpush_s, xpush_n, c49_35, Nat.one_mul, if_true]
  have eZ : xW xSC 45 10 [.ref 35, .ref 9, .int (nI w), .int (nI mine), .int (nI other), .null] [] (xsc 35 p r M) Q = xW xSC 45 17 [.ref 35, .ref 9, .int (nI w), .int (nI mine), .int (nI other), .int (nI (h 148))] [] (xsc 35 p r M) Q := by
    simp (disch := omega) only [s45, c34, eo, d2, xpush_s, b0]
  rw [eZ, eA, eB, eC, eE]
  congr 2
  · unfold xSP
    omega
  · unfold xSQ
    omega
theorem c49_40 {u m p r : Nat} (hu : u < 2 ^ 31) : xW xSC 49 0 [.ref 40, .int (nI u), .int (nI m)] [] (xsc 40 p r M) Q = Q none (xsc 40 (if u = 0 then p + m else p) (if u = 1 then r + m else r) M) := by
  simp (disch := omega) only [s49, nI_eq]
  by_cases h0 : u = 0
  · subst h0
    simp only [if_true, xsc_0, nI_add, xsc_u0, s49, j49, if_neg (show ¬ (0 : Nat) = 1 by decide)]
  · by_cases h1 : u = 1
    · subst h1
      simp only [if_true, xsc_1, nI_add, xsc_u1, s49, j49, if_neg (show ¬ (1 : Nat) = 0 by decide)]
    · simp only [if_neg h0, if_neg h1, s49, j49]
theorem c48_40 {sg m p r : Nat} (hs : sg < 64) : xW xSC 48 0 [.ref 40, .int (nI sg), .int (nI m)] [] (xsc 40 p r M) Q = Q none (xsc 40 (p + xbs sg 2 * m) (r + xbs sg 3 * m) M) := by
  have e2 : ((nI sg &&& nI 4) = nI 0) = (xbs sg 2 = 0) := propext (xbq sg hs 2 (by decide))
  have e3 : ((nI sg &&& nI 8) = nI 0) = (xbs sg 3 = 0) := propext (xbq sg hs 3 (by decide))
  rcases xbs01 sg 2 with b2 | b2 <;> rcases xbs01 sg 3 with b3 | b3 <;> simp (disch := omega) only [s48, j48, e2, e3, b2, b3, if_true, if_false, c49_40, xpush_n, Nat.zero_mul, Nat.one_mul, Nat.add_zero, Nat.one_ne_zero, Nat.zero_ne_one]
theorem c45b_40 {w mine other p r : Nat} (hD : xDo h M) (hw : w < 3) (hm : mine < 64) (ho : other < 64) (hb : h 148 < 2 ^ 31) : xW xSC 45 10 [.ref 40, .ref 9, .int (nI w), .int (nI mine), .int (nI other), .null] [] (xsc 40 p r M) Q = Q none (xsc 40 (p + xSP h w mine other) (r + xSQ h w mine other) M) := by
  have d0 : M 13 0 = nI (h 146) := hD 0 (by decide)
  have d1 : M 13 1 = nI (h 147) := hD 1 (by decide)
  have d2 : M 13 2 = nI (h 148) := hD 2 (by decide)
  have d3 : M 13 3 = nI (h 149) := hD 3 (by decide)
  have eo : ∀ p r, xsc 40 p r M 13 = M 13 := fun p r => xsc_o (by decide)
  have b0 : ((nI mine &&& nI 1) = nI 0) = (xbs mine 0 = 0) := propext (xbq mine hm 0 (by decide))
  have b1 : ((nI mine &&& nI 2) = nI 0) = (xbs mine 1 = 0) := propext (xbq mine hm 1 (by decide))
  have b4 : ((nI mine &&& nI 16) = nI 0) = (xbs mine 4 = 0) := propext (xbq mine hm 4 (by decide))
  have b5 : ((nI mine &&& nI 32) = nI 0) = (xbs mine 5 = 0) := propext (xbq mine hm 5 (by decide))
  have eE : ∀ p r, xW xSC 45 73 [.ref 40, .ref 9, .int (nI w), .int (nI mine), .int (nI other), .int (nI (h 148))] [] (xsc 40 p r M) Q = Q none (xsc 40 (p + xbs mine 5 * (xbs other 2 * (h 148 / 2))) (r + xbs mine 5 * (xbs other 3 * (h 148 / 2))) M) := by
    intro p r
    rw [h45_73]
    rcases xbs01 mine 5 with q | q <;> simp (disch := omega) only [s45, j45, b5, q, if_true, if_false, Nat.one_ne_zero, pk_div, c48_40, xpush_n, Nat.zero_mul, Nat.one_mul, Nat.add_zero]
  have eC : ∀ p r, xW xSC 45 49 [.ref 40, .ref 9, .int (nI w), .int (nI mine), .int (nI other), .int (nI (h 148))] [] (xsc 40 p r M) Q = xW xSC 45 73 [.ref 40, .ref 9, .int (nI w), .int (nI mine), .int (nI other), .int (nI (h 148))] [] (xsc 40 (p + xbs mine 2 * h 148 + (if w = 0 then xbs mine 4 * h 149 else 0)) (r + xbs mine 3 * h 148 + (if w = 1 then xbs mine 4 * h 149 else 0)) M) Q := by
    intro p r
    rw [h45_49]
    rcases xbs01 mine 4 with q | q
    · simp (disch := omega) only [s45, c48_40, xpush_n, b4, q, if_true, Nat.zero_mul, ite_self, Nat.add_zero]
    · simp (disch := omega) only [s45, c48_40, xpush_n, b4, q, if_false, Nat.one_ne_zero, c34, eo, d3, xpush_s, c49_40, Nat.one_mul]
      rcases (show w = 0 ∨ w = 1 ∨ w = 2 by omega) with rfl | rfl | rfl <;> simp
  have eB : ∀ p r, xW xSC 45 33 [.ref 40, .ref 9, .int (nI w), .int (nI mine), .int (nI other), .int (nI (h 148))] [] (xsc 40 p r M) Q = xW xSC 45 49 [.ref 40, .ref 9, .int (nI w), .int (nI mine), .int (nI other), .int (nI (h 148))] [] (xsc 40 (p + xbs mine 1 * h 147) r M) Q := by
    intro p r
    rw [h45_33]
    rcases xbs01 mine 1 with q | q
    · simp (disch := omega) only [s45, b1, q, if_true, Nat.zero_mul, Nat.add_zero]
    · simp (disch := omega) only [s45, b1, q, if_false, Nat.one_ne_zero, c34, eo, d1, xpush_s, xpush_n, c49_40, Nat.one_mul, if_true, Nat.zero_ne_one]
  have eA : ∀ p r, xW xSC 45 17 [.ref 40, .ref 9, .int (nI w), .int (nI mine), .int (nI other), .int (nI (h 148))] [] (xsc 40 p r M) Q = xW xSC 45 33 [.ref 40, .ref 9, .int (nI w), .int (nI mine), .int (nI other), .int (nI (h 148))] [] (xsc 40 p (r + xbs mine 0 * h 146) M) Q := by
    intro p r
    rcases xbs01 mine 0 with q | q
    · simp (disch := omega) only [s45, b0, q, if_true, Nat.zero_mul, Nat.add_zero]
    · simp (disch := omega) only [s45, b0, q, if_false, Nat.one_ne_zero, c34, eo, d0, xpush_s, xpush_n, c49_40, Nat.one_mul, if_true]
  have eZ : xW xSC 45 10 [.ref 40, .ref 9, .int (nI w), .int (nI mine), .int (nI other), .null] [] (xsc 40 p r M) Q = xW xSC 45 17 [.ref 40, .ref 9, .int (nI w), .int (nI mine), .int (nI other), .int (nI (h 148))] [] (xsc 40 p r M) Q := by
    simp (disch := omega) only [s45, c34, eo, d2, xpush_s, b0]
  rw [eZ, eA, eB, eC, eE]
  congr 2
  · unfold xSP
    omega
  · unfold xSQ
    omega
theorem c45_33 {w mine other : Nat} (hD : xDo h M) (hw : w < 3) (hm : mine < 64) (ho : other < 64) (hb : h 148 < 2 ^ 31) : xW xSC 45 0 [.ref 33, .ref 9, .int (nI w), .int (nI mine), .int (nI other), .null] [] M Q = Q none (xsc 33 (1 + xSP h w mine other) (1 + xSQ h w mine other) M) := by
  have e : xW xSC 45 10 [.ref 33, .ref 9, .int (nI w), .int (nI mine), .int (nI other), .null] [] (xup (xup M 33 0 (nI 1)) 33 1 (nI 1)) Q = Q none (xsc 33 (1 + xSP h w mine other) (1 + xSQ h w mine other) M) := by
    rw [xsc_in]
    exact c45b_33 hD hw hm ho hb
  refine Eq.trans ?_ e
  simp only [s45]
theorem c45_35 {w mine other : Nat} (hD : xDo h M) (hw : w < 3) (hm : mine < 64) (ho : other < 64) (hb : h 148 < 2 ^ 31) : xW xSC 45 0 [.ref 35, .ref 9, .int (nI w), .int (nI mine), .int (nI other), .null] [] M Q = Q none (xsc 35 (1 + xSP h w mine other) (1 + xSQ h w mine other) M) := by
  have e : xW xSC 45 10 [.ref 35, .ref 9, .int (nI w), .int (nI mine), .int (nI other), .null] [] (xup (xup M 35 0 (nI 1)) 35 1 (nI 1)) Q = Q none (xsc 35 (1 + xSP h w mine other) (1 + xSQ h w mine other) M) := by
    rw [xsc_in]
    exact c45b_35 hD hw hm ho hb
  refine Eq.trans ?_ e
  simp only [s45]
theorem c45_40 {w mine other : Nat} (hD : xDo h M) (hw : w < 3) (hm : mine < 64) (ho : other < 64) (hb : h 148 < 2 ^ 31) : xW xSC 45 0 [.ref 40, .ref 9, .int (nI w), .int (nI mine), .int (nI other), .null] [] M Q = Q none (xsc 40 (1 + xSP h w mine other) (1 + xSQ h w mine other) M) := by
  have e : xW xSC 45 10 [.ref 40, .ref 9, .int (nI w), .int (nI mine), .int (nI other), .null] [] (xup (xup M 40 0 (nI 1)) 40 1 (nI 1)) Q = Q none (xsc 40 (1 + xSP h w mine other) (1 + xSQ h w mine other) M) := by
    rw [xsc_in]
    exact c45b_40 hD hw hm ho hb
  refine Eq.trans ?_ e
  simp only [s45]
end C15
