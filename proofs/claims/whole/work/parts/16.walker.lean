/-! what push and pull weigh for a walker -/
def xWF (h : Nat → Nat) : Prop := (2 ≤ h 0 ∧ h 0 ≤ 8 ∧ h 1 ≤ 8 ∧ h 2 ≤ 5) ∧ (∀ d, d < h 1 → h (3 + (d * 6 + 0)) < h 0 ∧ h (3 + (d * 6 + 1)) < h 0 ∧ h (3 + (d * 6 + 0)) ≠ h (3 + (d * 6 + 1)) ∧ h (3 + (d * 6 + 2)) ≤ 2 ∧ 1 ≤ h (3 + (d * 6 + 3)) ∧ h (3 + (d * 6 + 3)) ≤ 2 ∧ h (3 + (d * 6 + (4 + 0))) < 64 ∧ h (3 + (d * 6 + (4 + 1))) < 64) ∧ (∀ i, i < h 2 → h (51 + (i * 3 + 0)) < h 0 ∧ h (51 + (i * 3 + 1)) ≤ 1 ∧ h (51 + (i * 3 + 2)) ≤ 3) ∧ (∀ j, j < 80 → h (66 + j) ≤ 99) ∧ ∀ j, j < 10 → h (146 + j) ≤ 20
def xwt (w e : Nat) : Nat := if w = 2 then 2 else if w = e then 0 else 1
def xw (h : Nat → Nat) (d e : Nat) : Nat := xwt (h (3 + (d * 6 + 2))) e
def xg (h : Nat → Nat) (d e : Nat) : Nat := h (3 + (d * 6 + (4 + e)))
theorem xwt_lt (w e : Nat) : xwt w e < 3 := by
  unfold xwt
  split
  · omega
  · split <;> omega
theorem xwi_nI {w e : Nat} (hw : w < 2 ^ 31) (he : e < 2 ^ 31) : xwi (nI w) (nI e) = nI (xwt w e) := by
  unfold xwi xwt
  simp only [nI_eq hw (show 2 < 2 ^ 31 by decide), nI_eq hw he]
  split
  · rfl
  · split <;> rfl
theorem xWF.g {h : Nat → Nat} (W : xWF h) {d e : Nat} (hd : d < h 1) (he : e < 2) : xg h d e < 64 := by
  obtain ⟨-, -, -, -, -, -, h7, h8⟩ := W.2.1 d hd
  rcases (show e = 0 ∨ e = 1 by omega) with rfl | rfl
  · exact h7
  · exact h8
theorem shr1 {n : Nat} (h : n < 2 ^ 31) : nI n >>> (nI 1 &&& nI 31) = nI (n / 2) := pk_shrN h (nI 1 &&& nI 31) 1 (by decide)
theorem and1 {n : Nat} (h : n < 2 ^ 32) : nI n &&& nI 1 = nI (n % 2) := pk_andN h 1 (by decide)
/-- what the times gone by do to v, by the sides from 'side' on -/
def xtt (h T : Nat → Nat) (d e v s : Nat) : Nat := if (s / 2 = d ∧ s % 2 = e) ∨ (s / 2 ≠ d ∧ xg h (s / 2) (s % 2) = xg h d e) then (if xw h (s / 2) (s % 2) = v then h 151 * T s else 0) else 0
def xtw (h T : Nat → Nat) (d e v : Nat) : Nat → Nat → Nat
  | _, 0 => 0
  | s, n + 1 => xtt h T d e v s + xtw h T d e v (s + 1) n
def xPP (h T : Nat → Nat) (la d e : Nat) : Nat := 1 + xSP h (xw h d e) (xg h d e) (xg h d (1 - e)) + (if la = 0 then h 150 else 0) + xtw h T d e 0 0 (2 * h 1)
def xQQ (h T : Nat → Nat) (la d e : Nat) : Nat := 1 + xSQ h (xw h d e) (xg h d e) (xg h d (1 - e)) + (if la = 1 then h 150 else 0) + xtw h T d e 1 0 (2 * h 1)
/-- the walker -/
def cK (rm tr la : Nat) (T : Nat → Nat) (M : xM) : Prop := M 31 0 = nI rm ∧ M 31 1 = nI tr ∧ M 31 2 = nI la ∧ ∀ j, j < 16 → M 32 j = nI (T j)
section C16
variable {M : xM} {Q : Option Value → xM → Prop} {h : Nat → Nat}
theorem cH.do {M : xM} (H : cH 9 h M) : xDo h M := H.2.2.2.2
theorem c44_33 {d e : Nat} (H : cH 9 h M) (W : xWF h) (hd : d < h 1) (he : e < 2) : xW xSC 44 0 [.ref 33, .ref 9, .int (nI d), .int (nI e)] [] M Q = Q none (xsc 33 (1 + xSP h (xw h d e) (xg h d e) (xg h d (1 - e))) (1 + xSQ h (xw h d e) (xg h d e) (xg h d (1 - e))) M) := by
  have h8 := W.1.2.2.1
  obtain ⟨-, -, -, hw, -, -, -, -⟩ := W.2.1 d hd
  have m1 : M 10 (d * 6 + (4 + e)) = nI (xg h d e) := H.2.1 _ (by omega)
  have m2 : M 10 (d * 6 + (4 + (1 - e))) = nI (xg h d (1 - e)) := H.2.1 _ (by omega)
  have m3 : M 10 (d * 6 + 2) = nI (h (3 + (d * 6 + 2))) := H.2.1 _ (by omega)
  have m4 : xwi (M 10 (d * 6 + 2)) (nI e) = nI (xw h d e) := by rw [m3]; exact xwi_nI (by omega) (by omega)
  have hb : h 148 ≤ 20 := W.2.2.2.2 2 (by decide)
  simp (disch := omega) only [s44, j44, c37, xpush_s, xpush_n, c36, m4, m1, m2, pk_sub, c45_33 H.do (show xw h d e < 3 from xwt_lt _ _) (W.g hd he) (W.g hd (show 1 - e < 2 by omega)) (show h 148 < 2 ^ 31 by omega)]
theorem c44_35 {d e : Nat} (H : cH 9 h M) (W : xWF h) (hd : d < h 1) (he : e < 2) : xW xSC 44 0 [.ref 35, .ref 9, .int (nI d), .int (nI e)] [] M Q = Q none (xsc 35 (1 + xSP h (xw h d e) (xg h d e) (xg h d (1 - e))) (1 + xSQ h (xw h d e) (xg h d e) (xg h d (1 - e))) M) := by
  have h8 := W.1.2.2.1
  obtain ⟨-, -, -, hw, -, -, -, -⟩ := W.2.1 d hd
  have m1 : M 10 (d * 6 + (4 + e)) = nI (xg h d e) := H.2.1 _ (by omega)
  have m2 : M 10 (d * 6 + (4 + (1 - e))) = nI (xg h d (1 - e)) := H.2.1 _ (by omega)
  have m3 : M 10 (d * 6 + 2) = nI (h (3 + (d * 6 + 2))) := H.2.1 _ (by omega)
  have m4 : xwi (M 10 (d * 6 + 2)) (nI e) = nI (xw h d e) := by rw [m3]; exact xwi_nI (by omega) (by omega)
  have hb : h 148 ≤ 20 := W.2.2.2.2 2 (by decide)
  simp (disch := omega) only [s44, j44, c37, xpush_s, xpush_n, c36, m4, m1, m2, pk_sub, c45_35 H.do (show xw h d e < 3 from xwt_lt _ _) (W.g hd he) (W.g hd (show 1 - e < 2 by omega)) (show h 148 < 2 ^ 31 by omega)]
theorem c44_40 {d e : Nat} (H : cH 9 h M) (W : xWF h) (hd : d < h 1) (he : e < 2) : xW xSC 44 0 [.ref 40, .ref 9, .int (nI d), .int (nI e)] [] M Q = Q none (xsc 40 (1 + xSP h (xw h d e) (xg h d e) (xg h d (1 - e))) (1 + xSQ h (xw h d e) (xg h d e) (xg h d (1 - e))) M) := by
  have h8 := W.1.2.2.1
  obtain ⟨-, -, -, hw, -, -, -, -⟩ := W.2.1 d hd
  have m1 : M 10 (d * 6 + (4 + e)) = nI (xg h d e) := H.2.1 _ (by omega)
  have m2 : M 10 (d * 6 + (4 + (1 - e))) = nI (xg h d (1 - e)) := H.2.1 _ (by omega)
  have m3 : M 10 (d * 6 + 2) = nI (h (3 + (d * 6 + 2))) := H.2.1 _ (by omega)
  have m4 : xwi (M 10 (d * 6 + 2)) (nI e) = nI (xw h d e) := by rw [m3]; exact xwi_nI (by omega) (by omega)
  have hb : h 148 ≤ 20 := W.2.2.2.2 2 (by decide)
  simp (disch := omega) only [s44, j44, c37, xpush_s, xpush_n, c36, m4, m1, m2, pk_sub, c45_40 H.do (show xw h d e < 3 from xwt_lt _ _) (W.g hd he) (W.g hd (show 1 - e < 2 by omega)) (show h 148 < 2 ^ 31 by omega)]
theorem c43_33 {d e rm tr la : Nat} {T : Nat → Nat} (H : cH 9 h M) (K : cK rm tr la T M) (W : xWF h) (hd : d < h 1) (he : e < 2) (hl : la ≤ 3) (hT : ∀ j, j < 16 → T j ≤ 99) : xW xSC 43 0 [.ref 33, .ref 9, .ref 31, .int (nI d), .int (nI e), .null, .null, .null, .null, .null, .null, .null, .null] [] M Q = Q none (xsc 33 (xPP h T la d e) (xQQ h T la d e) M) := by
  have h8 := W.1.2.2.1
  obtain ⟨k1, k2, k3, k4⟩ := K
  have e9 : ∀ p r, xsc 33 p r M 9 = M 9 := fun p r => xsc_o (by decide)
  have e10 : ∀ p r, xsc 33 p r M 10 = M 10 := fun p r => xsc_o (by decide)
  have e13 : ∀ p r, xsc 33 p r M 13 = M 13 := fun p r => xsc_o (by decide)
  have e31 : ∀ p r, xsc 33 p r M 31 = M 31 := fun p r => xsc_o (by decide)
  have e32 : ∀ p r, xsc 33 p r M 32 = M 32 := fun p r => xsc_o (by decide)
  have d4 : M 13 4 = nI (h 150) := H.do 4 (by decide)
  have d5 : M 13 5 = nI (h 151) := H.do 5 (by decide)
  have n1 : M 9 1 = nI (h 1) := H.1.2.1
  have mg : M 10 (d * 6 + (4 + e)) = nI (xg h d e) := H.2.1 _ (by omega)
  have gl := W.g hd he
  have mh : M 10 (d * 6 + (4 + (1 - e))) = nI (xg h d (1 - e)) := H.2.1 _ (by omega)
  have mi : M 10 (d * 6 + 2) = nI (h (3 + (d * 6 + 2))) := H.2.1 _ (by omega)
  have hb : h 148 ≤ 20 := W.2.2.2.2 2 (by decide)
  have mw : xwi (M 10 (d * 6 + 2)) (nI e) = nI (xw h d e) := by
    obtain ⟨-, -, -, hw, -, -, -, -⟩ := W.2.1 d hd
    rw [mi]
    exact xwi_nI (by omega) (by omega)
  have key : ∀ (n side p r : Nat) (a8 a9 a10 a11 a12 : Value), side + n = 2 * h 1 → xW xSC 43 55 [.ref 33, .ref 9, .ref 31, .int (nI d), .int (nI e), .int (nI (xg h d e)), .int (nI (h 151)), .int (nI side), a8, a9, a10, a11, a12] [] (xsc 33 p r M) Q = Q none (xsc 33 (p + xtw h T d e 0 side n) (r + xtw h T d e 1 side n) M) := by
    intro n
    induction n with
    | zero =>
      intro side p r a8 a9 a10 a11 a12 hs
      rw [h43_55]
      simp (disch := omega) only [s43, e9, n1, pk_mul, nI_lt_f, if_false, j43, xtw, Nat.add_zero]
    | succ n ih =>
      intro side p r a8 a9 a10 a11 a12 hs
      have hq : side / 2 < h 1 := by omega
      have hr : side % 2 < 2 := by omega
      have m1 : M 10 (side / 2 * 6 + (4 + side % 2)) = nI (xg h (side / 2) (side % 2)) := H.2.1 _ (by omega)
      have m3 : M 10 (side / 2 * 6 + 2) = nI (h (3 + (side / 2 * 6 + 2))) := H.2.1 _ (by omega)
      obtain ⟨-, -, -, hw, -, -, -, -⟩ := W.2.1 (side / 2) hq
      have m4 : xwi (nI (h (3 + (side / 2 * 6 + 2)))) (nI (side % 2)) = nI (xw h (side / 2) (side % 2)) := xwi_nI (by omega) (by omega)
      have hu : xw h (side / 2) (side % 2) < 3 := xwt_lt _ _
      have mt : M 32 side = nI (T side) := k4 side (by omega)
      have t99 := hT side (by omega)
      have g2 := W.g hq hr
      have f1 : (nI (side / 2) = nI d) = (side / 2 = d) := propext (nI_eq (by omega) (by omega))
      have f2 : (nI (side % 2) = nI e) = (side % 2 = e) := propext (nI_eq (by omega) (by omega))
      have f3 : (nI (xg h (side / 2) (side % 2)) = nI (xg h d e)) = (xg h (side / 2) (side % 2) = xg h d e) := propext (nI_eq (by omega) (by omega))
      have f4 : (nI 0 < nI (T side)) = (0 < T side) := propext (nI_ltI (by omega) (by omega))
      have z1 : (nI 1 = nI 0) = False := nI_eq_f (by decide) (by decide) (by decide)
      have st : ∀ v, xtw h T d e v side (n + 1) = xtt h T d e v side + xtw h T d e v (side + 1) n := fun v => rfl
      rw [h43_55]
      have z2 : (nI 0 = nI 0) = True := nI_eq_t rfl
      have fin : ∀ (b : Nat → Nat) (p' r' : Nat) (c8 c9 c10 c11 c12 : Value), (∀ v, xtt h T d e v side = b v) → p' = p + b 0 → r' = r + b 1 → xW xSC 43 55 [.ref 33, .ref 9, .ref 31, .int (nI d), .int (nI e), .int (nI (xg h d e)), .int (nI (h 151)), .int (nI (side + 1)), c8, c9, c10, c11, c12] [] (xsc 33 p' r' M) Q = Q none (xsc 33 (p + xtw h T d e 0 side (n + 1)) (r + xtw h T d e 1 side (n + 1)) M) := by
        intro b p' r' c8 c9 c10 c11 c12 hb hp hr
        rw [ih (side + 1) p' r' c8 c9 c10 c11 c12 (by omega), st 0, st 1, hb 0, hb 1, hp, hr, Nat.add_assoc, Nat.add_assoc]
      have yes : ((side / 2 = d ∧ side % 2 = e) ∨ (side / 2 ≠ d ∧ xg h (side / 2) (side % 2) = xg h d e)) → ∀ v, xtt h T d e v side = (if xw h (side / 2) (side % 2) = v then h 151 * T side else 0) := fun q v => by
        unfold xtt
        rw [if_pos q]
      have no : ¬ ((side / 2 = d ∧ side % 2 = e) ∨ (side / 2 ≠ d ∧ xg h (side / 2) (side % 2) = xg h d e)) → ∀ v, xtt h T d e v side = 0 := fun q v => by
        unfold xtt
        rw [if_neg q]
      have zero : ¬ 0 < T side → ∀ v, xtt h T d e v side = 0 := fun q v => by
        unfold xtt
        rw [show T side = 0 by omega]
        simp
      by_cases q4 : 0 < T side
      · have f4 : (nI 0 < nI (T side)) = True := by rw [f4]; exact eq_true q4
        by_cases q1 : side / 2 = d
        · have f1 : (nI (side / 2) = nI d) = True := by rw [f1]; exact eq_true q1
          by_cases q2 : side % 2 = e
          · have f2 : (nI (side % 2) = nI e) = True := by rw [f2]; exact eq_true q2
            simp (disch := omega) only [s43, j43, e9, e10, e13, e32, n1, pk_mul, nI_lt_t, if_true, cG, xpush_s, xpush_n, shr1, and1, f1, f2, f3, mt, f4, z1, if_false, c37, c36, m3, m1, m4, c49_33, nI_add, z2]
            exact fin _ _ _ _ _ _ _ _ (yes (Or.inl ⟨q1, q2⟩)) (by split <;> omega) (by split <;> omega)
          · have f2 : (nI (side % 2) = nI e) = False := by rw [f2]; exact eq_false q2
            simp (disch := omega) only [s43, j43, e9, e10, e13, e32, n1, pk_mul, nI_lt_t, if_true, cG, xpush_s, xpush_n, shr1, and1, f1, f2, f3, mt, f4, z1, if_false, c37, c36, m3, m1, m4, c49_33, nI_add, z2]
            exact fin _ _ _ _ _ _ _ _ (no (by omega)) (by omega) (by omega)
        · have f1 : (nI (side / 2) = nI d) = False := by rw [f1]; exact eq_false q1
          by_cases q3 : xg h (side / 2) (side % 2) = xg h d e
          · have f3 : (nI (xg h (side / 2) (side % 2)) = nI (xg h d e)) = True := by rw [f3]; exact eq_true q3
            simp (disch := omega) only [s43, j43, e9, e10, e13, e32, n1, pk_mul, nI_lt_t, if_true, cG, xpush_s, xpush_n, shr1, and1, f1, f2, f3, mt, f4, z1, if_false, c37, c36, m3, m1, m4, c49_33, nI_add, z2]
            exact fin _ _ _ _ _ _ _ _ (yes (Or.inr ⟨q1, q3⟩)) (by split <;> omega) (by split <;> omega)
          · have f3 : (nI (xg h (side / 2) (side % 2)) = nI (xg h d e)) = False := by rw [f3]; exact eq_false q3
            simp (disch := omega) only [s43, j43, e9, e10, e13, e32, n1, pk_mul, nI_lt_t, if_true, cG, xpush_s, xpush_n, shr1, and1, f1, f2, f3, mt, f4, z1, if_false, c37, c36, m3, m1, m4, c49_33, nI_add, z2]
            exact fin _ _ _ _ _ _ _ _ (no (by omega)) (by omega) (by omega)
      · have f4 : (nI 0 < nI (T side)) = False := by rw [f4]; exact eq_false q4
        by_cases q1 : side / 2 = d
        · have f1 : (nI (side / 2) = nI d) = True := by rw [f1]; exact eq_true q1
          by_cases q2 : side % 2 = e
          · have f2 : (nI (side % 2) = nI e) = True := by rw [f2]; exact eq_true q2
            simp (disch := omega) only [s43, j43, e9, e10, e13, e32, n1, pk_mul, nI_lt_t, if_true, cG, xpush_s, xpush_n, shr1, and1, f1, f2, f3, mt, f4, z1, if_false, c37, c36, m3, m1, m4, c49_33, nI_add, z2]
            exact fin _ _ _ _ _ _ _ _ (zero q4) (by omega) (by omega)
          · have f2 : (nI (side % 2) = nI e) = False := by rw [f2]; exact eq_false q2
            simp (disch := omega) only [s43, j43, e9, e10, e13, e32, n1, pk_mul, nI_lt_t, if_true, cG, xpush_s, xpush_n, shr1, and1, f1, f2, f3, mt, f4, z1, if_false, c37, c36, m3, m1, m4, c49_33, nI_add, z2]
            exact fin _ _ _ _ _ _ _ _ (zero q4) (by omega) (by omega)
        · have f1 : (nI (side / 2) = nI d) = False := by rw [f1]; exact eq_false q1
          by_cases q3 : xg h (side / 2) (side % 2) = xg h d e
          · have f3 : (nI (xg h (side / 2) (side % 2)) = nI (xg h d e)) = True := by rw [f3]; exact eq_true q3
            simp (disch := omega) only [s43, j43, e9, e10, e13, e32, n1, pk_mul, nI_lt_t, if_true, cG, xpush_s, xpush_n, shr1, and1, f1, f2, f3, mt, f4, z1, if_false, c37, c36, m3, m1, m4, c49_33, nI_add, z2]
            exact fin _ _ _ _ _ _ _ _ (zero q4) (by omega) (by omega)
          · have f3 : (nI (xg h (side / 2) (side % 2)) = nI (xg h d e)) = False := by rw [f3]; exact eq_false q3
            simp (disch := omega) only [s43, j43, e9, e10, e13, e32, n1, pk_mul, nI_lt_t, if_true, cG, xpush_s, xpush_n, shr1, and1, f1, f2, f3, mt, f4, z1, if_false, c37, c36, m3, m1, m4, c49_33, nI_add, z2]
            exact fin _ _ _ _ _ _ _ _ (zero q4) (by omega) (by omega)
  simp (disch := omega) only [s43, c36, c37, mg, mh, mw, pk_sub, c45_33 H.do (show xw h d e < 3 from xwt_lt _ _) gl (W.g hd (show 1 - e < 2 by omega)) (show h 148 < 2 ^ 31 by omega), xpush_n, xpush_s, e9, e31, e13, e10, k3, c34, d4, d5, c49_33]
  rw [key (2 * h 1) 0 _ _ _ _ _ _ _ (by omega)]
  congr 2
  · unfold xPP
    split <;> omega
  · unfold xQQ
    split <;> omega
theorem c43_35 {d e rm tr la : Nat} {T : Nat → Nat} (H : cH 9 h M) (K : cK rm tr la T M) (W : xWF h) (hd : d < h 1) (he : e < 2) (hl : la ≤ 3) (hT : ∀ j, j < 16 → T j ≤ 99) : xW xSC 43 0 [.ref 35, .ref 9, .ref 31, .int (nI d), .int (nI e), .null, .null, .null, .null, .null, .null, .null, .null] [] M Q = Q none (xsc 35 (xPP h T la d e) (xQQ h T la d e) M) := by
  have h8 := W.1.2.2.1
  obtain ⟨k1, k2, k3, k4⟩ := K
  have e9 : ∀ p r, xsc 35 p r M 9 = M 9 := fun p r => xsc_o (by decide)
  have e10 : ∀ p r, xsc 35 p r M 10 = M 10 := fun p r => xsc_o (by decide)
  have e13 : ∀ p r, xsc 35 p r M 13 = M 13 := fun p r => xsc_o (by decide)
  have e31 : ∀ p r, xsc 35 p r M 31 = M 31 := fun p r => xsc_o (by decide)
  have e32 : ∀ p r, xsc 35 p r M 32 = M 32 := fun p r => xsc_o (by decide)
  have d4 : M 13 4 = nI (h 150) := H.do 4 (by decide)
  have d5 : M 13 5 = nI (h 151) := H.do 5 (by decide)
  have n1 : M 9 1 = nI (h 1) := H.1.2.1
  have mg : M 10 (d * 6 + (4 + e)) = nI (xg h d e) := H.2.1 _ (by omega)
  have gl := W.g hd he
  have mh : M 10 (d * 6 + (4 + (1 - e))) = nI (xg h d (1 - e)) := H.2.1 _ (by omega)
  have mi : M 10 (d * 6 + 2) = nI (h (3 + (d * 6 + 2))) := H.2.1 _ (by omega)
  have hb : h 148 ≤ 20 := W.2.2.2.2 2 (by decide)
  have mw : xwi (M 10 (d * 6 + 2)) (nI e) = nI (xw h d e) := by
    obtain ⟨-, -, -, hw, -, -, -, -⟩ := W.2.1 d hd
    rw [mi]
    exact xwi_nI (by omega) (by omega)
  have key : ∀ (n side p r : Nat) (a8 a9 a10 a11 a12 : Value), side + n = 2 * h 1 → xW xSC 43 55 [.ref 35, .ref 9, .ref 31, .int (nI d), .int (nI e), .int (nI (xg h d e)), .int (nI (h 151)), .int (nI side), a8, a9, a10, a11, a12] [] (xsc 35 p r M) Q = Q none (xsc 35 (p + xtw h T d e 0 side n) (r + xtw h T d e 1 side n) M) := by
    intro n
    induction n with
    | zero =>
      intro side p r a8 a9 a10 a11 a12 hs
      rw [h43_55]
      simp (disch := omega) only [s43, e9, n1, pk_mul, nI_lt_f, if_false, j43, xtw, Nat.add_zero]
    | succ n ih =>
      intro side p r a8 a9 a10 a11 a12 hs
      have hq : side / 2 < h 1 := by omega
      have hr : side % 2 < 2 := by omega
      have m1 : M 10 (side / 2 * 6 + (4 + side % 2)) = nI (xg h (side / 2) (side % 2)) := H.2.1 _ (by omega)
      have m3 : M 10 (side / 2 * 6 + 2) = nI (h (3 + (side / 2 * 6 + 2))) := H.2.1 _ (by omega)
      obtain ⟨-, -, -, hw, -, -, -, -⟩ := W.2.1 (side / 2) hq
      have m4 : xwi (nI (h (3 + (side / 2 * 6 + 2)))) (nI (side % 2)) = nI (xw h (side / 2) (side % 2)) := xwi_nI (by omega) (by omega)
      have hu : xw h (side / 2) (side % 2) < 3 := xwt_lt _ _
      have mt : M 32 side = nI (T side) := k4 side (by omega)
      have t99 := hT side (by omega)
      have g2 := W.g hq hr
      have f1 : (nI (side / 2) = nI d) = (side / 2 = d) := propext (nI_eq (by omega) (by omega))
      have f2 : (nI (side % 2) = nI e) = (side % 2 = e) := propext (nI_eq (by omega) (by omega))
      have f3 : (nI (xg h (side / 2) (side % 2)) = nI (xg h d e)) = (xg h (side / 2) (side % 2) = xg h d e) := propext (nI_eq (by omega) (by omega))
      have f4 : (nI 0 < nI (T side)) = (0 < T side) := propext (nI_ltI (by omega) (by omega))
      have z1 : (nI 1 = nI 0) = False := nI_eq_f (by decide) (by decide) (by decide)
      have st : ∀ v, xtw h T d e v side (n + 1) = xtt h T d e v side + xtw h T d e v (side + 1) n := fun v => rfl
      rw [h43_55]
      have z2 : (nI 0 = nI 0) = True := nI_eq_t rfl
      have fin : ∀ (b : Nat → Nat) (p' r' : Nat) (c8 c9 c10 c11 c12 : Value), (∀ v, xtt h T d e v side = b v) → p' = p + b 0 → r' = r + b 1 → xW xSC 43 55 [.ref 35, .ref 9, .ref 31, .int (nI d), .int (nI e), .int (nI (xg h d e)), .int (nI (h 151)), .int (nI (side + 1)), c8, c9, c10, c11, c12] [] (xsc 35 p' r' M) Q = Q none (xsc 35 (p + xtw h T d e 0 side (n + 1)) (r + xtw h T d e 1 side (n + 1)) M) := by
        intro b p' r' c8 c9 c10 c11 c12 hb hp hr
        rw [ih (side + 1) p' r' c8 c9 c10 c11 c12 (by omega), st 0, st 1, hb 0, hb 1, hp, hr, Nat.add_assoc, Nat.add_assoc]
      have yes : ((side / 2 = d ∧ side % 2 = e) ∨ (side / 2 ≠ d ∧ xg h (side / 2) (side % 2) = xg h d e)) → ∀ v, xtt h T d e v side = (if xw h (side / 2) (side % 2) = v then h 151 * T side else 0) := fun q v => by
        unfold xtt
        rw [if_pos q]
      have no : ¬ ((side / 2 = d ∧ side % 2 = e) ∨ (side / 2 ≠ d ∧ xg h (side / 2) (side % 2) = xg h d e)) → ∀ v, xtt h T d e v side = 0 := fun q v => by
        unfold xtt
        rw [if_neg q]
      have zero : ¬ 0 < T side → ∀ v, xtt h T d e v side = 0 := fun q v => by
        unfold xtt
        rw [show T side = 0 by omega]
        simp
      by_cases q4 : 0 < T side
      · have f4 : (nI 0 < nI (T side)) = True := by rw [f4]; exact eq_true q4
        by_cases q1 : side / 2 = d
        · have f1 : (nI (side / 2) = nI d) = True := by rw [f1]; exact eq_true q1
          by_cases q2 : side % 2 = e
          · have f2 : (nI (side % 2) = nI e) = True := by rw [f2]; exact eq_true q2
            simp (disch := omega) only [s43, j43, e9, e10, e13, e32, n1, pk_mul, nI_lt_t, if_true, cG, xpush_s, xpush_n, shr1, and1, f1, f2, f3, mt, f4, z1, if_false, c37, c36, m3, m1, m4, c49_35, nI_add, z2]
            exact fin _ _ _ _ _ _ _ _ (yes (Or.inl ⟨q1, q2⟩)) (by split <;> omega) (by split <;> omega)
          · have f2 : (nI (side % 2) = nI e) = False := by rw [f2]; exact eq_false q2
            simp (disch := omega) only [s43, j43, e9, e10, e13, e32, n1, pk_mul, nI_lt_t, if_true, cG, xpush_s, xpush_n, shr1, and1, f1, f2, f3, mt, f4, z1, if_false, c37, c36, m3, m1, m4, c49_35, nI_add, z2]
            exact fin _ _ _ _ _ _ _ _ (no (by omega)) (by omega) (by omega)
        · have f1 : (nI (side / 2) = nI d) = False := by rw [f1]; exact eq_false q1
          by_cases q3 : xg h (side / 2) (side % 2) = xg h d e
          · have f3 : (nI (xg h (side / 2) (side % 2)) = nI (xg h d e)) = True := by rw [f3]; exact eq_true q3
            simp (disch := omega) only [s43, j43, e9, e10, e13, e32, n1, pk_mul, nI_lt_t, if_true, cG, xpush_s, xpush_n, shr1, and1, f1, f2, f3, mt, f4, z1, if_false, c37, c36, m3, m1, m4, c49_35, nI_add, z2]
            exact fin _ _ _ _ _ _ _ _ (yes (Or.inr ⟨q1, q3⟩)) (by split <;> omega) (by split <;> omega)
          · have f3 : (nI (xg h (side / 2) (side % 2)) = nI (xg h d e)) = False := by rw [f3]; exact eq_false q3
            simp (disch := omega) only [s43, j43, e9, e10, e13, e32, n1, pk_mul, nI_lt_t, if_true, cG, xpush_s, xpush_n, shr1, and1, f1, f2, f3, mt, f4, z1, if_false, c37, c36, m3, m1, m4, c49_35, nI_add, z2]
            exact fin _ _ _ _ _ _ _ _ (no (by omega)) (by omega) (by omega)
      · have f4 : (nI 0 < nI (T side)) = False := by rw [f4]; exact eq_false q4
        by_cases q1 : side / 2 = d
        · have f1 : (nI (side / 2) = nI d) = True := by rw [f1]; exact eq_true q1
          by_cases q2 : side % 2 = e
          · have f2 : (nI (side % 2) = nI e) = True := by rw [f2]; exact eq_true q2
            simp (disch := omega) only [s43, j43, e9, e10, e13, e32, n1, pk_mul, nI_lt_t, if_true, cG, xpush_s, xpush_n, shr1, and1, f1, f2, f3, mt, f4, z1, if_false, c37, c36, m3, m1, m4, c49_35, nI_add, z2]
            exact fin _ _ _ _ _ _ _ _ (zero q4) (by omega) (by omega)
          · have f2 : (nI (side % 2) = nI e) = False := by rw [f2]; exact eq_false q2
            simp (disch := omega) only [s43, j43, e9, e10, e13, e32, n1, pk_mul, nI_lt_t, if_true, cG, xpush_s, xpush_n, shr1, and1, f1, f2, f3, mt, f4, z1, if_false, c37, c36, m3, m1, m4, c49_35, nI_add, z2]
            exact fin _ _ _ _ _ _ _ _ (zero q4) (by omega) (by omega)
        · have f1 : (nI (side / 2) = nI d) = False := by rw [f1]; exact eq_false q1
          by_cases q3 : xg h (side / 2) (side % 2) = xg h d e
          · have f3 : (nI (xg h (side / 2) (side % 2)) = nI (xg h d e)) = True := by rw [f3]; exact eq_true q3
            simp (disch := omega) only [s43, j43, e9, e10, e13, e32, n1, pk_mul, nI_lt_t, if_true, cG, xpush_s, xpush_n, shr1, and1, f1, f2, f3, mt, f4, z1, if_false, c37, c36, m3, m1, m4, c49_35, nI_add, z2]
            exact fin _ _ _ _ _ _ _ _ (zero q4) (by omega) (by omega)
          · have f3 : (nI (xg h (side / 2) (side % 2)) = nI (xg h d e)) = False := by rw [f3]; exact eq_false q3
            simp (disch := omega) only [s43, j43, e9, e10, e13, e32, n1, pk_mul, nI_lt_t, if_true, cG, xpush_s, xpush_n, shr1, and1, f1, f2, f3, mt, f4, z1, if_false, c37, c36, m3, m1, m4, c49_35, nI_add, z2]
            exact fin _ _ _ _ _ _ _ _ (zero q4) (by omega) (by omega)
  simp (disch := omega) only [s43, c36, c37, mg, mh, mw, pk_sub, c45_35 H.do (show xw h d e < 3 from xwt_lt _ _) gl (W.g hd (show 1 - e < 2 by omega)) (show h 148 < 2 ^ 31 by omega), xpush_n, xpush_s, e9, e31, e13, e10, k3, c34, d4, d5, c49_35]
  rw [key (2 * h 1) 0 _ _ _ _ _ _ _ (by omega)]
  congr 2
  · unfold xPP
    split <;> omega
  · unfold xQQ
    split <;> omega
end C16
