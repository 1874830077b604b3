/-! bounds; what is told, on both sides -/
def xok (x : Int32) (n : Nat) : Bool := decide (0 ≤ x.toInt ∧ x.toInt < n)
theorem xok_iff {x : Int32} {n : Nat} : xok x n = true ↔ 0 ≤ x.toInt ∧ x.toInt < n := decide_eq_true_iff
theorem xok_nI {x : Int32} {n : Nat} (h : xok x n = true) (hn : n < 2 ^ 31) : ∃ j, j < n ∧ x = nI j := by
  have h := xok_iff.mp h
  refine ⟨x.toInt.toNat, by omega, ?_⟩
  apply Int32.toInt_inj.mp
  rw [nI_toInt (by omega)]
  omega
theorem xok_of {j n : Nat} (h : j < n) (hn : n < 2 ^ 31) : xok (nI j) n = true := by
  rw [xok_iff, nI_toInt (by omega)]
  omega
theorem xok_c {x : Int32} {n : Nat} (hn : n < 2 ^ 31) : (¬ x < nI 0 ∧ x < nI n) = (xok x n = true) := by
  apply propext
  rw [xok_iff, Int32.not_lt, Int32.le_iff_toInt_le, Int32.lt_iff_toInt_lt, nI_toInt hn, nI_toInt (by decide)]
  simp
theorem xok_r {x : Int32} {n : Nat} (hn : n < 2 ^ 31) : (lN 0 ≤ x.toInt64 ∧ x.toInt64 ≤ (nI n - nI 1).toInt64) = (xok x n = true) := by
  apply propext
  have e : (nI n - nI 1).toInt = (n : Int) - 1 := by
    by_cases h : n = 0
    · subst h
      decide
    · rw [pk_sub (by omega), nI_toInt (by omega)]
      omega
  rw [xok_iff, Int64.le_iff_toInt_le, Int64.le_iff_toInt_le, Int32.toInt_toInt64, Int32.toInt_toInt64, e, lN_toInt (by decide)]
  constructor <;> intro q <;> omega
/-- between a and b less 1 -/
def xbw (x : Int32) (a b : Nat) : Bool := decide ((a : Int) ≤ x.toInt ∧ x.toInt < b)
theorem xbw_iff {x : Int32} {a b : Nat} : xbw x a b = true ↔ (a : Int) ≤ x.toInt ∧ x.toInt < b := decide_eq_true_iff
theorem xbw_nI {x : Int32} {a n : Nat} (h : xbw x a n = true) (hn : n < 2 ^ 31) : ∃ j, a ≤ j ∧ j < n ∧ x = nI j := by
  have h := xbw_iff.mp h
  refine ⟨x.toInt.toNat, by omega, by omega, ?_⟩
  apply Int32.toInt_inj.mp
  rw [nI_toInt (by omega)]
  omega
theorem xbw_0 {x : Int32} {n : Nat} : xbw x 0 n = xok x n := rfl
theorem xbt_c {x : Int32} {a b : Nat} (ha : a < 2 ^ 31) (hb : b < 2 ^ 31) : (nI a ≤ x ∧ x ≤ nI b) = (xbw x a (b + 1) = true) := by
  apply propext
  rw [xbw_iff, Int32.le_iff_toInt_le, Int32.le_iff_toInt_le, nI_toInt ha, nI_toInt hb]
  constructor <;> intro q <;> omega
theorem xbt_r {x : Int32} {a b : Nat} (ha : a < 2 ^ 31) (hb : b < 2 ^ 31) : (lN a ≤ x.toInt64 ∧ x.toInt64 ≤ lN b) = (xbw x a (b + 1) = true) := by
  apply propext
  rw [xbw_iff, Int64.le_iff_toInt_le, Int64.le_iff_toInt_le, Int32.toInt_toInt64, lN_toInt ha, lN_toInt hb]
  constructor <;> intro q <;> omega
theorem lgc_lt (x y : Int64) : (lg_cmp x y < nI 0) = (x < y) := propext (lg_cmp_lt x y)
theorem lgc_gt (x y : Int64) : (nI 0 < lg_cmp x y) = (y < x) := propext (lg_cmp_gt x y)
theorem ite_z {c : Prop} [Decidable c] : ((if c then nI 1 else nI 0) = nI 0) = ¬ c := by
  by_cases h : c
  · simp only [if_pos h, h, not_true]
    exact i12
  · simp [h]
theorem ite_b {b : Bool} : ((if b = true then nI 1 else nI 0) = nI 0) = (b = false) := by
  cases b <;> simp [i12]
theorem xbs_le (s k v : Nat) : xbs s k * v ≤ v := by
  rcases xbs01 s k with q | q <;> rw [q] <;> omega
theorem xSP_le {h : Nat → Nat} (W : xWF h) (w m o : Nat) : xSP h w m o ≤ 80 := by
  have w1 : h 147 ≤ 20 := W.2.2.2.2 1 (by decide)
  have w2 : h 148 ≤ 20 := W.2.2.2.2 2 (by decide)
  have w3 : h 149 ≤ 20 := W.2.2.2.2 3 (by decide)
  have a1 := xbs_le m 1 (h 147)
  have a2 := xbs_le m 2 (h 148)
  have a3 := xbs_le m 4 (h 149)
  have a4 := xbs_le m 5 (xbs o 2 * (h 148 / 2))
  have a5 := xbs_le o 2 (h 148 / 2)
  unfold xSP
  split <;> omega
theorem xSQ_le {h : Nat → Nat} (W : xWF h) (w m o : Nat) : xSQ h w m o ≤ 80 := by
  have w1 : h 146 ≤ 20 := W.2.2.2.2 0 (by decide)
  have w2 : h 148 ≤ 20 := W.2.2.2.2 2 (by decide)
  have w3 : h 149 ≤ 20 := W.2.2.2.2 3 (by decide)
  have a1 := xbs_le m 0 (h 146)
  have a2 := xbs_le m 3 (h 148)
  have a3 := xbs_le m 4 (h 149)
  have a4 := xbs_le m 5 (xbs o 3 * (h 148 / 2))
  have a5 := xbs_le o 3 (h 148 / 2)
  unfold xSQ
  split <;> omega
theorem xtt_le {h T : Nat → Nat} (W : xWF h) (d e v : Nat) {s : Nat} (hT : ∀ j, j < 16 → T j ≤ 99) (hs : s < 16) : xtt h T d e v s ≤ 1980 := by
  have w1 : h 151 ≤ 20 := W.2.2.2.2 5 (by decide)
  have : h 151 * T s ≤ 20 * 99 := Nat.mul_le_mul w1 (hT s hs)
  unfold xtt
  split
  · split <;> omega
  · omega
theorem xtw_le {h T : Nat → Nat} (W : xWF h) (d e v : Nat) (hT : ∀ j, j < 16 → T j ≤ 99) : ∀ (n s : Nat), s + n ≤ 16 → xtw h T d e v s n ≤ 1980 * n
  | 0, s, hs => by simp [xtw]
  | n + 1, s, hs => by
    have a := xtt_le W d e v hT (show s < 16 by omega)
    have b := xtw_le W d e v hT n (s + 1) (by omega)
    simp only [xtw]
    omega
theorem xPP_le {h T : Nat → Nat} (W : xWF h) (la d e : Nat) (hT : ∀ j, j < 16 → T j ≤ 99) : 1 ≤ xPP h T la d e ∧ xPP h T la d e ≤ 32000 := by
  have a := xSP_le W (xw h d e) (xg h d e) (xg h d (1 - e))
  have b := xtw_le W d e 0 hT (2 * h 1) 0 (by have := W.1.2.2.1; omega)
  have c : h 150 ≤ 20 := W.2.2.2.2 4 (by decide)
  have h8 := W.1.2.2.1
  unfold xPP
  split <;> omega
theorem xQQ_le {h T : Nat → Nat} (W : xWF h) (la d e : Nat) (hT : ∀ j, j < 16 → T j ≤ 99) : 1 ≤ xQQ h T la d e ∧ xQQ h T la d e ≤ 32000 := by
  have a := xSQ_le W (xw h d e) (xg h d e) (xg h d (1 - e))
  have b := xtw_le W d e 1 hT (2 * h 1) 0 (by have := W.1.2.2.1; omega)
  have c : h 150 ≤ 20 := W.2.2.2.2 4 (by decide)
  have h8 := W.1.2.2.1
  unfold xQQ
  split <;> omega
theorem xag_le (w p r : Nat) : xag w p r ≤ p + r := by
  unfold xag
  split
  · omega
  · split <;> omega
theorem xab_le {w tr lv both p r : Nat} (hp : p ≤ 32000) (hr : r ≤ 32000) (h1 : 1 ≤ p) (hb : both ≤ 198) : 2 * xab w tr lv both p r ≤ 3 * xbe lv both p r ∧ 0 < xbe lv both p r ∧ xbe lv both p r ≤ 12800000 ∧ xab w tr lv both p r ≤ 19200000 := by
  have a := xag_le w p r
  have hx : (if tr = 0 then xag w p r else 0) ≤ p + r := by split <;> omega
  unfold xab xbe
  generalize (if tr = 0 then xag w p r else 0) = z at hx ⊢
  by_cases hv : lv = 2
  · simp only [if_pos hv]
    have e1 : z * (2 + both) ≤ (p + r) * (2 + both) := Nat.mul_le_mul_right _ hx
    have e2 : (p + r) * 2 ≤ (p + r) * (2 + both) := Nat.mul_le_mul_left _ (by omega)
    have e3 : (p + r) * (2 + both) ≤ 64000 * 200 := Nat.mul_le_mul (by omega) (by omega)
    omega
  · simp only [if_neg hv]
    omega
theorem xAA_le {h T : Nat → Nat} (W : xWF h) (la tr : Nat) {d e : Nat} (hd : d < 8) (hT : ∀ j, j < 16 → T j ≤ 99) : 2 * xAA h T la tr d e ≤ 3 * xBB h T la d e ∧ 0 < xBB h T la d e ∧ xBB h T la d e ≤ 12800000 ∧ xAA h T la tr d e ≤ 19200000 := by
  have a := xPP_le W la d e hT
  have b := xQQ_le W la d e hT
  have c := hT (2 * d) (by omega)
  have f := hT (2 * d + 1) (by omega)
  exact xab_le a.2 b.2 a.1 (by omega)
/-- parts of a thousand -/
def xpa (h T : Nat → Nat) (la tr d e : Nat) : Nat := xAA h T la tr d e * 1000 / xBB h T la d e
theorem xpa_le {h T : Nat → Nat} (W : xWF h) (la tr : Nat) {d e : Nat} (hd : d < 8) (hT : ∀ j, j < 16 → T j ≤ 99) : xpa h T la tr d e ≤ 1500 := by
  obtain ⟨a, b, -, -⟩ := xAA_le W la tr (e := e) hd hT
  unfold xpa
  have : xAA h T la tr d e * 1000 ≤ xBB h T la d e * 1500 := by omega
  exact Nat.div_le_of_le_mul this
section C19
variable {M : xM} {Q : Option Value → xM → Prop} {h : Nat → Nat}
theorem c23r {x : Int32} {n : Nat} (hn : n < 2 ^ 31) (hM : M 9 0 = nI n) : xW xSC 23 0 [.ref 9, .int x] [] M Q = Q (some (.int (if xok x n = true then nI 1 else nI 0))) M := by
  simp only [c23, hM, xok_c hn]
theorem c24r {x : Int32} {n : Nat} (hn : n < 2 ^ 31) (hM : M 9 1 = nI n) : xW xSC 24 0 [.ref 9, .int x] [] M Q = Q (some (.int (if xok x n = true then nI 1 else nI 0))) M := by
  simp only [c24, hM, xok_c hn]
theorem c25r {x : Int32} {n : Nat} (hn : n < 2 ^ 31) (hM : M 9 2 = nI n) : xW xSC 25 0 [.ref 9, .int x] [] M Q = Q (some (.int (if xok x n = true then nI 1 else nI 0))) M := by
  simp only [c25, hM, xok_c hn]
theorem cWi {x : Int32} {a b : Nat} (ha : a < 2 ^ 31) (hb : b < 2 ^ 31) : xW xSC 132 0 [.int x, .int (nI a), .int (nI b)] [] M Q = Q (some (.int (if xbw x a (b + 1) = true then nI 1 else nI 0))) M := by
  simp only [cWithin, xbt_c ha hb]
/-- isSide, isPersonAt -/
theorem c133 {x y : Int32} {n : Nat} (hn : n < 2 ^ 31) (hM : M 9 1 = nI n) : xW xSC 133 0 [.ref 0, .int x, .int y] [] M Q = Q (some (.int (if (xok x n && xok y 2) = true then nI 1 else nI 0))) M := by
  have e : xbw y 0 (1 + 1) = xok y 2 := rfl
  cases h1 : xok x n <;> cases h2 : xok y 2 <;> simp (disch := decide) only [s133, j133, c24r hn hM, xpush_s, ite_b, h1, cWi, e, h2, if_true, if_false, Bool.true_eq_false, Bool.false_eq_true, Bool.and_true, Bool.and_false, i12, i00]
theorem c134 {z x y : Int32} {n k : Nat} (hn : n < 2 ^ 31) (hk : k < 2 ^ 31) (hM : M 9 1 = nI n) (hM2 : M 9 2 = nI k) : xW xSC 134 0 [.ref 0, .int z, .int x, .int y] [] M Q = Q (some (.int (if (xok z k && (xok x n && xok y 2)) = true then nI 1 else nI 0))) M := by
  cases h1 : xok z k <;> cases h2 : (xok x n && xok y 2) <;> simp (disch := decide) only [s134, j134, c25r hk hM2, xpush_s, ite_b, h1, c133 hn hM, h2, if_true, if_false, Bool.true_eq_false, Bool.false_eq_true, Bool.and_true, Bool.and_false, i12, i00]
/-- the reference's tests -/
theorem r135 {v lo hi : Int64} : xW xSR 135 0 [.long v, .null, .long lo, .null, .long hi, .null] [] M Q = Q (some (.int (if lo ≤ v ∧ v ≤ hi then nI 1 else nI 0))) M := by
  simp (disch := decide) only [s135, j135, lgc_lt, lgc_gt]
  by_cases h1 : v < lo
  · rw [if_pos h1, if_neg (fun z => absurd z.1 (Int64.not_le.mpr h1))]
  · rw [if_neg h1]
    by_cases h2 : hi < v
    · rw [if_pos h2, if_neg (fun z => absurd z.2 (Int64.not_le.mpr h2))]
    · rw [if_neg h2, if_pos ⟨Int64.not_lt.mp h1, Int64.not_lt.mp h2⟩]
theorem r139 {x : Int32} {n : Nat} (hn : n < 2 ^ 31) (hM : M 1 0 = nI n) : xW xSR 139 0 [.ref 0, .int x] [] M Q = Q (some (.int (if xok x n = true then nI 1 else nI 0))) M := by
  simp (disch := first | decide | omega) only [s139, j139, hM, r135, xpush_s, xok_r hn]
  split <;> simp (disch := decide) only [s139, j139]
theorem r140 {x : Int32} {n : Nat} (hn : n < 2 ^ 31) (hM : M 1 1 = nI n) : xW xSR 140 0 [.ref 0, .int x] [] M Q = Q (some (.int (if xok x n = true then nI 1 else nI 0))) M := by
  simp (disch := first | decide | omega) only [s140, j140, hM, r135, xpush_s, xok_r hn]
  split <;> simp (disch := decide) only [s140, j140]
theorem r141 {x : Int32} {n : Nat} (hn : n < 2 ^ 31) (hM : M 1 2 = nI n) : xW xSR 141 0 [.ref 0, .int x] [] M Q = Q (some (.int (if xok x n = true then nI 1 else nI 0))) M := by
  simp (disch := first | decide | omega) only [s141, j141, hM, r135, xpush_s, xok_r hn]
  split <;> simp (disch := decide) only [s141, j141]
theorem r135w {x : Int32} {a b : Nat} (ha : a < 2 ^ 31) (hb : b < 2 ^ 31) : xW xSR 135 0 [.long x.toInt64, .null, .long (lN a), .null, .long (lN b), .null] [] M Q = Q (some (.int (if xbw x a (b + 1) = true then nI 1 else nI 0))) M := by
  simp only [r135, xbt_r ha hb]
theorem r142 {x : Int32} : xW xSR 142 0 [.int x] [] M Q = Q (some (.int (if xok x 2 = true then nI 1 else nI 0))) M := by
  have e : (lN 0 ≤ x.toInt64 ∧ x.toInt64 ≤ lN 1) = (xok x 2 = true) := xbt_r (by decide) (by decide)
  simp (disch := decide) only [s142, j142, r135, xpush_s, e]
  split <;> simp (disch := decide) only [s142, j142]
end C19
