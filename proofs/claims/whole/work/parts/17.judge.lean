/-! how often one is wrong, as a fraction -/
theorem xup_rs (M : xM) (a i : Nat) (x : Int32) : xup M a i x a i = x := by simp [xup, upd]
theorem xup_r {M : xM} {a i j : Nat} {x : Int32} (h : j ≠ i) : xup M a i x a j = M a j := by simp [xup, upd, h]
theorem xup_o {M : xM} {a b i j : Nat} {x : Int32} (h : b ≠ a) : xup M a i x b j = M b j := by simp [xup, h]
theorem xup_xup (M : xM) (a i : Nat) (x y : Int32) : xup (xup M a i x) a i y = xup M a i y := by
  funext b
  by_cases h : b = a
  · subst h
    funext j
    by_cases q : j = i <;> simp [xup, upd, q]
  · simp [xup, h]
theorem xup_cm {M : xM} {a b i j : Nat} {x y : Int32} (h : a ≠ b ∨ i ≠ j) : xup (xup M a i x) b j y = xup (xup M b j y) a i x := by
  funext c
  by_cases ha : c = a
  · by_cases hb : c = b
    · have hij : i ≠ j := h.resolve_left (by omega)
      subst ha
      subst hb
      funext k
      by_cases q1 : k = i
      · subst q1
        simp [xup, upd, hij]
      · by_cases q2 : k = j
        · subst q2
          simp [xup, upd, q1]
        · simp [xup, upd, q1, q2]
    · simp [xup, ha, hb, show ¬ a = b by omega]
  · by_cases hb : c = b
    · simp [xup, ha, hb, show ¬ b = a by omega]
    · simp [xup, ha, hb]
def xsf (s p r a b : Nat) (M : xM) : xM := xup (xup (xsc s p r M) s 2 (nI a)) s 3 (nI b)
theorem xsf_0 (s p r a b : Nat) (M : xM) : xsf s p r a b M s 0 = nI p := by
  unfold xsf
  rw [xup_r (by decide), xup_r (by decide), xsc_0]
theorem xsf_1 (s p r a b : Nat) (M : xM) : xsf s p r a b M s 1 = nI r := by
  unfold xsf
  rw [xup_r (by decide), xup_r (by decide), xsc_1]
theorem xsf_2 (s p r a b : Nat) (M : xM) : xsf s p r a b M s 2 = nI a := by
  unfold xsf
  rw [xup_r (by decide), xup_rs]
theorem xsf_3 (s p r a b : Nat) (M : xM) : xsf s p r a b M s 3 = nI b := by
  unfold xsf
  rw [xup_rs]
theorem xsf_o {s c p r a b : Nat} {M : xM} (h : c ≠ s) : xsf s p r a b M c = M c := by
  unfold xsf
  rw [xup_other h, xup_other h, xsc_o h]
theorem xsf_fr {s p r a b : Nat} {M : xM} : xfr s s M (xsf s p r a b M) := fun c q => xsf_o (by omega)
def xag (w p r : Nat) : Nat := if w = 2 then 0 else if w = 0 then r else p
def xab (w tr lv both p r : Nat) : Nat := if lv = 2 then (if tr = 0 then xag w p r else 0) * (2 + both) + (p + r) else (if tr = 0 then xag w p r else 0)
def xbe (lv both p r : Nat) : Nat := if lv = 2 then (p + r) * (2 + both) else p + r
section C17
variable {M : xM} {Q : Option Value → xM → Prop} {h : Nat → Nat}
theorem i12 : (nI 1 = nI 0) = False := nI_eq_f (by decide) (by decide) (by decide)
theorem i00 : (nI 0 = nI 0) = True := nI_eq_t rfl
theorem c52_33 {w p r : Nat} (hp : M 33 0 = nI p) (hr : M 33 1 = nI r) (hw : w < 3) : xW xSC 52 0 [.ref 33, .int (nI w)] [] M Q = Q (some (.int (nI (xag w p r)))) M := by
  rcases (show w = 0 ∨ w = 1 ∨ w = 2 by omega) with rfl | rfl | rfl <;> simp (disch := decide) only [s52, j52, hp, hr, nI_eq_f, i00, nI_eq_t, if_true, if_false] <;> rfl
theorem c51_33 {w tr lv both p r : Nat} (hw : w < 3) (ht : tr ≤ 1) (hv : lv ≤ 2) : xW xSC 51 0 [.ref 33, .int (nI w), .int (nI tr), .int (nI lv), .int (nI both), .null, .null] [] (xsc 33 p r M) Q = Q none (xsf 33 p r (xab w tr lv both p r) (xbe lv both p r) M) := by
  have ag : ∀ Q', xW xSC 52 0 [.ref 33, .int (nI w)] [] (xsc 33 p r M) Q' = Q' (some (.int (nI (xag w p r)))) (xsc 33 p r M) := fun Q' => c52_33 (xsc_0 _ _ _ _) (xsc_1 _ _ _ _) hw
  have v2 : (nI lv = nI 2) = (lv = 2) := propext (nI_eq (by omega) (by decide))
  have fin : ∀ x : Nat, xW xSC 51 25 [.ref 33, .int (nI w), .int (nI tr), .int (nI lv), .int (nI both), .int (nI (p + r)), .null] [.int (nI x), .ref 33] (xsc 33 p r M) Q = Q none (xsf 33 p r (if lv = 2 then x * (2 + both) + (p + r) else x) (xbe lv both p r) M) := by
    intro x
    simp only [h51_25]
    by_cases q : lv = 2
    · simp (disch := decide) only [s51, j51, v2, q, if_true, nI_add, xup_r, xup_rs, pk_mul]
      rw [xup_cm (a := 33) (b := 33) (i := 3) (j := 2) (Or.inr (by decide)), xup_xup, xup_xup]
      unfold xsf xbe
      simp only [if_true]
    · simp (disch := decide) only [s51, j51, v2, q, if_false]
      unfold xsf xbe
      simp only [q, if_false]
  rcases (show tr = 0 ∨ tr = 1 by omega) with rfl | rfl
  · simp (disch := decide) only [s51, xsc_0, xsc_1, nI_add, i00, if_true, ag, xpush_s, fin]
    rfl
  · simp (disch := decide) only [s51, xsc_0, xsc_1, nI_add, i12, if_false, fin]
    rfl
theorem c55_33 {a b n : Nat} (ha : M 33 2 = nI a) (hb : M 33 3 = nI b) (h1 : a < 2 ^ 31) (h2 : b < 2 ^ 31) (h3 : n < 2 ^ 31) (h0 : 0 < b) : xW xSC 55 0 [.ref 33, .int (nI n)] [] M Q = Q (some (.int (nI (a * n / b)))) M := by
  have hm : a * n < 2 ^ 63 := Nat.lt_of_le_of_lt (Nat.mul_le_mul (Nat.le_of_lt h1) (Nat.le_of_lt h3)) (by decide)
  simp (disch := omega) only [s55, j55, ha, hb, nI_lt_t, if_true, nI_l, lN_mul, pk_lDiv, lN_i]
theorem c52_35 {w p r : Nat} (hp : M 35 0 = nI p) (hr : M 35 1 = nI r) (hw : w < 3) : xW xSC 52 0 [.ref 35, .int (nI w)] [] M Q = Q (some (.int (nI (xag w p r)))) M := by
  rcases (show w = 0 ∨ w = 1 ∨ w = 2 by omega) with rfl | rfl | rfl <;> simp (disch := decide) only [s52, j52, hp, hr, nI_eq_f, i00, nI_eq_t, if_true, if_false] <;> rfl
theorem c51_35 {w tr lv both p r : Nat} (hw : w < 3) (ht : tr ≤ 1) (hv : lv ≤ 2) : xW xSC 51 0 [.ref 35, .int (nI w), .int (nI tr), .int (nI lv), .int (nI both), .null, .null] [] (xsc 35 p r M) Q = Q none (xsf 35 p r (xab w tr lv both p r) (xbe lv both p r) M) := by
  have ag : ∀ Q', xW xSC 52 0 [.ref 35, .int (nI w)] [] (xsc 35 p r M) Q' = Q' (some (.int (nI (xag w p r)))) (xsc 35 p r M) := fun Q' => c52_35 (xsc_0 _ _ _ _) (xsc_1 _ _ _ _) hw
  have v2 : (nI lv = nI 2) = (lv = 2) := propext (nI_eq (by omega) (by decide))
  have fin : ∀ x : Nat, xW xSC 51 25 [.ref 35, .int (nI w), .int (nI tr), .int (nI lv), .int (nI both), .int (nI (p + r)), .null] [.int (nI x), .ref 35] (xsc 35 p r M) Q = Q none (xsf 35 p r (if lv = 2 then x * (2 + both) + (p + r) else x) (xbe lv both p r) M) := by
    intro x
    simp only [h51_25]
    by_cases q : lv = 2
    · simp (disch := decide) only [s51, j51, v2, q, if_true, nI_add, xup_r, xup_rs, pk_mul]
      rw [xup_cm (a := 35) (b := 35) (i := 3) (j := 2) (Or.inr (by decide)), xup_xup, xup_xup]
      unfold xsf xbe
      simp only [if_true]
    · simp (disch := decide) only [s51, j51, v2, q, if_false]
      unfold xsf xbe
      simp only [q, if_false]
  rcases (show tr = 0 ∨ tr = 1 by omega) with rfl | rfl
  · simp (disch := decide) only [s51, xsc_0, xsc_1, nI_add, i00, if_true, ag, xpush_s, fin]
    rfl
  · simp (disch := decide) only [s51, xsc_0, xsc_1, nI_add, i12, if_false, fin]
    rfl
theorem c55_35 {a b n : Nat} (ha : M 35 2 = nI a) (hb : M 35 3 = nI b) (h1 : a < 2 ^ 31) (h2 : b < 2 ^ 31) (h3 : n < 2 ^ 31) (h0 : 0 < b) : xW xSC 55 0 [.ref 35, .int (nI n)] [] M Q = Q (some (.int (nI (a * n / b)))) M := by
  have hm : a * n < 2 ^ 63 := Nat.lt_of_le_of_lt (Nat.mul_le_mul (Nat.le_of_lt h1) (Nat.le_of_lt h3)) (by decide)
  simp (disch := omega) only [s55, j55, ha, hb, nI_lt_t, if_true, nI_l, lN_mul, pk_lDiv, lN_i]
theorem c52_40 {w p r : Nat} (hp : M 40 0 = nI p) (hr : M 40 1 = nI r) (hw : w < 3) : xW xSC 52 0 [.ref 40, .int (nI w)] [] M Q = Q (some (.int (nI (xag w p r)))) M := by
  rcases (show w = 0 ∨ w = 1 ∨ w = 2 by omega) with rfl | rfl | rfl <;> simp (disch := decide) only [s52, j52, hp, hr, nI_eq_f, i00, nI_eq_t, if_true, if_false] <;> rfl
theorem c51_40 {w tr lv both p r : Nat} (hw : w < 3) (ht : tr ≤ 1) (hv : lv ≤ 2) : xW xSC 51 0 [.ref 40, .int (nI w), .int (nI tr), .int (nI lv), .int (nI both), .null, .null] [] (xsc 40 p r M) Q = Q none (xsf 40 p r (xab w tr lv both p r) (xbe lv both p r) M) := by
  have ag : ∀ Q', xW xSC 52 0 [.ref 40, .int (nI w)] [] (xsc 40 p r M) Q' = Q' (some (.int (nI (xag w p r)))) (xsc 40 p r M) := fun Q' => c52_40 (xsc_0 _ _ _ _) (xsc_1 _ _ _ _) hw
  have v2 : (nI lv = nI 2) = (lv = 2) := propext (nI_eq (by omega) (by decide))
  have fin : ∀ x : Nat, xW xSC 51 25 [.ref 40, .int (nI w), .int (nI tr), .int (nI lv), .int (nI both), .int (nI (p + r)), .null] [.int (nI x), .ref 40] (xsc 40 p r M) Q = Q none (xsf 40 p r (if lv = 2 then x * (2 + both) + (p + r) else x) (xbe lv both p r) M) := by
    intro x
    simp only [h51_25]
    by_cases q : lv = 2
    · simp (disch := decide) only [s51, j51, v2, q, if_true, nI_add, xup_r, xup_rs, pk_mul]
      rw [xup_cm (a := 40) (b := 40) (i := 3) (j := 2) (Or.inr (by decide)), xup_xup, xup_xup]
      unfold xsf xbe
      simp only [if_true]
    · simp (disch := decide) only [s51, j51, v2, q, if_false]
      unfold xsf xbe
      simp only [q, if_false]
  rcases (show tr = 0 ∨ tr = 1 by omega) with rfl | rfl
  · simp (disch := decide) only [s51, xsc_0, xsc_1, nI_add, i00, if_true, ag, xpush_s, fin]
    rfl
  · simp (disch := decide) only [s51, xsc_0, xsc_1, nI_add, i12, if_false, fin]
    rfl
theorem c55_40 {a b n : Nat} (ha : M 40 2 = nI a) (hb : M 40 3 = nI b) (h1 : a < 2 ^ 31) (h2 : b < 2 ^ 31) (h3 : n < 2 ^ 31) (h0 : 0 < b) : xW xSC 55 0 [.ref 40, .int (nI n)] [] M Q = Q (some (.int (nI (a * n / b)))) M := by
  have hm : a * n < 2 ^ 63 := Nat.lt_of_le_of_lt (Nat.mul_le_mul (Nat.le_of_lt h1) (Nat.le_of_lt h3)) (by decide)
  simp (disch := omega) only [s55, j55, ha, hb, nI_lt_t, if_true, nI_l, lN_mul, pk_lDiv, lN_i]
/-- Euclid's turns -/
def xeu : Nat → Nat → Nat → Nat
  | 0, a, _ => a
  | n + 1, a, b => if b = 0 then a else xeu n b (a % b)
theorem xeu_gcd : ∀ (k n a b : Nat), b < 2 ^ k → 2 * k ≤ n → xeu n a b = Nat.gcd a b
  | 0, n, a, b, hb, hn => by
    have : b = 0 := by simpa using hb
    subst this
    cases n <;> simp [xeu]
  | k + 1, n, a, b, hb, hn => by
    obtain ⟨m, rfl⟩ : ∃ m, n = m + 2 := ⟨n - 2, by omega⟩
    simp only [xeu]
    by_cases h0 : b = 0
    · subst h0
      simp
    · rw [if_neg h0]
      have hr : a % b < b := Nat.mod_lt _ (Nat.pos_of_ne_zero h0)
      by_cases h1 : a % b = 0
      · rw [if_pos h1, Nat.gcd_comm, Nat.gcd_rec, h1]
        simp
      · rw [if_neg h1]
        have h2 : b % (a % b) < a % b := Nat.mod_lt _ (Nat.pos_of_ne_zero h1)
        have h3 : b % (a % b) ≤ b - a % b := by
          have := Nat.mod_add_div b (a % b)
          have h4 : 0 < b / (a % b) := Nat.div_pos (Nat.le_of_lt hr) (Nat.pos_of_ne_zero h1)
          have h5 : a % b ≤ a % b * (b / (a % b)) := Nat.le_mul_of_pos_right _ h4
          omega
        have h6 : 2 ^ (k + 1) = 2 * 2 ^ k := by rw [Nat.pow_succ, Nat.mul_comm]
        rw [xeu_gcd k m (a % b) (b % (a % b)) (by omega) (by omega)]
        rw [Nat.gcd_comm a b, Nat.gcd_rec b a, Nat.gcd_comm (a % b) b, Nat.gcd_comm (a % b), ← Nat.gcd_rec, Nat.gcd_comm]
theorem c59 {a b : Nat} (ha : M 33 2 = nI a) (hb : M 33 3 = nI b) (h1 : a < 2 ^ 31) (h2 : b < 2 ^ 31) : xW xSC 59 0 [.ref 33, .null, .null, .null, .null] [] M Q = Q (some (.int (nI (Nat.gcd a b)))) M := by
  have key : ∀ (n k a b : Nat) (v : Value), k + n = 64 → a < 2 ^ 31 → b < 2 ^ 31 → xW xSC 59 12 [.ref 33, .int (nI a), .int (nI b), .int (nI k), v] [] M Q = Q (some (.int (nI (xeu n a b)))) M := by
    intro n
    induction n with
    | zero =>
      intro k a b v hk ha hb
      rw [h59_12]
      simp (disch := omega) only [s59, j59, nI_lt_f, if_false, xeu]
    | succ n ih =>
      intro k a b v hk ha hb
      rw [h59_12]
      by_cases q : b = 0
      · subst q
        simp (disch := omega) only [s59, j59, nI_lt_t, if_true, i00, xeu]
      · have hr : a % b < b := Nat.mod_lt _ (Nat.pos_of_ne_zero q)
        simp (disch := omega) only [s59, j59, nI_lt_t, if_true, nI_eq_f, if_false, pk_rem, nI_add]
        rw [ih (k + 1) b (a % b) _ (by omega) hb (by omega)]
        simp only [xeu, if_neg q]
  simp only [s59, ha, hb]
  rw [key 64 0 a b _ rfl h1 h2, xeu_gcd 31 64 a b h2 (by decide)]
theorem c58 {a b j : Nat} (ha : M 33 2 = nI a) (hb : M 33 3 = nI b) (h1 : a < 2 ^ 31) (h2 : b < 2 ^ 31) (h0 : 0 < b) (hj : j ≤ 1) : xW xSC 58 0 [.ref 33, .int (nI j), .null, .null] [] M Q = Q (some (.int (nI ((if j = 0 then a else b) / Nat.gcd a b)))) M := by
  have g1 : 0 < Nat.gcd a b := Nat.gcd_pos_of_pos_right _ h0
  have g2 : Nat.gcd a b ≤ b := Nat.gcd_le_right _ h0
  rcases (show j = 0 ∨ j = 1 by omega) with rfl | rfl
  · simp (disch := omega) only [s58, j58, c59 ha hb h1 h2, xpush_s, i00, if_true, ha, nI_lt_t, pk_div]
  · simp (disch := omega) only [s58, j58, c59 ha hb h1 h2, xpush_s, i12, if_false, hb, nI_lt_t, if_true, pk_div, Nat.one_ne_zero]
end C17
