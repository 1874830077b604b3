/-! which strength of a grip fits the films -/
def xfo (h : Nat → Nat) (g d e : Nat) : Nat := (1 + xSQ (hset h 146 g) (xw h d e) (xg h d e) (xg h d (1 - e))) * 100 / (1 + xSP (hset h 146 g) (xw h d e) (xg h d e) (xg h d (1 - e)) + (1 + xSQ (hset h 146 g) (xw h d e) (xg h d e) (xg h d (1 - e))))
def xfb (S : xA) (g t k : Nat) : Bool := decide (xfo (S 0) g (S 4 k) (S 5 k) ≤ S 6 k * 100 / S 7 k + t ∧ S 6 k * 100 / S 7 k ≤ xfo (S 0) g (S 4 k) (S 5 k) + t)
def xfit (S : xA) (g t : Nat) : Nat → Nat → Bool
  | _, 0 => true
  | k, n + 1 => xfb S g t k && xfit S g t (k + 1) n
def xcnt (b : Nat → Bool) : Nat → Nat → Nat
  | _, 0 => 0
  | s, n + 1 => (if b s = true then 1 else 0) + xcnt b (s + 1) n
def xfst (b : Nat → Bool) : Nat → Nat → Int32
  | _, 0 => -4
  | s, n + 1 => if b s = true then nI s else xfst b (s + 1) n
theorem m62 : ∀ m, m < 64 → nI m &&& (-2) = nI (m &&& 62) := by decide +kernel
theorem xb62 : ∀ m, m < 64 → xbs (m &&& 62) 0 = 0 ∧ xbs (m &&& 62) 1 = xbs m 1 ∧ xbs (m &&& 62) 2 = xbs m 2 ∧ xbs (m &&& 62) 3 = xbs m 3 ∧ xbs (m &&& 62) 4 = xbs m 4 ∧ xbs (m &&& 62) 5 = xbs m 5 ∧ xbs m 0 = m % 2 := by decide +kernel
theorem ft1 {A B t : Nat} (hA : A < 2 ^ 20) (hB : B < 2 ^ 20) (ht : t < 2 ^ 20) : (nI t < nI A - nI B) = (B + t < A) := by
  apply propext
  rw [Int32.lt_iff_toInt_lt, pk_sub_toInt (by omega) (by omega), nI_toInt (by omega)]
  omega
theorem ft2 {A B t : Nat} (hA : A < 2 ^ 20) (hB : B < 2 ^ 20) (ht : t < 2 ^ 20) : (nI A - nI B < -(nI t)) = (A + t < B) := by
  have e : -(nI t) = nI 0 - nI t := (Int32.zero_sub (nI t)).symm
  apply propext
  rw [e, Int32.lt_iff_toInt_lt, pk_sub_toInt (by omega) (by omega), pk_sub_toInt (by omega) (by omega)]
  omega
theorem ft3 {A B t : Nat} (hA : A < 2 ^ 20) (hB : B < 2 ^ 20) (ht : t < 2 ^ 20) : (nI t < -(nI A - nI B)) = (A + t < B) := by
  rw [Int32.neg_sub]
  exact ft1 hB hA ht
section C39
variable {M N : xM} {Q : Option Value → xM → Prop} {S S1 : xA} {h h' : Nat → Nat}
theorem xSPg {w m o g : Nat} (hm : m < 64) : xSP h w (m &&& 62) o = xSP (hset h 146 g) w m o := by
  obtain ⟨b0, b1, b2, b3, b4, b5, -⟩ := xb62 m hm
  have e7 : hset h 146 g 147 = h 147 := by unfold hset; rw [if_neg (by decide)]
  have e8 : hset h 146 g 148 = h 148 := by unfold hset; rw [if_neg (by decide)]
  have e9 : hset h 146 g 149 = h 149 := by unfold hset; rw [if_neg (by decide)]
  unfold xSP
  rw [b1, b2, b4, b5, e7, e8, e9]
theorem xSQg {w m o g : Nat} (hm : m < 64) : xSQ h w (m &&& 62) o + m % 2 * g = xSQ (hset h 146 g) w m o := by
  obtain ⟨b0, b1, b2, b3, b4, b5, b6⟩ := xb62 m hm
  have e6 : hset h 146 g 146 = g := by unfold hset; rw [if_pos rfl]
  have e8 : hset h 146 g 148 = h 148 := by unfold hset; rw [if_neg (by decide)]
  have e9 : hset h 146 g 149 = h 149 := by unfold hset; rw [if_neg (by decide)]
  unfold xSQ
  rw [b0, b3, b4, b5, b6, e6, e8, e9]
  omega
theorem xWF.grip (W : xWF h) {v : Nat} (hv : v ≤ 20) : xWF (hset h 146 v) := by
  have e : ∀ j, j ≠ 146 → hset h 146 v j = h j := fun j q => by unfold hset; rw [if_neg q]
  obtain ⟨⟨a1, a2, a3, a4⟩, b, c1, c2, c3⟩ := W
  refine ⟨⟨by rw [e 0 (by omega)]; exact a1, by rw [e 0 (by omega)]; exact a2, by rw [e 1 (by omega)]; exact a3, by rw [e 2 (by omega)]; exact a4⟩, fun d' hd' => ?_, fun i hi => ?_, fun j hj => by rw [e _ (by omega)]; exact c2 j hj, fun j hj => ?_⟩
  · rw [e 1 (by omega)] at hd'
    rw [e (3 + (d' * 6 + 0)) (by omega), e (3 + (d' * 6 + 1)) (by omega), e (3 + (d' * 6 + 2)) (by omega), e (3 + (d' * 6 + 3)) (by omega), e (3 + (d' * 6 + (4 + 0))) (by omega), e (3 + (d' * 6 + (4 + 1))) (by omega), e 0 (by omega)]
    exact b d' hd'
  · rw [e 2 (by omega)] at hi
    rw [e (51 + (i * 3 + 0)) (by omega), e (51 + (i * 3 + 1)) (by omega), e (51 + (i * 3 + 2)) (by omega), e 0 (by omega)]
    exact c1 i hi
  · unfold hset
    by_cases q : 146 + j = 146
    · rw [if_pos q]; exact hv
    · rw [if_neg q]; exact c3 j hj
theorem xfo_le (W : xWF h) {g : Nat} (hg : g ≤ 20) (d e : Nat) : xfo h g d e ≤ 100 := by
  unfold xfo
  exact Nat.div_le_of_le_mul (by omega)
theorem c19 {d e g : Nat} (H : cH 9 h M) (W : xWF h) (hd : d < h 1) (he : e < 2) (hg : g ≤ 20) (hQ : ∀ M', xfr 33 33 M M' → Q (some (.int (nI (xfo h g d e)))) M') : xW xSC 19 0 [.ref 9, .ref 33, .int (nI d), .int (nI e), .int (nI g), .null, .null, .null] [] M Q := by
  have h8 := W.1.2.2.1
  obtain ⟨-, -, -, hw2, -, -, -, -⟩ := W.2.1 d hd
  have m3 : M 10 (d * 6 + 2) = nI (h (3 + (d * 6 + 2))) := H.2.1 _ (by omega)
  have m4 : xwi (nI (h (3 + (d * 6 + 2)))) (nI e) = nI (xw h d e) := xwi_nI (by omega) (by omega)
  have g1 : M 10 (d * 6 + (4 + e)) = nI (xg h d e) := H.2.1 _ (by omega)
  have g2 : M 10 (d * 6 + (4 + (1 - e))) = nI (xg h d (1 - e)) := H.2.1 _ (by omega)
  have l1 := W.g hd he
  have l2 := W.g hd (show 1 - e < 2 by omega)
  have l3 : h 148 < 2 ^ 31 := by have : h 148 ≤ 20 := W.2.2.2.2 2 (by omega); omega
  have lw : xw h d e < 3 := xwt_lt _ _
  have wp := xSP_le (W.grip hg) (xw h d e) (xg h d e) (xg h d (1 - e))
  have wq := xSQ_le (W.grip hg) (xw h d e) (xg h d e) (xg h d (1 - e))
  have sp := xSPg (h := h) (w := xw h d e) (o := xg h d (1 - e)) (g := g) l1
  have sq := xSQg (h := h) (w := xw h d e) (o := xg h d (1 - e)) (g := g) l1
  have l4 : xg h d e &&& 62 < 64 := xand_lt l1
  have c45 := fun (Q : Option Value → xM → Prop) => c45_33 (Q := Q) H.do lw l4 l2 l3
  rw [sp] at c45
  unfold xfo at hQ
  simp (disch := first | decide | omega) only [s19, c36, g1, g2, c37, m3, m4, xpush_s, m62 _ l1, pk_sub, c45, xpush_n, xsc_1, and1]
  generalize hP : xSP (hset h 146 g) (xw h d e) (xg h d e) (xg h d (1 - e)) = P at *
  generalize hR : xSQ (hset h 146 g) (xw h d e) (xg h d e) (xg h d (1 - e)) = R at *
  rcases (show xg h d e % 2 = 0 ∨ xg h d e % 2 = 1 by omega) with q | q
  · have e1 : 1 + xSQ h (xw h d e) (xg h d e &&& 62) (xg h d (1 - e)) = 1 + R := by rw [q] at sq; omega
    rw [e1]
    simp (disch := first | decide | omega) only [s19, j19, q, i00, if_true, h19_49, nI_add, Nat.add_zero, xsc_0, nI_lt_t, pk_mul, pk_div, h19_78]
    exact hQ _ xsc_fr
  · have e1 : 1 + xSQ h (xw h d e) (xg h d e &&& 62) (xg h d (1 - e)) + g = 1 + R := by rw [q] at sq; omega
    simp (disch := first | decide | omega) only [s19, j19, q, i12, if_false, h19_49, nI_add, e1, xsc_0, nI_lt_t, if_true, pk_mul, pk_div, h19_78]
    exact hQ _ xsc_fr
theorem c18 {g t : Nat} (C : RC S M) (W : WA S) (hg : g ≤ 20) (ht : t ≤ 99) (hQ : ∀ M', xfr 33 33 M M' → Q (some (.int (if xfit S g t 0 (S 2 2) = true then nI 1 else nI 0))) M') : xW xSC 18 0 [.ref 27, .ref 9, .ref 33, .int (nI g), .int (nI t), .null, .null, .null, .null] [] M Q := by
  have h8 := W.2.1.1.2.2.1
  have f8 := W.2.2.2.1.1
  have key : ∀ (n k : Nat) (M1 : xM) (x6 x7 x8 : Value), k + n = S 2 2 → xfr 33 33 M M1 → xfit S g t 0 (S 2 2) = xfit S g t k n → xW xSC 18 3 [.ref 27, .ref 9, .ref 33, .int (nI g), .int (nI t), .int (nI k), x6, x7, x8] [] M1 Q := by
    intro n
    induction n with
    | zero =>
      intro k M1 x6 x7 x8 hk f q
      have C1 := C.fr (cfr.x f (by decide))
      have m1 : M1 27 3 = nI (S 2 2) := C1.2.2.2.1.1
      have q : xfit S g t 0 (S 2 2) = true := q
      rw [if_pos q] at hQ
      rw [h18_3]
      simp (disch := first | decide | omega) only [s18, m1, nI_lt_f, if_false]
      exact hQ M1 f
    | succ n ih =>
      intro k M1 x6 x7 x8 hk f q
      have C1 := C.fr (cfr.x f (by decide))
      have m1 : M1 27 3 = nI (S 2 2) := C1.2.2.2.1.1
      obtain ⟨a1, a2, a3⟩ := C1.2.2.2.1.2 k (by omega)
      obtain ⟨w1, w2, w3, w4, w5⟩ := W.2.2.2.1.2 k (by omega)
      have lb : S 6 k * 100 / S 7 k ≤ 100 := Nat.div_le_of_le_mul (by omega)
      have la := xfo_le W.2.1 hg (S 4 k) (S 5 k)
      rw [h18_3]
      simp (disch := first | decide | omega) only [s18, m1, nI_lt_t, if_true, cG, a1, a2, xpush_s]
      refine c19 C1.2.1 W.2.1 w1 w2 hg (fun M2 f2 => ?_)
      have b3 : M2 30 k = nI (S 6 k * 100 / S 7 k) := by rw [f2 30 (by omega)]; exact a3
      simp (disch := first | decide | omega) only [s18, xpush_s, cG, b3, ft1, ft2]
      by_cases z1 : S 6 k * 100 / S 7 k + t < xfo (S 0) g (S 4 k) (S 5 k)
      · have zb : xfb S g t k = false := by unfold xfb; exact decide_eq_false (by omega)
        simp only [xfit, zb, Bool.false_and] at q
        rw [q, if_neg (by decide)] at hQ
        simp (disch := first | decide | omega) only [s18, z1, if_true, h18_71]
        exact hQ M2 (f.tr f2)
      · by_cases z2 : xfo (S 0) g (S 4 k) (S 5 k) + t < S 6 k * 100 / S 7 k
        · have zb : xfb S g t k = false := by unfold xfb; exact decide_eq_false (by omega)
          simp only [xfit, zb, Bool.false_and] at q
          rw [q, if_neg (by decide)] at hQ
          simp (disch := first | decide | omega) only [s18, z1, z2, if_true, if_false, h18_71]
          exact hQ M2 (f.tr f2)
        · have zb : xfb S g t k = true := by unfold xfb; exact decide_eq_true (by omega)
          simp only [xfit, zb, Bool.true_and] at q
          simp (disch := first | decide | omega) only [s18, z1, z2, if_false, nI_add]
          exact ih (k + 1) M2 _ _ _ (by omega) (f.tr f2) q
  simp (disch := first | decide | omega) only [s18]
  exact key (S 2 2) 0 M _ _ _ (by omega) (fun _ _ => rfl) rfl
theorem c126k {t w : Nat} (C : RC S M) (W : WA S) (ht : t ≤ 99) (hw : w ≤ 1) (hQ : ∀ M', RC S M' → Q (some (.int (if w = 0 then nI (xcnt (fun g => xfit S g t 0 (S 2 2)) 0 21) else xfst (fun g => xfit S g t 0 (S 2 2)) 0 21))) M') : xW xSC 126 31 [.ref 0, .int (nI t), .int (nI w), .int (nI 0), .int (-4), .int (nI 20)] [] M Q := by
  have key : ∀ (k n : Nat) (M1 : xM), k + n = 21 → RC S M1 → xW xSC 126 31 [.ref 0, .int (nI t), .int (nI w), .int (nI (xcnt (fun g => xfit S g t 0 (S 2 2)) k n)), .int (xfst (fun g => xfit S g t 0 (S 2 2)) k n), .int (nI k + (-1))] [] M1 Q := by
    intro k
    induction k with
    | zero =>
      intro n M1 hk C1
      have hn : n = 21 := by omega
      subst hn
      have e : (nI 0 + (-1) < nI 0) = True := by decide
      rw [h126_31]
      rcases (show w = 0 ∨ w = 1 by omega) with v | v
      · subst v
        simp (disch := first | decide | omega) only [s126, e, if_true, i00, h126_80]
        exact hQ M1 C1
      · subst v
        simp (disch := first | decide | omega) only [s126, e, if_true, i12, if_false, h126_80]
        exact hQ M1 C1
    | succ k ih =>
      intro n M1 hk C1
      have e : nI (k + 1) + (-1) = nI k := by
        rw [show (-1 : Int32) = -(nI 1) by decide, ← Int32.sub_eq_add_neg, pk_sub (by omega), Nat.add_sub_cancel]
      rw [e, h126_31]
      simp (disch := first | decide | omega) only [s126, nI_nneg, if_false]
      refine c18 C1 W (by omega) ht (fun M2 f => ?_)
      have C2 := C1.fr (cfr.x f (by decide))
      have IH := ih (n + 1) M2 (by omega) C2
      simp only [xcnt, xfst] at IH
      by_cases y : xfit S k t 0 (S 2 2) = true
      · rw [if_pos y, if_pos y, Nat.add_comm 1] at IH
        simp (disch := first | decide | omega) only [s126, xpush_s, y, if_true, i12, if_false, nI_add, h126_64]
        exact IH
      · rw [if_neg y, if_neg y, Nat.zero_add] at IH
        simp (disch := first | decide | omega) only [s126, xpush_s, y, if_false, i00, if_true, h126_64]
        exact IH
  exact key 21 0 M (by omega) C
end C39
