/-! how soon a crowd is out -/
def xslow (h : Nat → Nat) (d e : Nat) : Bool := decide (1 + xSP h (xw h d e) (xg h d e) (xg h d (1 - e)) + (1 + xSQ h (xw h d e) (xg h d e) (xg h d (1 - e))) < 2 * xag (xw h d e) (1 + xSP h (xw h d e) (xg h d e) (xg h d (1 - e))) (1 + xSQ h (xw h d e) (xg h d e) (xg h d (1 - e))))
def xo2 (v m : Nat) : Nat := if v = 2 ∧ 10 < m then m + (m - 10) else m
def xo1 (w m : Nat) : Nat := if w = 1 then min m 5 else m
def xo3 (f v w s : Nat) : Nat := xo1 w (xo2 v (s + 1 - f))
def xfo4 (h : Nat → Nat) (d e : Nat) : Nat := if xslow h d e = true then 4 else 1
def xot (h : Nat → Nat) (d e s : Nat) : Nat := xo3 (xfo4 h d e) (xlv2 h d) (xw h d e) s
def xse (h : Nat → Nat) (k r : Nat) : Nat := if xdr h k 0 = r then 0 else if xdr h k 1 = r then 1 else 2
def xsR (h : Nat → Nat) (r : Nat) (sel : Nat → Bool) (s : Nat) : Nat → Nat
  | 0 => 0
  | k + 1 => xsR h r sel s k + (if sel k = true ∧ xse h k r < 2 then xot h k (xse h k r) s else 0)
def xsC (f v w : Nat → Nat) (s : Nat) : Nat → Nat
  | 0 => 0
  | c + 1 => xsC f v w s c + xo3 (f c) (v c) (w c) s
def xsk (F : Nat → Nat) (n : Nat) : Nat → Nat → Int32
  | _, 0 => -4
  | s, m + 1 => if n ≤ F s then nI s else xsk F n (s + 1) m
theorem xo3_le (f v w s : Nat) : xo3 f v w s ≤ 2 * (s + 1) := by
  have a : xo2 v (s + 1 - f) ≤ 2 * (s + 1) := by unfold xo2; split <;> omega
  unfold xo3 xo1
  split <;> omega
theorem xsC_le (f v w : Nat → Nat) (s : Nat) : ∀ c, xsC f v w s c ≤ 2 * (s + 1) * c
  | 0 => Nat.zero_le _
  | c + 1 => by
    have a := xsC_le f v w s c
    have b := xo3_le (f c) (v c) (w c) s
    simp only [xsC]
    rw [Nat.mul_add]
    omega
theorem xsC_cg {f v w f' v' w' : Nat → Nat} {s : Nat} : ∀ c, (∀ j, j < c → f' j = f j ∧ v' j = v j ∧ w' j = w j) → xsC f' v' w' s c = xsC f v w s c
  | 0, _ => rfl
  | c + 1, q => by
    obtain ⟨a, b, d⟩ := q c (by omega)
    simp only [xsC]
    rw [xsC_cg c (fun j hj => q j (by omega)), a, b, d]
theorem sa1 (x y : Int32) : x - y + nI 1 = x + nI 1 - y := by
  rw [Int32.sub_eq_add_neg, Int32.sub_eq_add_neg, Int32.add_assoc, Int32.add_assoc, Int32.add_comm (nI 1)]
theorem xse_le (h : Nat → Nat) (k r : Nat) : xse h k r ≤ 2 := by
  unfold xse
  split
  · omega
  · split <;> omega
theorem xsd_se {h : Nat → Nat} {k r : Nat} (h0 : xdr h k 0 < 2 ^ 31) (h1 : xdr h k 1 < 2 ^ 31) (h2 : r < 2 ^ 31) : xsd h k r = if xse h k r = 2 then -1 else nI (xse h k r) := by
  unfold xsd xse
  simp only [nI_eq h0 h2, nI_eq h1 h2]
  by_cases a : xdr h k 0 = r
  · simp [a]
  · by_cases b : xdr h k 1 = r
    · simp [a, b]
    · simp [a, b]
section C41
variable {M N : xM} {Q : Option Value → xM → Prop} {S S1 : xA} {h h' : Nat → Nat}
theorem c61 {d e : Nat} (H : cH 9 h M) (W : xWF h) (hd : d < h 1) (he : e < 2) : xW xSC 61 0 [.ref 39, .ref 9, .int (nI d), .int (nI e)] [] M Q = Q (some (.int (if xslow h d e = true then nI 1 else nI 0))) (xsc 40 (1 + xSP h (xw h d e) (xg h d e) (xg h d (1 - e))) (1 + xSQ h (xw h d e) (xg h d e) (xg h d (1 - e))) M) := by
  have h8 := W.1.2.2.1
  obtain ⟨-, -, -, hw2, -, -, -, -⟩ := W.2.1 d hd
  have m3 : M 10 (d * 6 + 2) = nI (h (3 + (d * 6 + 2))) := H.2.1 _ (by omega)
  have m4 : xwi (nI (h (3 + (d * 6 + 2)))) (nI e) = nI (xw h d e) := xwi_nI (by omega) (by omega)
  have lp := xSP_le W (xw h d e) (xg h d e) (xg h d (1 - e))
  have lq := xSQ_le W (xw h d e) (xg h d e) (xg h d (1 - e))
  have lw : xw h d e < 3 := xwt_lt _ _
  have o10 : ∀ p r, xsc 40 p r M 10 = M 10 := fun p r => xsc_o (by decide)
  have la := xag_le (xw h d e) (1 + xSP h (xw h d e) (xg h d e) (xg h d (1 - e))) (1 + xSQ h (xw h d e) (xg h d e) (xg h d (1 - e)))
  unfold xslow
  by_cases q : 1 + xSP h (xw h d e) (xg h d e) (xg h d (1 - e)) + (1 + xSQ h (xw h d e) (xg h d e) (xg h d (1 - e))) < 2 * xag (xw h d e) (1 + xSP h (xw h d e) (xg h d e) (xg h d (1 - e))) (1 + xSQ h (xw h d e) (xg h d e) (xg h d (1 - e)))
  · simp (disch := first | decide | omega) only [s61, c44_40 H W hd he, xpush_n, c37, o10, m3, m4, xpush_s, s53, c52_40 (xsc_0 _ _ _ _) (xsc_1 _ _ _ _) lw, pk_mul, xsc_0, xsc_1, nI_add, nI_lt_t, if_true, h53_24, decide_eq_true q]
  · simp (disch := first | decide | omega) only [s61, c44_40 H W hd he, xpush_n, c37, o10, m3, m4, xpush_s, s53, c52_40 (xsc_0 _ _ _ _) (xsc_1 _ _ _ _) lw, pk_mul, xsc_0, xsc_1, nI_add, nI_lt_f, if_false, h53_24, decide_eq_false q, Bool.false_eq_true]
theorem c12 {c k e : Nat} (H : cH 9 h M) (W : xWF h) (hk : k < h 1) (he : e < 2) (hc : c < 8) (mc : M 41 3 = nI c) (hQ : ∀ M', xfr 40 44 M M' → M' 41 3 = nI (c + 1) → (M' 42 c = nI (xfo4 h k e) ∧ M' 43 c = nI (xlv2 h k) ∧ M' 44 c = nI (xw h k e)) → (∀ j, j ≠ c → M' 42 j = M 42 j ∧ M' 43 j = M 43 j ∧ M' 44 j = M 44 j) → Q none M') : xW xSC 12 0 [.ref 41, .ref 9, .ref 39, .int (nI k), .int (nI e)] [] M Q := by
  have h8 := W.1.2.2.1
  obtain ⟨-, -, -, hw2, -, -, -, -⟩ := W.2.1 k hk
  have m3 : M 10 (k * 6 + 2) = nI (h (3 + (k * 6 + 2))) := H.2.1 _ (by omega)
  have lv : M 10 (k * 6 + 3) = nI (xlv2 h k) := H.2.1 _ (by omega)
  have m4 : xwi (nI (h (3 + (k * 6 + 2)))) (nI e) = nI (xw h k e) := xwi_nI (by omega) (by omega)
  have o : ∀ p r a, a ≠ 40 → xsc 40 p r M a = M a := fun p r a q => xsc_o q
  have o10 : ∀ p r, xsc 40 p r M 10 = M 10 := fun p r => xsc_o (by decide)
  have o41 : ∀ p r, xsc 40 p r M 41 = M 41 := fun p r => xsc_o (by decide)
  have fin : ∀ p r, Q none (xup (xup (xup (xup (xsc 40 p r M) 42 c (nI (xfo4 h k e))) 43 c (nI (xlv2 h k))) 44 c (nI (xw h k e))) 41 3 (nI (c + 1))) := fun p r => by
    refine hQ _ (fun a q => ?_) (xup_rs _ _ _ _) ⟨?_, ?_, ?_⟩ (fun j hj => ⟨?_, ?_, ?_⟩)
    · rw [xup_other (by omega), xup_other (by omega), xup_other (by omega), xup_other (by omega), o _ _ _ (by omega)]
    · rw [xup_o (by decide), xup_o (by decide), xup_o (by decide), xup_rs]
    · rw [xup_o (by decide), xup_o (by decide), xup_rs]
    · rw [xup_o (by decide), xup_rs]
    · rw [xup_o (by decide), xup_o (by decide), xup_o (by decide), xup_r hj, o _ _ _ (by decide)]
    · rw [xup_o (by decide), xup_o (by decide), xup_r hj, xup_o (by decide), o _ _ _ (by decide)]
    · rw [xup_o (by decide), xup_r hj, xup_o (by decide), xup_o (by decide), o _ _ _ (by decide)]
  unfold xfo4 at fin
  by_cases q : xslow h k e = true
  · rw [if_pos q] at fin
    simp (disch := first | decide | omega) only [s12, nI_nneg, if_false, mc, c61 H W hk he, if_pos q, xpush_s, i12, h12_30, cS, xpush_n, xup_o, o41, o10, c28, lv, c37, m3, m4, nI_add]
    exact fin _ _
  · rw [if_neg q] at fin
    simp (disch := first | decide | omega) only [s12, nI_nneg, if_false, mc, c61 H W hk he, if_neg q, xpush_s, i00, if_true, h12_30, cS, xpush_n, xup_o, o41, o10, c28, lv, c37, m3, m4, nI_add]
    exact fin _ _
theorem c14 {k f v w s : Nat} (hk : k < 8) (hf : f ≤ 4) (hv : v ≤ 2) (hw : w ≤ 2) (hs : s ≤ 102) (m1 : M 42 k = nI f) (m2 : M 43 k = nI v) (m3 : M 44 k = nI w) : xW xSC 14 0 [.ref 41, .int (nI k), .int (nI s), .null] [] M Q = Q (some (.int (nI (xo3 f v w s)))) M := by
  have fin : ∀ x, x ≤ 300 → xW xSC 14 42 [.ref 41, .int (nI k), .int (nI s), .int (nI x)] [] M Q = Q (some (.int (nI (xo1 w x)))) M := by
    intro x hx
    rw [h14_42]
    unfold xo1
    by_cases q : w = 1
    · simp (disch := first | decide | omega) only [s14, cG, m3, xpush_s, nI_eq_t, if_true, xmin_nI, h14_63, if_pos q]
    · simp (disch := first | decide | omega) only [s14, cG, m3, xpush_s, nI_eq_f, if_false, h14_63, if_neg q]
  unfold xo3 xo2
  by_cases q : 10 < s + 1 - f
  · by_cases q2 : v = 2
    · have hx : xmax (nI (s - f + 1)) (nI 0) = nI (s + 1 - f) := by
        rw [xmax_nI (by omega) (by omega)]
        exact congrArg nI (by omega)
      rw [if_pos ⟨q2, q⟩]
      simp (disch := first | decide | omega) only [s14, cG, m1, m2, xpush_s, hx, nI_add, nI_lt_t, if_true, nI_eq_t, pk_sub, fin]
    · rw [if_neg (fun z => q2 z.1)]
      simp (disch := first | decide | omega) only [s14, cG, m1, m2, xpush_s, sa1, nI_add, nsub_max, nI_lt_t, if_true, nI_eq_f, if_false, fin]
  · rw [if_neg (fun z => q z.2)]
    simp (disch := first | decide | omega) only [s14, cG, m1, m2, xpush_s, sa1, nI_add, nsub_max, nI_lt_f, if_false, fin]
theorem c13 {c n : Nat} {f v w : Nat → Nat} (hn : n ≤ 99) (hc : c ≤ 8) (mc : M 41 3 = nI c) (hf : ∀ j, j < c → f j ≤ 4 ∧ v j ≤ 2 ∧ w j ≤ 2) (hm : ∀ j, j < c → M 42 j = nI (f j) ∧ M 43 j = nI (v j) ∧ M 44 j = nI (w j)) (hQ : Q (some (.int (xsk (fun s => xsC f v w s c) n 1 102))) M) : xW xSC 13 0 [.ref 41, .int (nI n), .null, .null, .null] [] M Q := by
  have inn : ∀ (m k s : Nat) (x4 : Value), k + m = c → s ≤ 102 → (∀ x4 : Int32, xW xSC 13 38 [.ref 41, .int (nI n), .int (nI s), .int (nI (xsC f v w s c)), .int x4] [] M Q) → xW xSC 13 13 [.ref 41, .int (nI n), .int (nI s), .int (nI (xsC f v w s k)), .int (nI k)] [] M Q := by
    intro m
    induction m with
    | zero =>
      intro k s x4 hk hs q
      have hk : k = c := hk
      have q := q (nI k)
      rw [h13_13, hk]
      rw [hk] at q
      simp (disch := first | decide | omega) only [s13, mc, nI_lt_f, if_false] at q ⊢
      exact q
    | succ m ih =>
      intro k s x4 hk hs q
      obtain ⟨a1, a2, a3⟩ := hm k (by omega)
      obtain ⟨b1, b2, b3⟩ := hf k (by omega)
      rw [h13_13]
      simp (disch := first | decide | omega) only [s13, mc, nI_lt_t, if_true, c14 (show k < 8 by omega) b1 b2 b3 hs a1 a2 a3, xpush_s, nI_add]
      exact ih (k + 1) s (.null) (by omega) hs q
  have out : ∀ (m s : Nat) (x3 x4 : Value), s + m = 103 → xsk (fun s => xsC f v w s c) n s m = xsk (fun s => xsC f v w s c) n 1 102 → xW xSC 13 2 [.ref 41, .int (nI n), .int (nI s), x3, x4] [] M Q := by
    intro m
    induction m with
    | zero =>
      intro s x3 x4 hs q
      have hs : s = 103 := hs
      subst hs
      have q : -4 = xsk (fun s => xsC f v w s c) n 1 102 := q
      rw [← q] at hQ
      rw [h13_2]
      simp (disch := first | decide | omega) only [s13, nI_lt_t, if_true]
      exact hQ
    | succ m ih =>
      intro s x3 x4 hs q
      have q : (if n ≤ xsC f v w s c then nI s else xsk (fun s => xsC f v w s c) n (s + 1) m) = xsk (fun s => xsC f v w s c) n 1 102 := q
      rw [h13_2]
      simp (disch := first | decide | omega) only [s13, nI_lt_f, if_false]
      refine inn c 0 s (.null) (by omega) (by omega) (fun x4 => ?_)
      have lc := xsC_le f v w s c
      have lc2 : 2 * (s + 1) * c ≤ 206 * 8 := Nat.mul_le_mul (by omega) hc
      by_cases y : n ≤ xsC f v w s c
      · rw [if_pos y] at q
        rw [← q] at hQ
        simp (disch := first | decide | omega) only [s13, nI_lt_f, if_false]
        exact hQ
      · rw [if_neg y] at q
        simp (disch := first | decide | omega) only [s13, nI_lt_t, if_true, nI_add]
        exact ih (s + 1) _ _ (by omega) q
  simp (disch := first | decide | omega) only [s13]
  exact out 102 1 _ _ (by omega) rfl
end C41
