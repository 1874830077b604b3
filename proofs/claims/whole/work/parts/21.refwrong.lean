/-! the reference: how often one is wrong -/
/-- nothing but what the reference works with has changed -/
def rfr (M M' : xM) : Prop := (∀ a, a ≠ 0 → a ≠ 3 → a ≠ 4 → a ≠ 5 → M' a = M a) ∧ ∀ j, j ≠ 4 → j ≠ 7 → j ≠ 8 → M' 0 j = M 0 j
theorem rfr.rf {M : xM} : rfr M M := ⟨fun _ _ _ _ _ => rfl, fun _ _ _ _ => rfl⟩
theorem rfr.tr {M M1 M2 : xM} (h1 : rfr M M1) (h2 : rfr M1 M2) : rfr M M2 := ⟨fun a b c d e => (h2.1 a b c d e).trans (h1.1 a b c d e), fun j b c d => (h2.2 j b c d).trans (h1.2 j b c d)⟩
theorem rfr.hand {M M' : xM} (h : xfr 5 5 M M') : rfr M M' := ⟨fun a _ _ _ q => h a (by omega), fun j _ _ _ => by rw [h 0 (by omega)]⟩
theorem rfr.f {M : xM} {j : Nat} {x : Int32} (h : j = 4 ∨ j = 7 ∨ j = 8) : rfr M (xup M 0 j x) := ⟨fun a q _ _ _ => xup_other q, fun k _ _ _ => xup_r (by omega)⟩
theorem rfr.a {M : xM} {a j : Nat} {x : Int32} (h : a = 3 ∨ a = 4 ∨ a = 5) : rfr M (xup M a j x) := ⟨fun b _ _ _ _ => xup_other (by omega), fun k _ _ _ => xup_o (by omega)⟩
theorem rH.fr {h : Nat → Nat} {M M' : xM} (R : rH 1 h M) (f : rfr M M') : rH 1 h M' := R.mono (f.1 1 (by decide) (by decide) (by decide) (by decide))
theorem xtw_0 (h : Nat → Nat) (d e v : Nat) : ∀ n s, xtw h (fun _ => 0) d e v s n = 0
  | 0, s => rfl
  | n + 1, s => by
    simp only [xtw, xtw_0 h d e v n (s + 1), xtt, Nat.mul_zero, ite_self]
theorem gcd_div {a b : Nat} (n : Nat) (hb : 0 < b) : n * (a / Nat.gcd a b) / (b / Nat.gcd a b) = a * n / b := by
  have g : 0 < Nat.gcd a b := Nat.gcd_pos_of_pos_right _ hb
  have e1 : a / Nat.gcd a b * Nat.gcd a b = a := Nat.div_mul_cancel (Nat.gcd_dvd_left a b)
  have e2 : b / Nat.gcd a b * Nat.gcd a b = b := Nat.div_mul_cancel (Nat.gcd_dvd_right a b)
  rw [← Nat.mul_div_mul_right (n * (a / Nat.gcd a b)) (b / Nat.gcd a b) g, Nat.mul_assoc, e1, e2, Nat.mul_comm]
section C21
variable {M : xM} {Q : Option Value → xM → Prop} {h : Nat → Nat}
theorem r166 {a b : Nat} (ha : a < 2 ^ 31) (hb : b < 2 ^ 31) : xW xSR 166 0 [.int (nI a), .int (nI b), .null, .null, .null] [] M Q = Q (some (.int (nI (Nat.gcd a b)))) M := by
  have key : ∀ (n a b : Nat) (v : Value), b < n → a < 2 ^ 31 → b < 2 ^ 31 → ∀ u w, xW xSR 166 4 [.int u, .int w, .int (nI a), .int (nI b), v] [] M Q = Q (some (.int (nI (Nat.gcd a b)))) M := by
    intro n
    induction n with
    | zero =>
      intro a b v hn
      omega
    | succ n ih =>
      intro a b v hn ha hb u w
      rw [h166_4]
      by_cases q : b = 0
      · subst q
        simp (disch := omega) only [s166, j166, i00, if_true, Nat.gcd_zero_right]
      · have hr : a % b < b := Nat.mod_lt _ (Nat.pos_of_ne_zero q)
        simp (disch := omega) only [s166, j166, nI_eq_f, if_false, pk_rem]
        rw [ih b (a % b) _ (by omega) hb (by omega), Nat.gcd_comm a b, Nat.gcd_rec b a, Nat.gcd_comm]
  simp only [s166]
  exact key (b + 1) a b _ (by omega) ha hb _ _
/-- its end: to lowest terms -/
theorem r167e {a b : Nat} {a1 a2 a3 a4 : Int32} {a5 : Int32} {a6 : Value} (ha : M 0 7 = nI a) (hb : M 0 8 = nI b) (h1 : a < 2 ^ 31) (h2 : b < 2 ^ 31) (h0 : 0 < b) (hQ : ∀ M', rfr M M' → M' 5 = M 5 → M' 0 7 = nI (a / Nat.gcd a b) → M' 0 8 = nI (b / Nat.gcd a b) → Q none M') : xW xSR 167 132 [.ref 0, .int a1, .int a2, .int a3, .int a4, .int a5, a6] [] M Q := by
  have g1 : 0 < Nat.gcd a b := Nat.gcd_pos_of_pos_right _ h0
  have g2 : Nat.gcd a b ≤ b := Nat.gcd_le_right _ h0
  rw [h167_132]
  simp (disch := first | decide | omega) only [s167, j167, ha, hb, r166 h1 h2, xpush_s, pk_div, xup_r, xup_rs]
  refine hQ _ ((rfr.f (by decide)).tr (rfr.f (by decide))) (by rw [xup_other (by decide), xup_other (by decide)]) ?_ ?_
  · rw [xup_r (by decide), xup_rs]
  · rw [xup_rs]
/-- of a person -/
theorem r167 {i d e p r tr : Nat} (R : rH 1 h M) (W : xWF h) (hd : d < h 1) (he : e < 2) (hi : i < 5) (ht : tr ≤ 1) (hp : M 5 0 = nI p) (hr : M 5 1 = nI r) (p1 : 1 ≤ p) (p2 : p ≤ 32000) (r2 : r ≤ 32000)
    (hQ : ∀ M', rfr M M' → M' 5 = M 5 → M' 0 7 = nI (xab (xw h d e) tr (xlv2 h d) (xTi h i (2 * d) + xTi h i (2 * d + 1)) p r / Nat.gcd (xab (xw h d e) tr (xlv2 h d) (xTi h i (2 * d) + xTi h i (2 * d + 1)) p r) (xbe (xlv2 h d) (xTi h i (2 * d) + xTi h i (2 * d + 1)) p r)) → M' 0 8 = nI (xbe (xlv2 h d) (xTi h i (2 * d) + xTi h i (2 * d + 1)) p r / Nat.gcd (xab (xw h d e) tr (xlv2 h d) (xTi h i (2 * d) + xTi h i (2 * d + 1)) p r) (xbe (xlv2 h d) (xTi h i (2 * d) + xTi h i (2 * d + 1)) p r)) → Q none M') :
    xW xSR 167 0 [.ref 0, .int (nI i), .int (nI d), .int (nI e), .int (nI tr), .null, .null] [] M Q := by
  have h8 := W.1.2.2.1
  have t0 := xTi_99 W hi (2 * d) (by omega)
  have t1 := xTi_99 W hi (2 * d + 1) (by omega)
  obtain ⟨b1, b2, b3, b4⟩ := xab_le (w := xw h d e) (tr := tr) (lv := xlv2 h d) (both := xTi h i (2 * d) + xTi h i (2 * d + 1)) p2 r2 p1 (by omega)
  obtain ⟨-, -, -, -, hv1, hv2, -, -⟩ := W.2.1 d hd
  have hv : xlv2 h d ≤ 2 := hv2
  have ml : M 1 (3 + 6 * d + 3) = nI (xlv2 h d) := R.at _ (by omega) (by omega) (by omega)
  have mt0 : M 1 (66 + 16 * i + 2 * d + 0) = nI (xTi h i (2 * d)) := R.at _ (by omega) (by omega) (by omega)
  have mt1 : M 1 (66 + 16 * i + 2 * d + 1) = nI (xTi h i (2 * d + 1)) := R.at _ (by omega) (by omega) (by omega)
  have hu : xw h d e < 3 := xwt_lt _ _
  have two : ∀ x : Nat, x = (if tr = 0 then xag (xw h d e) p r else 0) → xW xSR 167 33 [.ref 0, .int (nI i), .int (nI d), .int (nI e), .int (nI tr), .int (nI (xw h d e)), .null] [.int (nI x), .ref 0] M Q := by
    intro x hx
    simp only [h167_33]
    by_cases q : xlv2 h d = 2
    · have e1 : xab (xw h d e) tr (xlv2 h d) (xTi h i (2 * d) + xTi h i (2 * d + 1)) p r = x * (2 + (xTi h i (2 * d) + xTi h i (2 * d + 1))) + (p + r) := by unfold xab; rw [if_pos q, hx]
      have e2 : xbe (xlv2 h d) (xTi h i (2 * d) + xTi h i (2 * d + 1)) p r = (p + r) * (2 + (xTi h i (2 * d) + xTi h i (2 * d + 1))) := by unfold xbe; rw [if_pos q]
      rw [e1] at b1 b4
      rw [e2] at b1 b2 b3
      simp only [e1, e2] at hQ
      have ql : (nI (xlv2 h d) = nI 2) = True := by rw [q]; exact nI_eq_t rfl
      simp (disch := first | decide | omega) only [s167, h167_102, xup_o, hp, hr, nI_add, pk_mul, ml, ql, if_true, nI_nneg, if_false, r158, xpush_s, mt0, mt1, xup_r, xup_rs]
      refine r167e (a := x * (2 + (xTi h i (2 * d) + xTi h i (2 * d + 1))) + (p + r)) (b := (p + r) * (2 + (xTi h i (2 * d) + xTi h i (2 * d + 1)))) ?_ ?_ (by omega) (by omega) b2 (fun M' f0 f5 f1 f2 => hQ M' ?_ ?_ f1 f2)
      · rw [xup_r (by decide), xup_rs]
      · rw [xup_rs]
      · exact (((rfr.f (by decide)).tr (rfr.f (by decide))).tr ((rfr.f (by decide)).tr (rfr.f (by decide)))).tr f0
      · rw [f5, xup_other (by decide), xup_other (by decide), xup_other (by decide), xup_other (by decide)]
    · have e1 : xab (xw h d e) tr (xlv2 h d) (xTi h i (2 * d) + xTi h i (2 * d + 1)) p r = x := by unfold xab; rw [if_neg q, hx]
      have e2 : xbe (xlv2 h d) (xTi h i (2 * d) + xTi h i (2 * d + 1)) p r = p + r := by unfold xbe; rw [if_neg q]
      rw [e1] at b1 b4
      rw [e2] at b1 b2 b3
      simp only [e1, e2] at hQ
      simp (disch := first | decide | omega) only [s167, xup_o, hp, hr, nI_add, pk_mul, ml, nI_eq_f, if_false]
      refine r167e (a := x) (b := p + r) ?_ ?_ (by omega) (by omega) b2 (fun M' f0 f5 f1 f2 => hQ M' ?_ ?_ f1 f2)
      · rw [xup_r (by decide), xup_rs]
      · rw [xup_rs]
      · exact ((rfr.f (by decide)).tr (rfr.f (by decide))).tr f0
      · rw [f5, xup_other (by decide), xup_other (by decide)]
  simp (disch := first | decide | omega) only [s167, r161 R W hd he, xpush_s]
  rcases (show tr = 0 ∨ tr = 1 by omega) with rfl | rfl
  · rcases (show xw h d e = 0 ∨ xw h d e = 1 ∨ xw h d e = 2 by omega) with u | u | u <;> rw [u] at two ⊢ <;> simp (disch := first | decide | omega) only [nI_eq_f, i00, nI_eq_t, if_true, if_false, pk_sub, hp, hr, h167_20, s167] <;> exact two _ rfl
  · rcases (show xw h d e = 0 ∨ xw h d e = 1 ∨ xw h d e = 2 by omega) with u | u | u <;> rw [u] at two ⊢ <;> simp (disch := first | decide | omega) only [nI_eq_f, nI_eq_t, if_true, if_false, i12, h167_20, s167] <;> exact two _ rfl
theorem r168 {i d e : Nat} (R : rH 1 h M) (W : xWF h) (hd : d < h 1) (he : e < 2) (hi : i < h 2) : xW xSR 168 0 [.ref 0, .int (nI i), .int (nI d), .int (nI e)] [] M Q = Q (some (.int (if xTr h i = 0 ∨ xw h d e ≠ 1 then nI 1 else nI 0))) M := by
  have h5 := W.1.2.2.2
  obtain ⟨-, w2, -⟩ := W.2.2.1 i hi
  have w2 : xTr h i ≤ 1 := w2
  have mt : M 1 (51 + 3 * i + 1) = nI (xTr h i) := R.at _ (by omega) (by omega) (by omega)
  have hu : xw h d e < 3 := xwt_lt _ _
  rcases (show xTr h i = 0 ∨ xTr h i = 1 by omega) with q | q
  · rw [q] at mt
    simp (disch := first | decide | omega) only [s168, j168, pk_mul, nI_add, mt, i00, if_true, q, true_or]
  · rw [q] at mt
    by_cases u : xw h d e = 1
    · simp (disch := first | decide | omega) only [s168, j168, pk_mul, nI_add, mt, i12, if_false, r161 R W hd he, xpush_s, u, nI_eq_t, if_true, q]
      simp
    · simp (disch := first | decide | omega) only [s168, j168, pk_mul, nI_add, mt, i12, if_false, r161 R W hd he, xpush_s, nI_eq_f, q]
      simp [u]
theorem r171 {d : Nat} {rr : Int32} (R : rH 1 h M) (hd : d < 8) : xW xSR 171 0 [.ref 0, .int (nI d), .int rr] [] M Q = Q (some (.int (if nI (xdr h d 0) = rr then nI 0 else if nI (xdr h d 1) = rr then nI 1 else -1))) M := by
  have m0 : M 1 (3 + 6 * d) = nI (xdr h d 0) := R.at _ (by omega) (by omega) (by omega)
  have m1 : M 1 (3 + 6 * d + 1) = nI (xdr h d 1) := R.at _ (by omega) (by omega) (by omega)
  simp (disch := first | decide | omega) only [s171, j171, pk_mul, nI_add, m0, m1]
  split
  · rfl
  · split <;> rfl
/-- parts of a thousand, of a person -/
theorem r169 {i d e la tr : Nat} (R : rH 1 h M) (W : xWF h) (hd : d < h 1) (he : e < 2) (hi : i < 5) (hl : la ≤ 3) (ht : tr ≤ 1)
    (hQ : ∀ M', rfr M M' → M' 0 7 = nI (xAA h (xTi h i) la tr d e / Nat.gcd (xAA h (xTi h i) la tr d e) (xBB h (xTi h i) la d e)) → M' 0 8 = nI (xBB h (xTi h i) la d e / Nat.gcd (xAA h (xTi h i) la tr d e) (xBB h (xTi h i) la d e)) → Q (some (.int (nI (xpa h (xTi h i) la tr d e)))) M') :
    xW xSR 169 0 [.ref 0, .int (nI i), .int (nI d), .int (nI e), .int (rli la), .int (nI tr)] [] M Q := by
  have h8 := W.1.2.2.1
  have hT := xTi_99 W hi
  have pp := xPP_le W la d e hT
  have qq := xQQ_le W la d e hT
  obtain ⟨b1, b2, b3, b4⟩ := xAA_le W la tr (d := d) (e := e) (by omega) hT
  simp only [s169]
  refine r164 R W hd he hi hl (fun M1 f0 f1 f2 => ?_)
  simp only [xpush_n, s169]
  refine r167 (R.fr (rfr.hand f0)) W hd he hi ht f1 f2 pp.1 pp.2 qq.2 (fun M2 g0 g5 g1 g2 => ?_)
  have e1 : M2 0 7 = nI (xAA h (xTi h i) la tr d e / Nat.gcd (xAA h (xTi h i) la tr d e) (xBB h (xTi h i) la d e)) := g1
  have e2 : M2 0 8 = nI (xBB h (xTi h i) la d e / Nat.gcd (xAA h (xTi h i) la tr d e) (xBB h (xTi h i) la d e)) := g2
  have gp : 0 < Nat.gcd (xAA h (xTi h i) la tr d e) (xBB h (xTi h i) la d e) := Nat.gcd_pos_of_pos_right _ b2
  have gl : Nat.gcd (xAA h (xTi h i) la tr d e) (xBB h (xTi h i) la d e) ≤ xBB h (xTi h i) la d e := Nat.gcd_le_right _ b2
  have c1 : xAA h (xTi h i) la tr d e / Nat.gcd (xAA h (xTi h i) la tr d e) (xBB h (xTi h i) la d e) ≤ xAA h (xTi h i) la tr d e := Nat.div_le_self _ _
  have c2 : xBB h (xTi h i) la d e / Nat.gcd (xAA h (xTi h i) la tr d e) (xBB h (xTi h i) la d e) ≤ xBB h (xTi h i) la d e := Nat.div_le_self _ _
  have c3 : 0 < xBB h (xTi h i) la d e / Nat.gcd (xAA h (xTi h i) la tr d e) (xBB h (xTi h i) la d e) := Nat.div_pos gl gp
  simp (disch := omega) only [xpush_n, s169, j169, e1, e2, nI_l, lN_mul, pk_lDiv, lN_i]
  rw [gcd_div 1000 b2]
  exact hQ M2 ((rfr.hand f0).tr g0) e1 e2
end C21
