/-! how often a stranger is wrong -/
def xsA (h : Nat → Nat) (lv w m o : Nat) : Nat := xab w 0 lv 0 (1 + xSP h w m o) (1 + xSQ h w m o)
def xsB (h : Nat → Nat) (lv w m o : Nat) : Nat := xbe lv 0 (1 + xSP h w m o) (1 + xSQ h w m o)
def xsp (h : Nat → Nat) (lv w m o : Nat) : Nat := xsA h lv w m o * 1000 / xsB h lv w m o
/-- on both sides of a door, if it opened so and no sign stood but the allowed -/
def xpt (h : Nat → Nat) (d o al : Nat) : Nat := xsp h (xlv2 h d) (xwt o 0) (xg h d 0 &&& al) (xg h d (1 - 0) &&& al) + xsp h (xlv2 h d) (xwt o 1) (xg h d 1 &&& al) (xg h d (1 - 1) &&& al)
def xal (h : Nat → Nat) (al : Nat) : Nat → Nat → Nat
  | _, 0 => 0
  | d, n + 1 => xpt h d (h (3 + (d * 6 + 2))) al + xal h al (d + 1) n
theorem xand : ∀ a, a < 64 → ∀ b, b < 64 → nI a &&& nI b = nI (a &&& b) := by decide +kernel
theorem xand_lt {a b : Nat} (h : a < 64) : a &&& b < 64 := Nat.lt_of_le_of_lt Nat.and_le_left h
theorem xand63 : ∀ a, a < 64 → a &&& 63 = a := by decide +kernel
theorem xsA_le {h : Nat → Nat} (W : xWF h) (lv w m o : Nat) : 2 * xsA h lv w m o ≤ 3 * xsB h lv w m o ∧ 0 < xsB h lv w m o ∧ xsB h lv w m o ≤ 12800000 ∧ xsA h lv w m o ≤ 19200000 := by
  have a := xSP_le W w m o
  have b := xSQ_le W w m o
  exact xab_le (by omega) (by omega) (by omega) (by omega)
theorem xsp_le {h : Nat → Nat} (W : xWF h) (lv w m o : Nat) : xsp h lv w m o ≤ 1500 := by
  obtain ⟨a, b, -, -⟩ := xsA_le W lv w m o
  unfold xsp
  exact Nat.div_le_of_le_mul (by omega)
section C36
variable {M N : xM} {Q : Option Value → xM → Prop} {S S1 : xA} {h h' : Nat → Nat}
theorem c63 {d w m o : Nat} (H : cH 9 h M) (W : xWF h) (hd : d < h 1) (hw : w < 3) (hm : m < 64) (ho : o < 64) : xW xSC 63 0 [.ref 39, .ref 9, .int (nI d), .int (nI w), .int (nI m), .int (nI o)] [] M Q = Q none (xsf 40 (1 + xSP h w m o) (1 + xSQ h w m o) (xsA h (xlv2 h d) w m o) (xsB h (xlv2 h d) w m o) M) := by
  have h8 := W.1.2.2.1
  obtain ⟨-, -, -, -, hv1, hv2, -, -⟩ := W.2.1 d hd
  have hv : xlv2 h d ≤ 2 := hv2
  have hb : h 148 ≤ 20 := W.2.2.2.2 2 (by decide)
  have lv : M 10 (d * 6 + 3) = nI (xlv2 h d) := H.2.1 _ (by omega)
  have o10 : ∀ p r, xsc 40 p r M 10 = M 10 := fun p r => xsc_o (by decide)
  simp (disch := first | decide | omega) only [s63, c45_40 H.do hw hm ho (show h 148 < 2 ^ 31 by omega), xpush_n, c28, o10, lv, xpush_s, c51_40 hw (show 0 ≤ 1 by decide) hv]
  rfl
theorem c64s {d o al e sum : Nat} {x7 x8 : Value} (H : cH 9 h M) (W : xWF h) (hd : d < h 1) (ho : o < 3) (ha : al < 64) (he : e < 2) (hQ : ∀ M' x7 x8, xfr 40 40 M M' → xW xSC 64 6 [.ref 39, .ref 9, .int (nI d), .int (nI o), .int (nI al), .int (nI (sum + xsp h (xlv2 h d) (xwt o e) (xg h d e &&& al) (xg h d (1 - e) &&& al))), .int (nI (e + 1)), x7, x8] [] M' Q) : xW xSC 64 6 [.ref 39, .ref 9, .int (nI d), .int (nI o), .int (nI al), .int (nI sum), .int (nI e), x7, x8] [] M Q := by
  have h8 := W.1.2.2.1
  have g1 : M 10 (d * 6 + (4 + e)) = nI (xg h d e) := H.2.1 _ (by omega)
  have g2 : M 10 (d * 6 + (4 + (1 - e))) = nI (xg h d (1 - e)) := H.2.1 _ (by omega)
  have l1 := W.g hd he
  have l2 := W.g hd (show 1 - e < 2 by omega)
  have m4 : xwi (nI o) (nI e) = nI (xwt o e) := xwi_nI (by omega) (by omega)
  obtain ⟨b1, b2, b3, b4⟩ := xsA_le W (xlv2 h d) (xwt o e) (xg h d e &&& al) (xg h d (1 - e) &&& al)
  rw [h64_6]
  simp (disch := first | decide | omega) only [s64, nI_lt_t, if_true, c36, g1, g2, xpush_s, xpush_n, pk_sub, xand _ l1 _ ha, xand _ l2 _ ha, c38, m4, c63 H W hd (xwt_lt o e) (xand_lt l1) (xand_lt l2), c55_40 (xsf_2 _ _ _ _ _ _) (xsf_3 _ _ _ _ _ _) (show xsA h (xlv2 h d) (xwt o e) (xg h d e &&& al) (xg h d (1 - e) &&& al) < 2 ^ 31 by omega) (show xsB h (xlv2 h d) (xwt o e) (xg h d e &&& al) (xg h d (1 - e) &&& al) < 2 ^ 31 by omega) (show 1000 < 2 ^ 31 by decide) b2, nI_add]
  exact hQ _ _ _ xsf_fr
theorem c64 {d o al : Nat} (H : cH 9 h M) (W : xWF h) (hd : d < h 1) (ho : o < 3) (ha : al < 64) (hQ : ∀ M', xfr 40 40 M M' → Q (some (.int (nI (xpt h d o al)))) M') : xW xSC 64 0 [.ref 39, .ref 9, .int (nI d), .int (nI o), .int (nI al), .null, .null, .null, .null] [] M Q := by
  simp (disch := first | decide | omega) only [s64]
  refine c64s H W hd ho ha (by decide) (fun M1 x7 x8 f => ?_)
  refine c64s (H.fr f (by omega)) W hd ho ha (by decide) (fun M2 y7 y8 g => ?_)
  rw [h64_6]
  simp (disch := first | decide | omega) only [s64, nI_lt_f, if_false]
  have := hQ M2 (f.tr g)
  unfold xpt at this
  rw [Nat.zero_add]
  exact this
theorem c65 {al : Nat} (H : cH 9 h M) (W : xWF h) (ha : al < 64) (hQ : ∀ M', xfr 40 40 M M' → Q (some (.int (nI (xal h al 0 (h 1))))) M') : xW xSC 65 0 [.ref 39, .ref 9, .int (nI al), .null, .null] [] M Q := by
  have h8 := W.1.2.2.1
  have key : ∀ (n d sum : Nat) (M1 : xM), d + n = h 1 → xfr 40 40 M M1 → sum + xal h al d n = xal h al 0 (h 1) → xW xSC 65 5 [.ref 39, .ref 9, .int (nI al), .int (nI sum), .int (nI d)] [] M1 Q := by
    intro n
    induction n with
    | zero =>
      intro d sum M1 hk f q
      have m1 : M1 9 1 = nI (h 1) := (H.fr f (by omega)).1.2.1
      rw [h65_5]
      simp (disch := first | decide | omega) only [s65, m1, nI_lt_f, if_false]
      have q : sum = xal h al 0 (h 1) := q
      rw [q]
      exact hQ M1 f
    | succ n ih =>
      intro d sum M1 hk f q
      have H1 := H.fr f (by omega)
      have m1 : M1 9 1 = nI (h 1) := H1.1.2.1
      have m3 : M1 10 (d * 6 + 2) = nI (h (3 + (d * 6 + 2))) := H1.2.1 _ (by omega)
      obtain ⟨-, -, -, hw2, -, -, -, -⟩ := W.2.1 d (by omega)
      rw [h65_5]
      simp (disch := first | decide | omega) only [s65, m1, nI_lt_t, if_true, c28, m3, xpush_s]
      refine c64 H1 W (by omega) (by omega) ha (fun M2 g => ?_)
      simp (disch := first | decide | omega) only [s65, xpush_s, nI_add]
      refine ih (d + 1) _ M2 (by omega) (f.tr g) ?_
      simp only [xal] at q
      omega
  simp (disch := first | decide | omega) only [s65]
  exact key (h 1) 0 0 M (by omega) (fun _ _ => rfl) (by omega)
/-- the reference: of a stranger -/
theorem r164s {d e : Nat} (R : rH 1 h M) (W : xWF h) (hd : d < h 1) (he : e < 2) (hQ : ∀ M', xfr 5 5 M M' → M' 5 0 = nI (1 + xSP h (xw h d e) (xg h d e) (xg h d (1 - e))) → M' 5 1 = nI (1 + xSQ h (xw h d e) (xg h d e) (xg h d (1 - e))) → Q none M') : xW xSR 164 0 [.ref 0, .int (-1), .int (nI d), .int (nI e), .int (-4), .null, .null, .null] [] M Q := by
  have h8 := W.1.2.2.1
  have em1 : ((-1 : Int32) < nI 0) = True := by decide
  have em4 : ((-4 : Int32) < nI 0) = True := by decide
  have w1 : rH 1 h (xup (xup (xup M 5 0 (nI 1)) 5 1 (nI 1)) 5 2 (nI 0)) := R.mono (by rw [xup_other (by decide), xup_other (by decide), xup_other (by decide)])
  simp (disch := decide) only [s164]
  refine r163 w1 W hd he (p := 1) (r := 1) (by rw [xup_r (by decide), xup_r (by decide), xup_rs]) (by rw [xup_r (by decide), xup_rs]) (fun M2 f0 f1 f2 => ?_)
  have fr2 : xfr 5 5 M M2 := (((xfr.up (by decide) (by decide)).tr (xfr.up (by decide) (by decide))).tr (xfr.up (by decide) (by decide))).tr f0
  have m150 : M2 1 150 = nI (h 150) := by rw [fr2 1 (by omega)]; exact R.at _ rfl (by omega) (by omega)
  have m1 : M2 1 1 = nI (h 1) := by rw [fr2 1 (by omega)]; exact R.at _ rfl (by omega) (by omega)
  simp (disch := decide) only [xpush_n, s164, j164, em4, if_true, m150]
  rw [h164_57]
  simp (disch := first | decide | omega) only [s164, j164, xup_o, m1, nI_lt_t, em1, if_true]
  exact hQ _ (fr2.tr (xfr.up (by decide) (by decide))) (by rw [xup_r (by decide), f1]) (by rw [xup_r (by decide), f2])
theorem r167s {d e p r : Nat} (R : rH 1 h M) (W : xWF h) (hd : d < h 1) (he : e < 2) (hp : M 5 0 = nI p) (hr : M 5 1 = nI r) (p1 : 1 ≤ p) (p2 : p ≤ 32000) (r2 : r ≤ 32000)
    (hQ : ∀ M', rfr M M' → M' 5 = M 5 → M' 0 7 = nI (xab (xw h d e) 0 (xlv2 h d) 0 p r / Nat.gcd (xab (xw h d e) 0 (xlv2 h d) 0 p r) (xbe (xlv2 h d) 0 p r)) → M' 0 8 = nI (xbe (xlv2 h d) 0 p r / Nat.gcd (xab (xw h d e) 0 (xlv2 h d) 0 p r) (xbe (xlv2 h d) 0 p r)) → Q none M') :
    xW xSR 167 0 [.ref 0, .int (-1), .int (nI d), .int (nI e), .int (nI 0), .null, .null] [] M Q := by
  have h8 := W.1.2.2.1
  have em1 : ((-1 : Int32) < nI 0) = True := by decide
  obtain ⟨b1, b2, b3, b4⟩ := xab_le (w := xw h d e) (tr := 0) (lv := xlv2 h d) (both := 0) p2 r2 p1 (by omega)
  obtain ⟨-, -, -, -, hv1, hv2, -, -⟩ := W.2.1 d hd
  have hv : xlv2 h d ≤ 2 := hv2
  have ml : M 1 (3 + 6 * d + 3) = nI (xlv2 h d) := R.at _ (by omega) (by omega) (by omega)
  have hu : xw h d e < 3 := xwt_lt _ _
  have two : ∀ x : Nat, x = (if 0 = 0 then xag (xw h d e) p r else 0) → xW xSR 167 33 [.ref 0, .int (-1), .int (nI d), .int (nI e), .int (nI 0), .int (nI (xw h d e)), .null] [.int (nI x), .ref 0] M Q := by
    intro x hx
    simp only [h167_33]
    by_cases q : xlv2 h d = 2
    · have e1 : xab (xw h d e) 0 (xlv2 h d) 0 p r = x * (2 + 0) + (p + r) := by unfold xab; rw [if_pos q, hx]
      have e2 : xbe (xlv2 h d) 0 p r = (p + r) * (2 + 0) := by unfold xbe; rw [if_pos q]
      rw [e1] at b1 b4
      rw [e2] at b1 b2 b3
      simp only [e1, e2] at hQ
      have ql : (nI (xlv2 h d) = nI 2) = True := by rw [q]; exact nI_eq_t rfl
      simp (disch := first | decide | omega) only [s167, h167_102, xup_o, hp, hr, nI_add, pk_mul, ml, ql, if_true, em1, if_false, xpush_s, xup_r, xup_rs]
      refine r167e (a := x * (2 + 0) + (p + r)) (b := (p + r) * (2 + 0)) ?_ ?_ (by omega) (by omega) b2 (fun M' f0 f5 f1 f2 => hQ M' ?_ ?_ f1 f2)
      · rw [xup_r (by decide), xup_rs]
      · rw [xup_rs]
      · exact (((rfr.f (by decide)).tr (rfr.f (by decide))).tr ((rfr.f (by decide)).tr (rfr.f (by decide)))).tr f0
      · rw [f5, xup_other (by decide), xup_other (by decide), xup_other (by decide), xup_other (by decide)]
    · have e1 : xab (xw h d e) 0 (xlv2 h d) 0 p r = x := by unfold xab; rw [if_neg q, hx]
      have e2 : xbe (xlv2 h d) 0 p r = p + r := by unfold xbe; rw [if_neg q]
      rw [e1] at b1 b4
      rw [e2] at b1 b2 b3
      simp only [e1, e2] at hQ
      simp (disch := first | decide | omega) only [s167, xup_o, hp, hr, nI_add, pk_mul, ml, nI_eq_f, if_false]
      refine r167e (a := x) (b := p + r) ?_ ?_ (by omega) (by omega) b2 (fun M' f0 f5 f1 f2 => hQ M' ?_ ?_ f1 f2)
      · rw [xup_r (by decide), xup_rs]
      · rw [xup_rs]
      · exact ((rfr.f (by decide)).tr (rfr.f (by decide))).tr f0
      · rw [f5, xup_other (by decide), xup_other (by decide)]
  simp (disch := first | decide | omega) only [s167, r161 R W hd he, xpush_s]
  rcases (show xw h d e = 0 ∨ xw h d e = 1 ∨ xw h d e = 2 by omega) with u | u | u <;> rw [u] at two ⊢ <;> simp (disch := first | decide | omega) only [nI_eq_f, i00, nI_eq_t, if_true, if_false, pk_sub, hp, hr, h167_20, s167] <;> exact two _ rfl
/-- parts of a thousand, of a stranger -/
theorem r169s {d e : Nat} (R : rH 1 h M) (W : xWF h) (hd : d < h 1) (he : e < 2)
    (hQ : ∀ M', rfr M M' → M' 0 7 = nI (xsA h (xlv2 h d) (xw h d e) (xg h d e) (xg h d (1 - e)) / Nat.gcd (xsA h (xlv2 h d) (xw h d e) (xg h d e) (xg h d (1 - e))) (xsB h (xlv2 h d) (xw h d e) (xg h d e) (xg h d (1 - e)))) → M' 0 8 = nI (xsB h (xlv2 h d) (xw h d e) (xg h d e) (xg h d (1 - e)) / Nat.gcd (xsA h (xlv2 h d) (xw h d e) (xg h d e) (xg h d (1 - e))) (xsB h (xlv2 h d) (xw h d e) (xg h d e) (xg h d (1 - e)))) → Q (some (.int (nI (xsp h (xlv2 h d) (xw h d e) (xg h d e) (xg h d (1 - e)))))) M') :
    xW xSR 169 0 [.ref 0, .int (-1), .int (nI d), .int (nI e), .int (-4), .int (nI 0)] [] M Q := by
  have a := xSP_le W (xw h d e) (xg h d e) (xg h d (1 - e))
  have b := xSQ_le W (xw h d e) (xg h d e) (xg h d (1 - e))
  obtain ⟨b1, b2, b3, b4⟩ := xsA_le W (xlv2 h d) (xw h d e) (xg h d e) (xg h d (1 - e))
  simp only [s169]
  refine r164s R W hd he (fun M1 f0 f1 f2 => ?_)
  simp only [xpush_n, s169]
  refine r167s (R.fr (rfr.hand f0)) W hd he f1 f2 (by omega) (by omega) (by omega) (fun M2 g0 g5 g1 g2 => ?_)
  have hQ := fun q1 q2 => hQ M2 ((rfr.hand f0).tr g0) q1 q2
  have g1 : M2 0 7 = nI (xsA h (xlv2 h d) (xw h d e) (xg h d e) (xg h d (1 - e)) / Nat.gcd (xsA h (xlv2 h d) (xw h d e) (xg h d e) (xg h d (1 - e))) (xsB h (xlv2 h d) (xw h d e) (xg h d e) (xg h d (1 - e)))) := g1
  have g2 : M2 0 8 = nI (xsB h (xlv2 h d) (xw h d e) (xg h d e) (xg h d (1 - e)) / Nat.gcd (xsA h (xlv2 h d) (xw h d e) (xg h d e) (xg h d (1 - e))) (xsB h (xlv2 h d) (xw h d e) (xg h d e) (xg h d (1 - e)))) := g2
  have hQ := hQ g1 g2
  unfold xsp at hQ
  generalize xsA h (xlv2 h d) (xw h d e) (xg h d e) (xg h d (1 - e)) = A at *
  generalize xsB h (xlv2 h d) (xw h d e) (xg h d e) (xg h d (1 - e)) = B at *
  have gp : 0 < Nat.gcd A B := Nat.gcd_pos_of_pos_right _ b2
  have gl : Nat.gcd A B ≤ B := Nat.gcd_le_right _ b2
  have c1 : A / Nat.gcd A B ≤ A := Nat.div_le_self _ _
  have c2 : B / Nat.gcd A B ≤ B := Nat.div_le_self _ _
  have c3 : 0 < B / Nat.gcd A B := Nat.div_pos gl gp
  simp (disch := omega) only [xpush_n, s169, j169, g1, g2, nI_l, lN_mul, pk_lDiv, lN_i]
  rw [gcd_div 1000 b2]
  exact hQ
theorem xpt_own (W : xWF h) {d : Nat} (hd : d < h 1) : xpt h d (h (3 + (d * 6 + 2))) 63 = xsp h (xlv2 h d) (xw h d 0) (xg h d 0) (xg h d (1 - 0)) + xsp h (xlv2 h d) (xw h d 1) (xg h d 1) (xg h d (1 - 1)) := by
  unfold xpt
  rw [xand63 _ (W.g hd (show 0 < 2 by decide)), xand63 _ (W.g hd (show 1 < 2 by decide))]
  rfl
theorem r189 (R : rH 1 h N) (W : xWF h) (hQ : ∀ N', rfr N N' → Q (some (.int (nI (xal h 63 0 (h 1))))) N') : xW xSR 189 0 [.ref 0, .null, .null] [] N Q := by
  have h8 := W.1.2.2.1
  have key : ∀ (n d sum : Nat) (M1 : xM), d + n = h 1 → rfr N M1 → sum + xal h 63 d n = xal h 63 0 (h 1) → xW xSR 189 4 [.ref 0, .int (nI sum), .int (nI d)] [] M1 Q := by
    intro n
    induction n with
    | zero =>
      intro d sum M1 hk f q
      have m1 : M1 1 1 = nI (h 1) := (R.fr f).at _ rfl (by omega) (by omega)
      rw [h189_4]
      simp (disch := first | decide | omega) only [s189, m1, nI_lt_f, if_false]
      have q : sum = xal h 63 0 (h 1) := q
      rw [q]
      exact hQ M1 f
    | succ n ih =>
      intro d sum M1 hk f q
      have R1 := R.fr f
      have m1 : M1 1 1 = nI (h 1) := R1.at _ rfl (by omega) (by omega)
      rw [h189_4]
      simp (disch := first | decide | omega) only [s189, m1, nI_lt_t, if_true]
      refine r169s R1 W (by omega) (by decide) (fun M2 g _ _ => ?_)
      simp (disch := first | decide | omega) only [s189, xpush_s]
      refine r169s (R1.fr g) W (by omega) (by decide) (fun M3 g' _ _ => ?_)
      simp (disch := first | decide | omega) only [s189, xpush_s, nI_add]
      refine ih (d + 1) _ M3 (by omega) (f.tr (g.tr g')) ?_
      simp only [xal] at q
      rw [xpt_own W (by omega)] at q
      omega
  simp (disch := first | decide | omega) only [s189]
  exact key (h 1) 0 0 N (by omega) rfr.rf (by omega)
end C36
