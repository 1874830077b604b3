/-! what to put on a door for so much: the reference -/
theorem red_aux (a b c d g k : Nat) (hg : 0 < g) (hk : 0 < k) : (a * g) * (d * k) = (a * d) * (g * k) ∧ (c * k) * (b * g) = (c * b) * (g * k) := by
  constructor
  · rw [Nat.mul_mul_mul_comm]
  · rw [Nat.mul_mul_mul_comm, Nat.mul_comm k g]
theorem red_lt {A B C D : Nat} (hB : 0 < B) (hD : 0 < D) : (A / Nat.gcd A B * (D / Nat.gcd C D) < C / Nat.gcd C D * (B / Nat.gcd A B)) = (A * D < C * B) := by
  have g := Nat.gcd_pos_of_pos_right A hB
  have k := Nat.gcd_pos_of_pos_right C hD
  obtain ⟨e, f⟩ := red_aux (A / Nat.gcd A B) (B / Nat.gcd A B) (C / Nat.gcd C D) (D / Nat.gcd C D) _ _ g k
  rw [Nat.div_mul_cancel (Nat.gcd_dvd_left A B), Nat.div_mul_cancel (Nat.gcd_dvd_right C D)] at e
  rw [Nat.div_mul_cancel (Nat.gcd_dvd_left C D), Nat.div_mul_cancel (Nat.gcd_dvd_right A B)] at f
  rw [e, f]
  exact propext (Nat.mul_lt_mul_right (Nat.mul_pos g k)).symm
theorem red_eq {A B C D : Nat} (hB : 0 < B) (hD : 0 < D) : (C / Nat.gcd C D * (B / Nat.gcd A B) = A / Nat.gcd A B * (D / Nat.gcd C D)) = (A * D = C * B) := by
  have g := Nat.gcd_pos_of_pos_right A hB
  have k := Nat.gcd_pos_of_pos_right C hD
  obtain ⟨e, f⟩ := red_aux (A / Nat.gcd A B) (B / Nat.gcd A B) (C / Nat.gcd C D) (D / Nat.gcd C D) _ _ g k
  rw [Nat.div_mul_cancel (Nat.gcd_dvd_left A B), Nat.div_mul_cancel (Nat.gcd_dvd_right C D)] at e
  rw [Nat.div_mul_cancel (Nat.gcd_dvd_left C D), Nat.div_mul_cancel (Nat.gcd_dvd_right A B)] at f
  rw [e, f]
  apply propext
  rw [Nat.mul_right_cancel_iff (Nat.mul_pos g k)]
  exact eq_comm
theorem lsub_toInt {a b : Nat} (ha : a < 2 ^ 62) (hb : b < 2 ^ 62) : (lN a - lN b).toInt = (a : Int) - b := by
  rw [Int64.toInt_sub, pk_lT (by omega), pk_lT (by omega)]
  exact Int.bmod_eq_of_le (by omega) (by omega)
theorem lsub_gt {a b : Nat} (ha : a < 2 ^ 62) (hb : b < 2 ^ 62) : (lN 0 < lN a - lN b) = (b < a) := by
  apply propext
  rw [Int64.lt_iff_toInt_lt, lsub_toInt ha hb, pk_lT (by decide)]
  omega
theorem lsub_eq {a b : Nat} (ha : a < 2 ^ 62) (hb : b < 2 ^ 62) : (lN a - lN b = lN 0) = (a = b) := by
  apply propext
  rw [← Int64.toInt_inj, lsub_toInt ha hb, pk_lT (by decide)]
  omega
theorem nI_ne4 {b : Nat} (hb : b < 2 ^ 31) : (nI b = -4) = False := eq_false (fun z => by
  have := congrArg Int32.toInt z
  rw [nI_toInt hb] at this
  have e : (-4 : Int32).toInt = -4 := by decide
  omega)
theorem xsA_cg {h h' : Nat → Nat} (e : ∀ j, 146 ≤ j → h' j = h j) (lv w m o : Nat) : xsA h' lv w m o = xsA h lv w m o ∧ xsB h' lv w m o = xsB h lv w m o := by
  unfold xsA xsB xSP xSQ
  rw [e 146 (by omega), e 147 (by omega), e 148 (by omega), e 149 (by omega)]
  exact ⟨rfl, rfl⟩
theorem xcs_0 (h : Nat → Nat) : xcs h 0 = 0 := by simp [xcs, xcr, xbs]
def xra (h : Nat → Nat) (d e s : Nat) : Nat := xgA h d e s / Nat.gcd (xgA h d e s) (xgB h d e s)
def xrb (h : Nat → Nat) (d e s : Nat) : Nat := xgB h d e s / Nat.gcd (xgA h d e s) (xgB h d e s)
section C45
variable {M N : xM} {Q : Option Value → xM → Prop} {S S1 : xA} {h h' : Nat → Nat}
theorem xra_le (W : xWF h) (d e s : Nat) : xra h d e s < 2 ^ 30 ∧ xrb h d e s < 2 ^ 30 ∧ 0 < xgB h d e s := by
  obtain ⟨-, b, c, f⟩ := xsA_le W (xlv2 h d) (xw h d e) (xg h d e / 16 * 16 + s) (xg h d (1 - e))
  have b : 0 < xgB h d e s := b
  have c : xgB h d e s ≤ 12800000 := c
  have f : xgA h d e s ≤ 19200000 := f
  have p : xra h d e s ≤ xgA h d e s := Nat.div_le_self _ _
  have q : xrb h d e s ≤ xgB h d e s := Nat.div_le_self _ _
  omega
theorem r188a {d e c w v s ta tb : Nat} {a7 a8 : Int32} {N1 : xM} {a16 a17 : Value} (W : xWF h) (hd : d < h 1) (he : e < 2) (hv : v < 64) (hs : s < 16) (fa : rfa N N1) (Rv : rH 1 (hset h (3 + (d * 6 + (4 + e))) v) N1)
    (hQ : ∀ N2 a17, rfa N N2 → rH 1 (hset h (3 + (d * 6 + (4 + e))) (xg h d e / 16 * 16 + s)) N2 → N2 0 7 = nI (xra h d e s) → N2 0 8 = nI (xrb h d e s) → xW xSR 188 171 [.ref 0, .int (nI d), .int (nI e), .int (nI c), .int (nI w), .int (nI (3 + 6 * d + 4 + e)), .int (nI (xg h d e)), .int a7, .int a8, .long (lN ta), .null, .long (lN tb), .null, .int (nI s), .int (nI (xcs h s)), .long (lN (ta * xrb h d e s) - lN (xra h d e s * tb)), .null, a17] [] N2 Q) : xW xSR 188 90 [.ref 0, .int (nI d), .int (nI e), .int (nI c), .int (nI w), .int (nI (3 + 6 * d + 4 + e)), .int (nI (xg h d e)), .int a7, .int a8, .long (lN ta), .null, .long (lN tb), .null, .int (nI s), .int (nI 0), .int (nI 0), a16, a17] [] N1 Q := by
  have h8 := W.1.2.2.1
  have l1 := W.g hd he
  obtain ⟨-, o1⟩ := or16 (xg h d e / 16) (by omega) s hs
  have rn : ¬ rla (3 + (d * 6 + (4 + e))) := by unfold rla; omega
  have ei : 3 + 6 * d + 4 + e = 3 + (d * 6 + (4 + e)) := by omega
  have cost : ∀ (n k t : Nat) (a16 a17 : Value), k + n = 4 → xW xSR 188 90 [.ref 0, .int (nI d), .int (nI e), .int (nI c), .int (nI w), .int (nI (3 + 6 * d + 4 + e)), .int (nI (xg h d e)), .int a7, .int a8, .long (lN ta), .null, .long (lN tb), .null, .int (nI s), .int (nI t), .int (nI k), a16, a17] [] N1 Q = xW xSR 188 126 [.ref 0, .int (nI d), .int (nI e), .int (nI c), .int (nI w), .int (nI (3 + 6 * d + 4 + e)), .int (nI (xg h d e)), .int a7, .int a8, .long (lN ta), .null, .long (lN tb), .null, .int (nI s), .int (nI (t + xcr h s k n)), .int (nI 4), a16, a17] [] N1 Q := by
    intro n
    induction n with
    | zero =>
      intro k t a16 a17 hk
      have hk : k = 4 := hk
      subst hk
      rw [h188_90]
      simp (disch := first | decide | omega) only [s188, nI_lt_f, if_false]
      rfl
    | succ n ih =>
      intro k t a16 a17 hk
      have m1 : N1 1 (152 + k) = nI (h (146 + (6 + k))) := by
        rw [Rv.at (146 + (6 + k)) (by omega) (by omega) (by omega)]
        unfold hset
        rw [if_neg (by omega)]
      rw [h188_90]
      simp (disch := first | decide | omega) only [s188, nI_lt_t, if_true, xsb, nI_add, m1, pk_mul, ih]
      simp only [xcr, Nat.add_assoc]
  have Rs : rH 1 (hset h (3 + (d * 6 + (4 + e))) (xg h d e / 16 * 16 + s)) (xup N1 1 (3 + 6 * d + 4 + e) (nI (xg h d e / 16 * 16 + s))) := by
    rw [ei]
    have := Rv.up (v := xg h d e / 16 * 16 + s) rn
    rw [hset_hset] at this
    exact this
  have Ws : xWF (hset h (3 + (d * 6 + (4 + e))) (xg h d e / 16 * 16 + s)) := W.sign (by omega) (by omega) (by omega)
  have hne : ∀ j, j ≠ 3 + (d * 6 + (4 + e)) → hset h (3 + (d * 6 + (4 + e))) (xg h d e / 16 * 16 + s) j = h j := fun j q => by unfold hset; rw [if_neg q]
  have e1 : hset h (3 + (d * 6 + (4 + e))) (xg h d e / 16 * 16 + s) 1 = h 1 := hne 1 (by omega)
  have e2 : xlv2 (hset h (3 + (d * 6 + (4 + e))) (xg h d e / 16 * 16 + s)) d = xlv2 h d := hne _ (by omega)
  have e3 : xw (hset h (3 + (d * 6 + (4 + e))) (xg h d e / 16 * 16 + s)) d e = xw h d e := by unfold xw; rw [hne _ (by omega)]
  have e4 : xg (hset h (3 + (d * 6 + (4 + e))) (xg h d e / 16 * 16 + s)) d (1 - e) = xg h d (1 - e) := hne _ (by omega)
  have e5 : xg (hset h (3 + (d * 6 + (4 + e))) (xg h d e / 16 * 16 + s)) d e = xg h d e / 16 * 16 + s := by unfold xg; unfold hset; rw [if_pos rfl]
  obtain ⟨e6, e7⟩ := xsA_cg (h := h) (h' := hset h (3 + (d * 6 + (4 + e))) (xg h d e / 16 * 16 + s)) (fun j q => hne j (by omega)) (xlv2 h d) (xw h d e) (xg h d e / 16 * 16 + s) (xg h d (1 - e))
  obtain ⟨b1, b2, -⟩ := xra_le W d e s
  rw [cost 4 0 0 _ _ rfl]
  simp (disch := first | decide | omega) only [s188, m48 _ l1, o1]
  refine r169s Rs Ws (by omega) he (fun N2 g q1 q2 => ?_)
  rw [e2, e3, e4, e5, e6, e7] at q1 q2
  have q1 : N2 0 7 = nI (xra h d e s) := q1
  have q2 : N2 0 8 = nI (xrb h d e s) := q2
  have e8 : 0 + xcr h s 0 4 = xcs h s := Nat.zero_add _
  have hQ := hQ N2 a17 (fa.tr ((rfa.k1 (fun a q => xup_other q)).tr g.fa)) (Rs.fr g) q1 q2
  simp (disch := first | decide | omega) only [s188] at hQ
  simp (disch := first | decide | omega) only [xpush_s, s188, q1, q2, nI_l, lN_mul, e8]
  exact hQ
theorem r188k {d e c w : Nat} (R : rH 1 h N) (W : xWF h) (hd : d < h 1) (he : e < 2) (hc : c ≤ 99) (hw : w ≤ 1) (hQ : ∀ N', rfa N N' → rH 1 h N' → Q (some (.int (if w = 0 then nI (xg h d e / 16 * 16 + xbst h d e c 1 15 0) else nI (xcs h (xbst h d e c 1 15 0))))) N') {a14 a15 a16 a17 : Value} : xW xSR 188 77 [.ref 0, .int (nI d), .int (nI e), .int (nI c), .int (nI w), .int (nI (3 + 6 * d + 4 + e)), .int (nI (xg h d e)), .int (-4), .int (nI 0), .long (lN 0), .null, .long (lN 1), .null, .int (nI 0), a14, a15, a16, a17] [] N Q := by
  have h8 := W.1.2.2.1
  have l1 := W.g hd he
  have rn : ¬ rla (3 + (d * 6 + (4 + e))) := by unfold rla; omega
  have ei : 3 + 6 * d + 4 + e = 3 + (d * 6 + (4 + e)) := by omega
  have key : ∀ (n s b : Nat) (N1 : xM) (v : Nat) (a14 a15 a16 a17 : Value), s + n = 16 → b < 16 → v < 64 → rfa N N1 → rH 1 (hset h (3 + (d * 6 + (4 + e))) v) N1 → xbst h d e c s n b = xbst h d e c 1 15 0 → xW xSR 188 77 [.ref 0, .int (nI d), .int (nI e), .int (nI c), .int (nI w), .int (nI (3 + 6 * d + 4 + e)), .int (nI (xg h d e)), .int (nI b), .int (nI (xcs h b)), .long (lN (xra h d e b)), .null, .long (lN (xrb h d e b)), .null, .int (nI s), a14, a15, a16, a17] [] N1 Q := by
    intro n
    induction n with
    | zero =>
      intro s b N1 v a14 a15 a16 a17 hs hb hv fa Rv q
      have q : b = xbst h d e c 1 15 0 := q
      rw [← q] at hQ
      obtain ⟨-, o1⟩ := or16 (xg h d e / 16) (by omega) b hb
      have Re : rH 1 h (xup N1 1 (3 + 6 * d + 4 + e) (nI (xg h d e))) := by
        rw [ei]
        have := Rv.up (v := xg h d e) rn
        rw [hset_hset] at this
        unfold xg at this
        rw [hset_self] at this
        exact this
      have hQ := hQ _ (fa.tr (rfa.k1 (fun a q => xup_other q))) Re
      rw [h188_77]
      rcases (show w = 0 ∨ w = 1 by omega) with z | z
      · subst z
        simp (disch := first | decide | omega) only [s188, nI_lt_f, if_false, i00, if_true, m48 _ l1, o1, h188_307]
        exact hQ
      · subst z
        simp (disch := first | decide | omega) only [s188, nI_lt_f, if_false, i12, h188_307]
        exact hQ
    | succ n ih =>
      intro s b N1 v a14 a15 a16 a17 hs hb hv fa Rv q
      have q : xbst h d e c (s + 1) n (if xcs h s ≤ c ∧ xbt2 h d e s b = true then s else b) = xbst h d e c 1 15 0 := q
      have ls := xcs_le W s
      have lb := xcs_le W b
      rw [h188_77]
      simp (disch := first | decide | omega) only [s188, nI_lt_t, if_true]
      refine r188a W hd he hv (by omega) fa Rv (fun N2 a17 fa2 R2 q1 q2 => ?_)
      obtain ⟨u1, u2, u3⟩ := xra_le W d e s
      obtain ⟨v1, v2, v3⟩ := xra_le W d e b
      have p1 : xra h d e b * xrb h d e s < 2 ^ 62 := Nat.lt_of_le_of_lt (Nat.mul_le_mul (Nat.le_of_lt v1) (Nat.le_of_lt u2)) (by decide)
      have p2 : xra h d e s * xrb h d e b < 2 ^ 62 := Nat.lt_of_le_of_lt (Nat.mul_le_mul (Nat.le_of_lt u1) (Nat.le_of_lt v2)) (by decide)
      have c1 : (xra h d e s * xrb h d e b < xra h d e b * xrb h d e s) = (xgA h d e s * xgB h d e b < xgA h d e b * xgB h d e s) := red_lt u3 v3
      have c2 : (xra h d e b * xrb h d e s = xra h d e s * xrb h d e b) = (xgA h d e s * xgB h d e b = xgA h d e b * xgB h d e s) := red_eq u3 v3
      have n4 := nI_ne4 (show b < 2 ^ 31 by omega)
      have yes : xcs h s ≤ c → xbt2 h d e s b = true → ∀ a14 a15 a16 a17, xW xSR 188 77 [.ref 0, .int (nI d), .int (nI e), .int (nI c), .int (nI w), .int (nI (3 + 6 * d + 4 + e)), .int (nI (xg h d e)), .int (nI s), .int (nI (xcs h s)), .long (lN (xra h d e s)), .null, .long (lN (xrb h d e s)), .null, .int (nI (s + 1)), a14, a15, a16, a17] [] N2 Q := fun y z a14 a15 a16 a17 => by
        rw [if_pos ⟨y, z⟩] at q
        exact ih (s + 1) s N2 _ a14 a15 a16 a17 (by omega) (by omega) (by omega) fa2 R2 q
      have no : ¬ (xcs h s ≤ c ∧ xbt2 h d e s b = true) → ∀ a14 a15 a16 a17, xW xSR 188 77 [.ref 0, .int (nI d), .int (nI e), .int (nI c), .int (nI w), .int (nI (3 + 6 * d + 4 + e)), .int (nI (xg h d e)), .int (nI b), .int (nI (xcs h b)), .long (lN (xra h d e b)), .null, .long (lN (xrb h d e b)), .null, .int (nI (s + 1)), a14, a15, a16, a17] [] N2 Q := fun y a14 a15 a16 a17 => by
        rw [if_neg y] at q
        exact ih (s + 1) b N2 _ a14 a15 a16 a17 (by omega) hb (by omega) fa2 R2 q
      unfold xbt2 at yes no
      rw [decide_eq_true_iff] at yes no
      by_cases y0 : xcs h s ≤ c
      · by_cases z1 : xgA h d e s * xgB h d e b < xgA h d e b * xgB h d e s
        · have c1 : (xra h d e s * xrb h d e b < xra h d e b * xrb h d e s) = True := c1.trans (eq_true z1)
          simp (disch := first | decide | omega) only [s188, nI_lt_f, if_false, n4, lgc_gt, lsub_gt p1 p2, c1, if_true, h188_205, h188_210, i12, h188_224, h188_238, q1, q2, nI_l, h188_255, h188_272, nI_add]
          exact yes y0 (Or.inl z1) _ _ _ _
        · have c1 : (xra h d e s * xrb h d e b < xra h d e b * xrb h d e s) = False := c1.trans (eq_false z1)
          by_cases z2 : xgA h d e s * xgB h d e b = xgA h d e b * xgB h d e s
          · have c2 : (xra h d e b * xrb h d e s = xra h d e s * xrb h d e b) = True := c2.trans (eq_true z2)
            by_cases z3 : xcs h s < xcs h b
            · simp (disch := first | decide | omega) only [s188, nI_lt_f, if_false, n4, lgc_gt, lsub_gt p1 p2, c1, lgc_eq, lsub_eq p1 p2, c2, nI_lt_t, if_true, h188_205, h188_210, i12, h188_224, h188_238, q1, q2, nI_l, h188_255, h188_272, nI_add]
              exact yes y0 (Or.inr ⟨z2, z3⟩) _ _ _ _
            · simp (disch := first | decide | omega) only [s188, nI_lt_f, if_false, n4, lgc_gt, lsub_gt p1 p2, c1, lgc_eq, lsub_eq p1 p2, c2, if_true, h188_209, h188_210, i00, h188_224, h188_238, q1, q2, nI_l, h188_255, h188_272, nI_add]
              exact no (fun x => x.2.elim z1 (fun x => z3 x.2)) _ _ _ _
          · have c2 : (xra h d e b * xrb h d e s = xra h d e s * xrb h d e b) = False := c2.trans (eq_false z2)
            simp (disch := first | decide | omega) only [s188, nI_lt_f, if_false, n4, lgc_gt, lsub_gt p1 p2, c1, lgc_eq, lsub_eq p1 p2, c2, if_true, h188_209, h188_210, i00, h188_224, h188_238, q1, q2, nI_l, h188_255, h188_272, nI_add]
            exact no (fun x => x.2.elim z1 (fun x => z2 x.1)) _ _ _ _
      · simp (disch := first | decide | omega) only [s188, nI_lt_t, if_true, h188_209, h188_210, i00, h188_224, h188_238, q1, q2, nI_l, h188_255, h188_272, nI_add]
        exact no (fun x => y0 x.1) _ _ _ _
  have R0 : rH 1 (hset h (3 + (d * 6 + (4 + e))) (xg h d e)) N := by
    have := hset_self h (3 + (d * 6 + (4 + e)))
    unfold xg
    rw [this]
    exact R
  have m4 : ((-4 : Int32) = -4) = True := eq_true rfl
  have z0 := xcs_0 h
  obtain ⟨u1, u2, u3⟩ := xra_le W d e 0
  rw [h188_77]
  simp (disch := first | decide | omega) only [s188, nI_lt_t, if_true]
  refine r188a W hd he l1 (by omega) (rfr.fa rfr.rf) R0 (fun N2 a17 fa2 R2 q1 q2 => ?_)
  simp (disch := first | decide | omega) only [s188, nI_lt_f, if_false, m4, if_true, h188_205, h188_210, i12, h188_224, h188_238, q1, q2, nI_l, h188_255, h188_272, nI_add]
  exact key 15 1 0 N2 _ _ _ _ _ (by omega) (by omega) (by omega) fa2 R2 rfl
theorem A_signs (C : RC S M) (R : RR S N) (W : WA S) (x1 x2 x3 x4 : Int32) : Agr S M N 119 [.ref 0, .int x1, .int x2, .int x3, .int x4, .null] 188 [.ref 0, .int x1, .int x2, .int x3, .int x4, .null, .null, .null, .null, .null, .null, .null, .null, .null, .null, .null, .null, .null] := by
  have h8 := W.2.1.1.2.2.1
  have h5 := W.2.1.1.2.2.2
  obtain ⟨cn0, cn1, cn2⟩ := C.n
  obtain ⟨rn0, rn1, rn2⟩ := R.n
  have l0 : S 0 0 < 2 ^ 31 := by have := W.2.1.1.2.1; omega
  have l1 : S 0 1 < 2 ^ 31 := by omega
  have l2 : S 0 2 < 2 ^ 31 := by omega
  cases hd : xok x1 (S 0 1) <;> cases he : xok x2 2 <;> cases hc : xbw x3 0 (99 + 1) <;> cases hw : xbw x4 0 (1 + 1)
  all_goals try (refine Agr.same W (-1) ?_ ?_ <;> (simp (disch := first | decide | omega) only [s119, h119_29, cWi, c133 l1 cn1, s188, h188_38, r135w, r140 l1 rn1, r142, hd, he, hc, hw, xpush_s, Bool.false_eq_true, if_true, if_false, i12, i00, Bool.and_true, Bool.and_false, Bool.true_and, Bool.false_and]; exact ⟨trivial, by first | exact C | exact R⟩))
  obtain ⟨d, d1, rfl⟩ := xok_nI hd l1
  obtain ⟨e, e1, rfl⟩ := xok_nI he (by decide)
  obtain ⟨c, -, c1, rfl⟩ := xbw_nI hc (by decide)
  obtain ⟨w, -, w1, rfl⟩ := xbw_nI hw (by decide)
  have l1' := W.2.1.g d1 e1
  have e16 : ∀ b, b < 16 → xcs (S 0) (xg (S 0) d e / 16 * 16 + b) = xcs (S 0) b := fun b hb => xcs_16 (by omega) hb
  have lb : ∀ n s b, s + n = 16 → b < 16 → xbst (S 0) d e c s n b < 16 := fun n => by
    induction n with
    | zero => intro s b _ hb; exact hb
    | succ n ih => intro s b hs hb; exact ih (s + 1) _ (by omega) (by split <;> omega)
  have lb := lb 15 1 0 (by omega) (by omega)
  refine Agr.same W (if w = 0 then nI (xg (S 0) d e / 16 * 16 + xbst (S 0) d e c 1 15 0) else nI (xcs (S 0) (xbst (S 0) d e c 1 15 0))) ?_ ?_
  · simp (disch := first | decide | omega) only [s119, cWi, c133 l1 cn1, hd, he, hc, hw, Bool.and_true, xpush_s, if_true, if_false, i12]
    refine c62 C.2.1 W.2.1 d1 e1 (by omega) (fun M1 f => ?_)
    have C1 := C.fr (cfr.x f (by decide))
    rcases (show w = 0 ∨ w = 1 by omega) with z | z
    · subst z
      simp (disch := first | decide | omega) only [s119, xpush_s, i00, if_true, h119_66]
      exact ⟨by trivial, C1⟩
    · subst z
      simp (disch := first | decide | omega) only [s119, xpush_s, i12, if_false, c41 C1.2.1 (show xg (S 0) d e / 16 * 16 + xbst (S 0) d e c 1 15 0 < 64 by omega), e16 _ lb, h119_66]
      exact ⟨by trivial, C1⟩
  · have mg : N 1 (3 + 6 * d + 4 + e) = nI (xg (S 0) d e) := R.2.1.at _ (by omega) (by omega) (by omega)
    simp (disch := first | decide | omega) only [s188, r135w, r140 l1 rn1, r142, hd, he, hc, hw, xpush_s, if_true, if_false, i12, pk_mul, nI_add, mg]
    exact r188k R.2.1 W.2.1 d1 e1 (by omega) (by omega) (fun N' f R' => ⟨rfl, R.fra f R'⟩)
end C45
