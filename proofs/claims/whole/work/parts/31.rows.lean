/-! a row of doors -/
/-- the same house, but for who is where -/
def xeq (h h' : Nat → Nat) : Prop := ∀ j, j < 51 ∨ 146 ≤ j → h' j = h j
section C31
variable {M N : xM} {Q : Option Value → xM → Prop} {S S1 : xA} {h h' : Nat → Nat}
theorem xW_ex {S : xSh} {mid pc : Nat} {L st : List Value} {M : xM} {P : Option Value → xM → Prop} (h : xW S mid pc L st M P) : ∃ v M', P v M' ∧ ∀ Q, Q v M' → xW S mid pc L st M Q := by
  obtain ⟨n, v, M', h1, h2⟩ := h
  exact ⟨v, M', h2, fun Q q => ⟨n, v, M', h1, q⟩⟩
theorem xeq.rf : xeq h h := fun _ _ => rfl
theorem xeq.w (E : xeq h h') {d : Nat} (e : Nat) (hd : d < 8) : xw h' d e = xw h d e := by unfold xw; rw [E _ (by omega)]
theorem xeq.g (E : xeq h h') {d e : Nat} (hd : d < 8) (he : e < 2) : xg h' d e = xg h d e := by unfold xg; rw [E _ (by omega)]
theorem xeq.d (E : xeq h h') {d e : Nat} (hd : d < 8) (he : e < 2) : xdr h' d e = xdr h d e := by unfold xdr; rw [E _ (by omega)]
theorem xeq.lv (E : xeq h h') {d : Nat} (hd : d < 8) : xlv2 h' d = xlv2 h d := by unfold xlv2; rw [E _ (by omega)]
theorem xeq.tw (E : xeq h h') {T : Nat → Nat} {d e v : Nat} (hd : d < 8) (he : e < 2) : ∀ n s, s + n ≤ 16 → xtw h' T d e v s n = xtw h T d e v s n
  | 0, _, _ => rfl
  | n + 1, s, q => by
    show xtt h' T d e v s + xtw h' T d e v (s + 1) n = xtt h T d e v s + xtw h T d e v (s + 1) n
    rw [E.tw hd he n (s + 1) (by omega)]
    congr 1
    unfold xtt
    rw [E.g (d := s / 2) (e := s % 2) (by omega) (by omega), E.g hd he, E.w (d := s / 2) _ (by omega), E 151 (by omega)]
theorem xeq.PP (E : xeq h h') {T : Nat → Nat} {la d e : Nat} (hd : d < 8) (he : e < 2) (h8 : h 1 ≤ 8) : xPP h' T la d e = xPP h T la d e := by
  unfold xPP xSP
  rw [E.w e hd, E.g hd he, E.g (e := 1 - e) hd (by omega), E 147 (by omega), E 148 (by omega), E 149 (by omega), E 150 (by omega), E 1 (by omega), E.tw hd he _ _ (by omega)]
theorem xeq.QQ (E : xeq h h') {T : Nat → Nat} {la d e : Nat} (hd : d < 8) (he : e < 2) (h8 : h 1 ≤ 8) : xQQ h' T la d e = xQQ h T la d e := by
  unfold xQQ xSQ
  rw [E.w e hd, E.g hd he, E.g (e := 1 - e) hd (by omega), E 146 (by omega), E 148 (by omega), E 149 (by omega), E 150 (by omega), E 1 (by omega), E.tw hd he _ _ (by omega)]
theorem xeq.AA (E : xeq h h') {T : Nat → Nat} {la tr d e : Nat} (hd : d < 8) (he : e < 2) (h8 : h 1 ≤ 8) : xAA h' T la tr d e = xAA h T la tr d e := by
  unfold xAA
  rw [E.w e hd, E.lv hd, E.PP hd he h8, E.QQ hd he h8]
theorem xeq.BB (E : xeq h h') {T : Nat → Nat} {la d e : Nat} (hd : d < 8) (he : e < 2) (h8 : h 1 ≤ 8) : xBB h' T la d e = xBB h T la d e := by
  unfold xBB
  rw [E.lv hd, E.PP hd he h8, E.QQ hd he h8]
theorem xeq.pa (E : xeq h h') {T : Nat → Nat} {la tr d e : Nat} (hd : d < 8) (he : e < 2) (h8 : h 1 ≤ 8) : xpa h' T la tr d e = xpa h T la tr d e := by
  unfold xpa
  rw [E.AA hd he h8, E.BB hd he h8]
theorem xeq.leave (E : xeq h h') {i rm la : Nat} {T : Nat → Nat} (hi : i < 5) : xeq h (xleave h' i rm la T) := fun j q => by rw [xleave_o (by omega) hi]; exact E j q
theorem xleave_rm (h : Nat → Nat) (i rm la : Nat) (T : Nat → Nat) : xRm2 (xleave h i rm la T) i = rm := by
  unfold xRm2 xleave
  rw [if_pos rfl]
theorem xleave_la (h : Nat → Nat) (i rm la : Nat) (T : Nat → Nat) : xLa (xleave h i rm la T) i = la := by
  unfold xLa xleave
  rw [if_neg (by omega), if_pos rfl]
theorem xleave_tr (h : Nat → Nat) {i : Nat} (rm la : Nat) (T : Nat → Nat) (hi : i < 5) : xTr (xleave h i rm la T) i = xTr h i := by
  unfold xTr xleave
  rw [if_neg (by omega), if_neg (by omega), if_neg (by omega)]
theorem xleave_ti (h : Nat → Nat) {i j : Nat} (rm la : Nat) (T : Nat → Nat) (hi : i < 5) (hj : j < 16) : xTi (xleave h i rm la T) i j = T j := by
  unfold xTi xleave
  rw [if_neg (by omega), if_neg (by omega), if_pos (by omega)]
  congr 1
  omega
/-- the reference sets its house aside and takes it back -/
theorem r180 (hQ : ∀ N', (∀ a, a ≠ 8 → N' a = N a) → (∀ j, j < 156 → N' 8 j = N 1 j) → Q none N') : xW xSR 180 0 [.ref 0, .null] [] N Q := by
  have key : ∀ (n k : Nat) (N1 : xM), k + n = 156 → (∀ a, a ≠ 8 → N1 a = N a) → (∀ j, j < k → N1 8 j = N 1 j) → xW xSR 180 2 [.ref 0, .int (nI k)] [] N1 Q := by
    intro n
    induction n with
    | zero =>
      intro k N1 hk f1 f2
      have hk : k = 156 := by omega
      subst hk
      rw [h180_2]
      simp (disch := first | decide | omega) only [s180, j180, nI_lt_f, if_false]
      exact hQ N1 f1 f2
    | succ n ih =>
      intro k N1 hk f1 f2
      rw [h180_2]
      have z1 : N1 1 = N 1 := f1 1 (by decide)
      simp (disch := first | decide | omega) only [s180, j180, nI_lt_t, if_true, nI_add, z1]
      refine ih (k + 1) _ (by omega) (fun a q => by rw [xup_other q]; exact f1 a q) (fun j hj => ?_)
      by_cases q : j = k
      · rw [q, xup_rs]
      · rw [xup_r q]; exact f2 j (by omega)
  simp (disch := first | decide | omega) only [s180, j180]
  exact key 156 0 N rfl (fun _ _ => rfl) (fun j hj => absurd hj (by omega))
theorem r181 (hQ : ∀ N', (∀ a, a ≠ 1 → N' a = N a) → (∀ j, j < 156 → N' 1 j = N 8 j) → Q none N') : xW xSR 181 0 [.ref 0, .null] [] N Q := by
  have key : ∀ (n k : Nat) (N1 : xM), k + n = 156 → (∀ a, a ≠ 1 → N1 a = N a) → (∀ j, j < k → N1 1 j = N 8 j) → xW xSR 181 2 [.ref 0, .int (nI k)] [] N1 Q := by
    intro n
    induction n with
    | zero =>
      intro k N1 hk f1 f2
      have hk : k = 156 := by omega
      subst hk
      rw [h181_2]
      simp (disch := first | decide | omega) only [s181, j181, nI_lt_f, if_false]
      exact hQ N1 f1 f2
    | succ n ih =>
      intro k N1 hk f1 f2
      rw [h181_2]
      have z1 : N1 8 = N 8 := f1 8 (by decide)
      simp (disch := first | decide | omega) only [s181, j181, nI_lt_t, if_true, nI_add, z1]
      refine ih (k + 1) _ (by omega) (fun a q => by rw [xup_other q]; exact f1 a q) (fun j hj => ?_)
      by_cases q : j = k
      · rw [q, xup_rs]
      · rw [xup_r q]; exact f2 j (by omega)
  simp (disch := first | decide | omega) only [s181, j181]
  exact key 156 0 N rfl (fun _ _ => rfl) (fun j hj => absurd hj (by omega))
/-- all that stays while the house is aside -/
def rfa (N N' : xM) : Prop := (∀ a, a = 2 ∨ a = 6 ∨ a = 7 ∨ a = 11 ∨ a = 12 → N' a = N a) ∧ (∀ j, j = 2 ∨ j = 10 ∨ j = 11 ∨ j = 16 ∨ j = 18 → N' 0 j = N 0 j)
theorem rfa.tr {N1 N2 : xM} (f : rfa N N1) (g : rfa N1 N2) : rfa N N2 := ⟨fun a q => (g.1 a q).trans (f.1 a q), fun j q => (g.2 j q).trans (f.2 j q)⟩
theorem rfr.fa {M M' : xM} (f : rfr M M') : rfa M M' := ⟨fun a z => f.1 a (by omega) (by omega) (by omega) (by omega), fun j z => f.2 j (by omega) (by omega) (by omega)⟩
theorem rfa.k1 {M M' : xM} (f : ∀ k, k ≠ 1 → M' k = M k) : rfa M M' := ⟨fun a z => f a (by omega), fun j z => by rw [f 0 (by omega)]⟩
theorem rH.vals {M M' : xM} (R : rH 1 h M) (e : ∀ j, j < 156 → M' 1 j = M 1 j) : rH 1 h M' := ⟨fun j a b => by rw [e j a]; exact R.1 j a b, fun j a => by rw [e j (by unfold rla at a; omega)]; exact R.2 j a⟩
theorem RR.fra {S : xA} {M M' : xM} (R : RR S M) (f : rfa M M') (H : rH 1 (S 0) M') : RR S M' := by
  obtain ⟨⟨a1, a2⟩, b, ⟨c1, c2⟩, ⟨d1, d2⟩, ⟨e1, e2, e3⟩, g1, g2⟩ := R
  obtain ⟨q, z⟩ := f
  refine ⟨⟨by rw [z 2 (by omega)]; exact a1, by rw [q 2 (by omega)]; exact a2⟩, H, ⟨by rw [z 11 (by omega)]; exact c1, by rw [q 7 (by omega)]; exact c2⟩, ⟨by rw [z 16 (by omega)]; exact d1, by rw [q 11 (by omega)]; exact d2⟩, ⟨by rw [z 18 (by omega)]; exact e1, by rw [q 12 (by omega)]; exact e2, by rw [q 12 (by omega)]; exact e3⟩, by rw [z 10 (by omega)]; exact g1, fun i hi => ?_⟩
  have := g2 i hi
  unfold rE at this ⊢
  rw [q 6 (by omega)]
  exact this
theorem cK.cg {rm tr la : Nat} {T T' : Nat → Nat} {M : xM} (K : cK rm tr la T M) (e : ∀ j, j < 16 → T' j = T j) : cK rm tr la T' M := ⟨K.1, K.2.1, K.2.2.1, fun j hj => by rw [e j hj]; exact K.2.2.2 j hj⟩
theorem along_sim {i : Nat} (C : RC S M) (R : RR S N) (W : WA S) (hi : i < S 0 2) : ∀ (n k sum : Nat) (hh : Nat → Nat) (M1 N1 : xM) (x4 x5 y4 : Value), k + n = S 2 1 → sum ≤ 1500 * k → xeq (S 0) hh → xWF hh → cfr M M1 → cK (xRm2 hh i) (xTr hh i) (xLa hh i) (xTi hh i) M1 → rH 1 hh N1 → (∀ j, j < 156 → N1 8 j = N 1 j) → rfa N N1 →
    ∃ v : Int32, xW xSC 113 29 [.ref 0, .int (nI i), .int (nI sum), .int (nI k), x4, x5] [] M1 (fun r M' => r = some (.int v) ∧ RC S M') ∧ xW xSR 182 18 [.ref 0, .int (nI i), .int (nI sum), .int (nI k), y4] [] N1 (fun r N' => r = some (.int v) ∧ RR S N') := by
  have h8 := W.2.1.1.2.2.1
  have h5 := W.2.1.1.2.2.2
  have t12 := W.2.2.1.1
  have back : ∀ (v : Int32) (k : Nat) (N1 : xM) (y4 : Value), (∀ j, j < 156 → N1 8 j = N 1 j) → rfa N N1 → xW xSR 182 150 [.ref 0, .int (nI i), .int v, .int (nI k), y4] [] N1 (fun r N' => r = some (.int v) ∧ RR S N') := by
    intro v k N1 y4 f8 fa
    simp (disch := first | decide | omega) only [s182, j182]
    refine r181 (fun N' g1 g2 => ?_)
    simp (disch := first | decide | omega) only [s182, j182, xpush_n]
    exact ⟨trivial, R.fra (fa.tr (rfa.k1 g1)) (R.2.1.vals (fun j hj => (g2 j hj).trans (f8 j hj)))⟩
  intro n
  induction n with
  | zero =>
    intro k sum hh M1 N1 x4 x5 y4 hk hs E Wh f K Rh f8 fa
    refine ⟨nI sum, ?_, ?_⟩
    · have z : M1 0 7 = nI k := by rw [f.1 0 (by omega), C.2.2.1.1]; congr 1; omega
      rw [h113_29]
      simp (disch := first | decide | omega) only [s113, j113, z, nI_lt_f, if_false]
      exact ⟨trivial, C.fr f⟩
    · have z : N1 0 11 = nI k := by rw [fa.2 11 (by omega), R.2.2.1.1]; congr 1; omega
      rw [h182_18]
      simp (disch := first | decide | omega) only [s182, z, nI_lt_f, if_false]
      exact back _ _ _ _ f8 fa
  | succ n ih =>
    intro k sum hh M1 N1 x4 x5 y4 hk hs E Wh f K Rh f8 fa
    have C1 := C.fr f
    have e0 : hh 0 = S 0 0 := E 0 (by omega)
    have e1 : hh 1 = S 0 1 := E 1 (by omega)
    have e2 : hh 2 = S 0 2 := E 2 (by omega)
    have zc : M1 0 7 = nI (S 2 1) := C1.2.2.1.1
    have zd : M1 26 k = nI (S 3 k) := C1.2.2.1.2 k (by omega)
    have yc : N1 0 11 = nI (S 2 1) := by rw [fa.2 11 (by omega)]; exact R.2.2.1.1
    have yd : N1 7 k = nI (S 3 k) := by rw [fa.1 7 (by omega)]; exact R.2.2.1.2 k (by omega)
    have hd := W.2.2.1.2 k (by omega)
    generalize S 3 k = d at zd yd hd
    have a0 : M1 10 (d * 6 + 0) = nI (xdr (S 0) d 0) := C1.2.1.2.1 _ (by omega)
    have a1 : M1 10 (d * 6 + 1) = nI (xdr (S 0) d 1) := C1.2.1.2.1 _ (by omega)
    have b0 : N1 1 (51 + 3 * i) = nI (xRm2 hh i) := Rh.at _ (by omega) (by omega) (by omega)
    obtain ⟨w1, w2, w3⟩ := Wh.2.2.1 i (by omega)
    have w1 : xRm2 hh i < hh 0 := w1
    have w3 : xLa hh i ≤ 3 := w3
    have w2 : xTr hh i ≤ 1 := w2
    have hT := xTi_99 Wh (show i < 5 by omega)
    obtain ⟨x1, x2, -, hw2, -, -, -, -⟩ := W.2.1.2.1 d hd
    have x1 : xdr (S 0) d 0 < S 0 0 := x1
    have x2 : xdr (S 0) d 1 < S 0 0 := x2
    have h00 := W.2.1.1.2.1
    have sd : (if nI (xdr (S 0) d 0) = nI (xRm2 hh i) then nI 0 else if nI (xdr (S 0) d 1) = nI (xRm2 hh i) then nI 1 else -1) = xsd (S 0) d (xRm2 hh i) := rfl
    have n1 : ((-1 : Int32) < nI 0) = True := by decide
    have n4 : ((-4 : Int32) < nI 0) = True := by decide
    have r168' := fun (Q : Option Value → xM → Prop) e (he : e < 2) => r168 (M := N1) (Q := Q) (i := i) (d := d) (e := e) Rh Wh (by omega) he (by omega)
    have stop : xW xSR 182 18 [.ref 0, .int (nI i), .int (-4), .int (nI (k + 1)), .int (-1)] [] N1 (fun r N' => r = some (.int (-4)) ∧ RR S N') ∧ ∀ e, xW xSR 182 18 [.ref 0, .int (nI i), .int (-4), .int (nI (k + 1)), .int (nI e)] [] N1 (fun r N' => r = some (.int (-4)) ∧ RR S N') := by
      constructor
      · rw [h182_18]
        by_cases q : k + 1 < S 2 1
        · simp (disch := first | decide | omega) only [s182, yc, nI_lt_t, if_true, n4]
          exact back _ _ _ _ f8 fa
        · simp (disch := first | decide | omega) only [s182, yc, nI_lt_f, if_false]
          exact back _ _ _ _ f8 fa
      · intro e
        rw [h182_18]
        by_cases q : k + 1 < S 2 1
        · simp (disch := first | decide | omega) only [s182, yc, nI_lt_t, if_true, n4]
          exact back _ _ _ _ f8 fa
        · simp (disch := first | decide | omega) only [s182, yc, nI_lt_f, if_false]
          exact back _ _ _ _ f8 fa
    rcases xsd_or (h := S 0) (d := d) (rm := xRm2 hh i) (by omega) (by omega) (by omega) with ⟨s1, -, -⟩ | ⟨e, he, s1, s2⟩
    · refine ⟨-4, ?_, ?_⟩
      · rw [h113_29]
        simp (disch := first | decide | omega) only [s113, j113, zc, nI_lt_t, if_true, cG, xpush_s, zd, K.1, c40, a0, a1, sd, s1, n1]
        exact ⟨trivial, C1⟩
      · rw [h182_18]
        simp (disch := first | decide | omega) only [s182, j182, yc, nI_lt_t, nI_nneg, if_true, if_false, pk_mul, nI_add, yd, b0, r171 Rh (show d < 8 by omega), E.d (d := d) (e := 0), E.d (d := d) (e := 1), xpush_s, sd, s1, n1]
        exact stop.1
    · have m3 : M1 10 (d * 6 + 2) = nI (S 0 (3 + (d * 6 + 2))) := C1.2.1.2.1 _ (by omega)
      have m4 : xwi (nI (S 0 (3 + (d * 6 + 2)))) (nI e) = nI (xw (S 0) d e) := xwi_nI (by omega) (by omega)
      have ew := E.w e (show d < 8 by omega)
      by_cases q : xTr hh i = 0 ∨ xw (S 0) d e ≠ 1
      · have eA := E.AA (T := xTi hh i) (la := xLa hh i) (tr := xTr hh i) (show d < 8 by omega) he h8
        have eB := E.BB (T := xTi hh i) (la := xLa hh i) (show d < 8 by omega) he h8
        obtain ⟨b1, b2, b3, b4⟩ := xAA_le W.2.1 (xLa hh i) (xTr hh i) (d := d) (e := e) (by omega) hT
        have pl := xpa_le W.2.1 (xLa hh i) (xTr hh i) (d := d) (e := e) (by omega) hT
        have pe := E.pa (T := xTi hh i) (la := xLa hh i) (tr := xTr hh i) (show d < 8 by omega) he h8
        have dr : xdr hh d (1 - e) = xdr (S 0) d (1 - e) := E.d (by omega) (by omega)
        have hr : xdr (S 0) d (1 - e) < S 0 0 := by rcases (show e = 0 ∨ e = 1 by omega) with rfl | rfl <;> assumption
        have hu : xw (S 0) d e < 3 := xwt_lt _ _
        have go : ∀ M2 N2, cfr M M2 → cK (xdr (S 0) d (1 - e)) (xTr hh i) (xw (S 0) d e) (xpT (xTi hh i) (2 * d + e)) M2 → rH 1 (xleave hh i (xdr hh d (1 - e)) (xw hh d e) (xpT (xTi hh i) (2 * d + e))) N2 → (∀ j, j < 156 → N2 8 j = N 1 j) → rfa N N2 → ∃ v : Int32, xW xSC 113 29 [.ref 0, .int (nI i), .int (nI (sum + xpa (S 0) (xTi hh i) (xLa hh i) (xTr hh i) d e)), .int (nI (k + 1)), .int (nI d), .int (nI e)] [] M2 (fun r M' => r = some (.int v) ∧ RC S M') ∧ xW xSR 182 18 [.ref 0, .int (nI i), .int (nI (sum + xpa (S 0) (xTi hh i) (xLa hh i) (xTr hh i) d e)), .int (nI (k + 1)), .int (nI e)] [] N2 (fun r N' => r = some (.int v) ∧ RR S N') := by
          intro M2 N2 g1 g2 g3 g4 g5
          refine ih (k + 1) _ (xleave hh i (xdr hh d (1 - e)) (xw hh d e) (xpT (xTi hh i) (2 * d + e))) M2 N2 _ _ _ (by omega) (by omega) (E.leave (by omega)) (Wh.leave (by omega) (by rw [dr]; omega) (by rw [ew]; omega) (xpT_99 hT)) g1 ?_ g3 g4 g5
          rw [xleave_rm, xleave_la, xleave_tr _ _ _ _ (by omega), dr, ew]
          exact g2.cg (fun j hj => xleave_ti _ _ _ _ (by omega) hj)
        have H1 := C1.2.1
        have fx := xsf_fr (s := 33) (p := xPP (S 0) (xTi hh i) (xLa hh i) d e) (r := xQQ (S 0) (xTi hh i) (xLa hh i) d e) (a := xAA (S 0) (xTi hh i) (xLa hh i) (xTr hh i) d e) (b := xBB (S 0) (xTi hh i) (xLa hh i) d e) (M := M1)
        obtain ⟨r2, M2, ⟨rfl, g1, g2⟩, hc⟩ := xW_ex (c88 (Q := fun r M' => r = none ∧ xfr 31 32 (xsf 33 (xPP (S 0) (xTi hh i) (xLa hh i) d e) (xQQ (S 0) (xTi hh i) (xLa hh i) d e) (xAA (S 0) (xTi hh i) (xLa hh i) (xTr hh i) d e) (xBB (S 0) (xTi hh i) (xLa hh i) d e) M1) M' ∧ cK (xdr (S 0) d (1 - e)) (xTr hh i) (xw (S 0) d e) (xpT (xTi hh i) (2 * d + e)) M') (H1.fr fx (by omega)) W.2.1 (K.fr fx (by omega)) hd he hT (fun M' a b => ⟨rfl, a, b⟩))
        obtain ⟨r3, N2, ⟨rfl, g3⟩, hr2⟩ := xW_ex (r169 (Q := fun r N' => r = some (.int (nI (xpa hh (xTi hh i) (xLa hh i) (xTr hh i) d e))) ∧ rfr N1 N') Rh Wh (show d < hh 1 by omega) he (show i < 5 by omega) w3 w2 (fun N' a _ _ => ⟨rfl, a⟩))
        obtain ⟨r4, N3, ⟨rfl, g4, g5⟩, hr3⟩ := xW_ex (r173 (Q := fun r N' => r = none ∧ (∀ k, k ≠ 1 → N' k = N2 k) ∧ rH 1 (xleave hh i (xdr hh d (1 - e)) (xw hh d e) (xpT (xTi hh i) (2 * d + e))) N') (Rh.fr g3) Wh (show d < hh 1 by omega) he (by omega) (fun N' a b => ⟨rfl, a, b⟩))
        obtain ⟨v, v1, v2⟩ := go M2 N3 (f.tr ((cfr.x fx (by decide)).tr (cfr.x g1 (by decide)))) g2 g5 (fun j hj => by rw [g4 8 (by decide), g3.1 8 (by decide) (by decide) (by decide) (by decide)]; exact f8 j hj) (fa.tr (g3.fa.tr (rfa.k1 g4)))
        refine ⟨v, ?_, ?_⟩
        · rw [h113_29]
          simp (disch := first | decide | omega) only [s113, zc, nI_lt_t, if_true, cG, xpush_s, zd, K.1, c40, a0, a1, sd, s1, nI_nneg, if_false, c37, m3, m4, c87 K w2 hu, q, nI_eq_f, c50_33 H1 K W.2.1 hd he w3 w2 hT, xpush_n, c55_33 (xsf_2 _ _ _ _ _ _) (xsf_3 _ _ _ _ _ _) (show xAA (S 0) (xTi hh i) (xLa hh i) (xTr hh i) d e < 2 ^ 31 by omega) (show xBB (S 0) (xTi hh i) (xLa hh i) d e < 2 ^ 31 by omega) (show 1000 < 2 ^ 31 by omega) b2, nI_add]
          refine hc _ ?_
          simp (disch := first | decide | omega) only [s113, xpush_n, nI_add]
          exact v1
        · have b1' : N1 1 (51 + 3 * i + 2) = rli (xLa hh i) := Rh.la (by omega)
          have b2' : N1 1 (51 + 3 * i + 1) = nI (xTr hh i) := Rh.at _ (by omega) (by omega) (by omega)
          have fin : xW xSR 169 0 [.ref 0, .int (nI i), .int (nI d), .int (nI e), .int (rli (xLa hh i)), .int (nI (xTr hh i))] [] N1 (fun v' M' => xW xSR 182 129 [.ref 0, .int (nI i), .int (nI sum), .int (nI k), .int (nI e)] (xpush v' [.int (nI sum)]) M' (fun r N' => r = some (.int v) ∧ RR S N')) := by
            refine hr2 _ ?_
            rw [pe]
            have y7 : N2 7 k = nI d := by rw [g3.1 7 (by decide) (by decide) (by decide) (by decide)]; exact yd
            simp (disch := first | decide | omega) only [s182, xpush_s, nI_add, y7]
            refine hr3 _ ?_
            simp (disch := first | decide | omega) only [s182, xpush_n, h182_144, nI_add]
            exact v2
          rw [h182_18]
          rcases (show xTr hh i = 0 ∨ xTr hh i = 1 by omega) with u | u
          · simp only [u] at fin b2' q
            simp (disch := first | decide | omega) only [s182, yc, nI_lt_t, nI_nneg, if_true, if_false, pk_mul, nI_add, yd, b0, r171 Rh (show d < 8 by omega), E.d (d := d) (e := 0), E.d (d := d) (e := 1), xpush_s, sd, s1, r168' _ e he, ew, u, q, nI_eq_f, b1', b2', h182_126, true_or]
            exact fin
          · simp only [u] at fin b2' q
            simp (disch := first | decide | omega) only [s182, yc, nI_lt_t, nI_nneg, if_true, if_false, pk_mul, nI_add, yd, b0, r171 Rh (show d < 8 by omega), E.d (d := d) (e := 0), E.d (d := d) (e := 1), xpush_s, sd, s1, r168' _ e he, ew, u, q, nI_eq_f, nI_eq_t, b1', b2', h182_126]
            exact fin
      · refine ⟨-4, ?_, ?_⟩
        · rw [h113_29]
          simp (disch := first | decide | omega) only [s113, j113, zc, nI_lt_t, if_true, cG, xpush_s, zd, K.1, c40, a0, a1, sd, s1, nI_nneg, if_false, c37, m3, m4, c87 K w2 (show xw (S 0) d e < 3 from xwt_lt _ _), q, i00]
          exact ⟨trivial, C1⟩
        · rw [h182_18]
          simp (disch := first | decide | omega) only [s182, j182, yc, nI_lt_t, nI_nneg, if_true, if_false, pk_mul, nI_add, yd, b0, r171 Rh (show d < 8 by omega), E.d (d := d) (e := 0), E.d (d := d) (e := 1), xpush_s, sd, s1, r168' _ e he, ew, q, i00]
          exact stop.2 e
theorem A_along (C : RC S M) (R : RR S N) (W : WA S) (x : Int32) : Agr S M N 113 [.ref 0, .int x, .null, .null, .null, .null] 182 [.ref 0, .int x, .null, .null, .null] := by
  have h8 := W.2.1.1.2.2.1
  have h5 := W.2.1.1.2.2.2
  obtain ⟨cn0, cn1, cn2⟩ := C.n
  obtain ⟨rn0, rn1, rn2⟩ := R.n
  have l0 : S 0 0 < 2 ^ 31 := by have := W.2.1.1.2.1; omega
  have l1 : S 0 1 < 2 ^ 31 := by omega
  have l2 : S 0 2 < 2 ^ 31 := by omega
  cases hx : xok x (S 0 2)
  all_goals try (refine Agr.same W (-1) ?_ ?_ <;> (simp (disch := first | decide | omega) only [s113, j113, c25r l2 cn2, s182, j182, r141 l2 rn2, hx, xpush_s, Bool.false_eq_true, if_true, if_false, i12, i00, Bool.and_true, Bool.and_false, Bool.true_and, Bool.false_and]; exact ⟨trivial, by first | exact C | exact R⟩))
  obtain ⟨i, hi, rfl⟩ := xok_nI hx l2
  obtain ⟨r2, M1, ⟨rfl, f1, K⟩, hc⟩ := xW_ex (c85 (Q := fun r M' => r = none ∧ xfr 31 32 M M' ∧ cK (xRm2 (S 0) i) (xTr (S 0) i) (xLa (S 0) i) (xTi (S 0) i) M') C.2.1 W.2.1 hi (fun M' a b => ⟨rfl, a, b⟩))
  obtain ⟨r3, N1, ⟨rfl, g1, g2⟩, hr⟩ := xW_ex (r180 (N := N) (Q := fun r N' => r = none ∧ (∀ a, a ≠ 8 → N' a = N a) ∧ (∀ j, j < 156 → N' 8 j = N 1 j)) (fun N' a b => ⟨rfl, a, b⟩))
  obtain ⟨v, v1, v2⟩ := along_sim C R W hi (S 2 1) 0 0 (S 0) M1 N1 .null .null .null (by omega) (by omega) xeq.rf W.2.1 (cfr.x f1 (by decide)) K (R.2.1.mono (g1 1 (by decide))) g2 ⟨fun a q => g1 a (by omega), fun j q => by rw [g1 0 (by decide)]⟩
  refine Agr.same W v ?_ ?_
  · simp (disch := first | decide | omega) only [s113, c25r l2 cn2, hx, xpush_s, if_true, if_false, i12]
    refine hc _ ?_
    simp (disch := first | decide | omega) only [s113, xpush_n]
    exact v1
  · simp (disch := first | decide | omega) only [s182, r141 l2 rn2, hx, xpush_s, if_true, if_false, i12]
    refine hr _ ?_
    simp (disch := first | decide | omega) only [s182, xpush_n]
    exact v2
end C31
