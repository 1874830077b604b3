/-! signs at odds -/
def xles (h : Nat → Nat) (s : Nat) : Nat := min (0 + xSP h (xw h (s / 2) (s % 2)) (xg h (s / 2) (s % 2)) (xg h (s / 2) (1 - s % 2))) (0 + xSQ h (xw h (s / 2) (s % 2)) (xg h (s / 2) (s % 2)) (xg h (s / 2) (1 - s % 2)))
def xcl (h : Nat → Nat) : Nat → Nat → Nat → Nat → Nat → Nat × Nat
  | _, 0, c, w, _ => (c, w)
  | s, n + 1, c, w, m => xcl h (s + 1) n (if 0 < xles h s then c + 1 else c) (if m < xles h s then s else w) (if m < xles h s then xles h s else m)
section C35
variable {M N : xM} {Q : Option Value → xM → Prop} {S S1 : xA} {h h' : Nat → Nat}
theorem xPP_0 (h : Nat → Nat) (d e : Nat) : xPP h (fun _ => 0) 3 d e = 1 + xSP h (xw h d e) (xg h d e) (xg h d (1 - e)) := by
  unfold xPP
  rw [xtw_0, if_neg (by decide)]
  omega
theorem xQQ_0 (h : Nat → Nat) (d e : Nat) : xQQ h (fun _ => 0) 3 d e = 1 + xSQ h (xw h d e) (xg h d e) (xg h d (1 - e)) := by
  unfold xQQ
  rw [xtw_0, if_neg (by decide)]
  omega
theorem xSPQ_lt (W : xWF h) (d e : Nat) : xSP h (xw h d e) (xg h d e) (xg h d (1 - e)) < 32000 ∧ xSQ h (xw h d e) (xg h d e) (xg h d (1 - e)) < 32000 := ⟨by have := xSP_le W (xw h d e) (xg h d e) (xg h d (1 - e)); omega, by have := xSQ_le W (xw h d e) (xg h d e) (xg h d (1 - e)); omega⟩
theorem xcl_le (h : Nat → Nat) : ∀ (n s c w m : Nat), (xcl h s n c w m).1 ≤ c + n
  | 0, _, c, _, _ => Nat.le_refl c
  | n + 1, s, c, w, m => by
    have := xcl_le h n (s + 1) (if 0 < xles h s then c + 1 else c) (if m < xles h s then s else w) (if m < xles h s then xles h s else m)
    have e : (if 0 < xles h s then c + 1 else c) ≤ c + 1 := by split <;> omega
    simp only [xcl]
    omega
theorem dm2 (s : Nat) : nI s - nI (s / 2 * 2) = nI (s % 2) := by
  rw [pk_sub (Nat.div_mul_le_self s 2)]
  exact congrArg nI (by omega)
theorem xles_le (W : xWF h) (s : Nat) : xles h s < 32000 := by
  have := (xSPQ_lt W (s / 2) (s % 2)).1
  unfold xles
  omega
/-- the class counts its clashes -/
theorem c67 (H : cH 9 h M) (W : xWF h) (hQ : ∀ M', xfr 39 40 M M' → M' 39 3 = nI (xcl h 0 (2 * h 1) 0 0 0).1 → M' 39 4 = nI (xcl h 0 (2 * h 1) 0 0 0).2 → Q none M') : xW xSC 67 0 [.ref 39, .ref 9, .null, .null, .null, .null, .null] [] M Q := by
  have h8 := W.1.2.2.1
  have key : ∀ (n s c w m : Nat) (M1 : xM) (x4 x5 x6 : Value), s + n = 2 * h 1 → c ≤ s → w ≤ 16 → m < 32000 → xfr 39 40 M M1 → M1 39 3 = nI c → M1 39 4 = nI w → xcl h s n c w m = xcl h 0 (2 * h 1) 0 0 0 → xW xSC 67 14 [.ref 39, .ref 9, .int (nI m), .int (nI s), x4, x5, x6] [] M1 Q := by
    intro n
    induction n with
    | zero =>
      intro s c w m M1 x4 x5 x6 hk hc hw hm f a b q
      have H1 := H.fr f (by omega)
      have m1 : M1 9 1 = nI (h 1) := H1.1.2.1
      rw [h67_14]
      simp (disch := first | decide | omega) only [s67, m1, pk_mul, nI_lt_f, if_false]
      exact hQ M1 f (by rw [a, ← q]; rfl) (by rw [b, ← q]; rfl)
    | succ n ih =>
      intro s c w m M1 x4 x5 x6 hk hc hw hm f a b q
      have H1 := H.fr f (by omega)
      have m1 : M1 9 1 = nI (h 1) := H1.1.2.1
      have hd : s / 2 < h 1 := by omega
      have he : s % 2 < 2 := by omega
      have ll := xles_le W s
      obtain ⟨p1, p2⟩ := xSPQ_lt W (s / 2) (s % 2)
      have le : min (1 + xSP h (xw h (s / 2) (s % 2)) (xg h (s / 2) (s % 2)) (xg h (s / 2) (1 - s % 2))) (1 + xSQ h (xw h (s / 2) (s % 2)) (xg h (s / 2) (s % 2)) (xg h (s / 2) (1 - s % 2))) - 1 = xles h s := by
        unfold xles
        omega
      have o39 : ∀ p r, xsc 40 p r M1 39 = M1 39 := fun p r => xsc_o (by decide)
      have fx : ∀ p r, xfr 39 40 M1 (xsc 40 p r M1) := fun p r a q => xsc_o (by omega)
      have step : xcl h s (n + 1) c w m = xcl h (s + 1) n (if 0 < xles h s then c + 1 else c) (if m < xles h s then s else w) (if m < xles h s then xles h s else m) := rfl
      rw [step] at q
      rw [h67_14]
      by_cases z0 : 0 < xles h s
      · by_cases z1 : m < xles h s
        · rw [if_pos z0, if_pos z1, if_pos z1] at q
          simp (disch := first | decide | omega) only [s67, m1, pk_mul, nI_lt_t, if_true, shr1, and1, xpush_s, c44_40 H1 W hd he, xpush_n, xsc_0, xsc_1, xmin_nI, pk_sub, le, o39, a, nI_add, h67_82, h67_96]
          refine ih (s + 1) (c + 1) s (xles h s) _ _ _ _ (by omega) (by omega) (by omega) (by omega) (f.tr ((fx _ _).tr (fun a q => by rw [xup_other (by omega), xup_other (by omega)]))) ?_ ?_ q
          · rw [xup_r (by decide), xup_rs]
          · rw [xup_rs]
        · rw [if_pos z0, if_neg z1, if_neg z1] at q
          simp (disch := first | decide | omega) only [s67, m1, pk_mul, nI_lt_t, nI_lt_f, if_true, if_false, shr1, and1, xpush_s, c44_40 H1 W hd he, xpush_n, xsc_0, xsc_1, xmin_nI, pk_sub, le, o39, a, nI_add, h67_82, h67_96]
          refine ih (s + 1) (c + 1) w m _ _ _ _ (by omega) (by omega) (by omega) (by omega) (f.tr ((fx _ _).tr (fun a q => by rw [xup_other (by omega)]))) ?_ ?_ q
          · rw [xup_rs]
          · rw [xup_r (by decide), o39]; exact b
      · have z1 : ¬ m < xles h s := by omega
        rw [if_neg z0, if_neg z1, if_neg z1] at q
        simp (disch := first | decide | omega) only [s67, m1, pk_mul, nI_lt_t, nI_lt_f, if_true, if_false, shr1, and1, xpush_s, c44_40 H1 W hd he, xpush_n, xsc_0, xsc_1, xmin_nI, pk_sub, le, o39, nI_add, h67_82, h67_96]
        refine ih (s + 1) c w m _ _ _ _ (by omega) (by omega) (by omega) (by omega) (f.tr (fx _ _)) ?_ ?_ q
        · rw [o39]; exact a
        · rw [o39]; exact b
  simp (disch := first | decide | omega) only [s67]
  refine key (2 * h 1) 0 0 0 0 _ _ _ _ (by omega) (by omega) (by omega) (by omega) (fun a q => by rw [xup_other (by omega), xup_other (by omega)]) ?_ ?_ rfl
  · rw [xup_r (by decide), xup_rs]
  · rw [xup_rs]
def xwo (c w : Nat) : Int32 := if c = 0 then -4 else nI w
/-- the reference counts its clashes -/
theorem r193 {k : Nat} (hk : k ≤ 1) (R : rH 1 h N) (W : xWF h) (hQ : ∀ N', rfr N N' → Q (some (.int (if k = 0 then nI (xcl h 0 (2 * h 1) 0 0 0).1 else xwo (xcl h 0 (2 * h 1) 0 0 0).1 (xcl h 0 (2 * h 1) 0 0 0).2))) N') : ∀ x6, xW xSR 193 23 [.ref 0, .int (nI k), .int (nI 0), .int (-4), .int (nI 0), .int (nI 0), x6] [] N Q := by
  have h8 := W.1.2.2.1
  have key : ∀ (n s c w m : Nat) (N1 : xM) (x6 : Value), s + n = 2 * h 1 → c ≤ s → w ≤ 16 → m < 32000 → (c = 0 → m = 0) → rfr N N1 → xcl h s n c w m = xcl h 0 (2 * h 1) 0 0 0 → xW xSR 193 23 [.ref 0, .int (nI k), .int (nI c), .int (xwo c w), .int (nI m), .int (nI s), x6] [] N1 Q := by
    intro n
    induction n with
    | zero =>
      intro s c w m N1 x6 hk hc hw hm hcm f q
      have R1 := R.fr f
      have m1 : N1 1 1 = nI (h 1) := R1.at _ rfl (by omega) (by omega)
      rw [h193_23]
      have q1 : (xcl h 0 (2 * h 1) 0 0 0).1 = c := by rw [← q]; rfl
      have q2 : (xcl h 0 (2 * h 1) 0 0 0).2 = w := by rw [← q]; rfl
      rw [q1, q2] at hQ
      rcases (show k = 0 ∨ k = 1 by omega) with z | z
      · subst z
        rw [if_pos rfl] at hQ
        simp (disch := first | decide | omega) only [s193, m1, pk_mul, nI_lt_f, if_false, i00, if_true, h193_152]
        exact hQ N1 f
      · subst z
        rw [if_neg (by decide)] at hQ
        simp (disch := first | decide | omega) only [s193, m1, pk_mul, nI_lt_f, if_false, i12, h193_152]
        exact hQ N1 f
    | succ n ih =>
      intro s c w m N1 x6 hk hc hw hm hcm f q
      have R1 := R.fr f
      have m1 : N1 1 1 = nI (h 1) := R1.at _ rfl (by omega) (by omega)
      have hd : s / 2 < h 1 := by omega
      have he : s % 2 < 2 := by omega
      have ll := xles_le W s
      obtain ⟨p1, p2⟩ := xSPQ_lt W (s / 2) (s % 2)
      have step : xcl h s (n + 1) c w m = xcl h (s + 1) n (if 0 < xles h s then c + 1 else c) (if m < xles h s then s else w) (if m < xles h s then xles h s else m) := rfl
      rw [step] at q
      have f2 : rfr N1 (xup (xup N1 5 0 (nI 0)) 5 1 (nI 0)) := rfr.hand (fun a q => by rw [xup_other (by omega), xup_other (by omega)])
      rw [h193_23]
      simp (disch := first | decide | omega) only [s193, m1, pk_mul, nI_lt_t, if_true, pk_div, dm2]
      refine r163 (R1.fr f2) W hd he (by rw [xup_r (by decide), xup_rs]) (by rw [xup_rs]) (fun N2 g1 g2 g3 => ?_)
      have f3 := f.tr (f2.tr (rfr.hand g1))
      have nxt : xW xSR 193 92 [.ref 0, .int (nI k), .int (nI c), .int (xwo c w), .int (nI m), .int (nI s), x6] [.int (nI (xles h s))] N2 Q := by
        rw [h193_92]
        by_cases z0 : 0 < xles h s
        · by_cases z1 : m < xles h s
          · rw [if_pos z0, if_pos z1, if_pos z1] at q
            have e : xwo (c + 1) s = nI s := by unfold xwo; rw [if_neg (by omega)]
            have IH := fun x6 => ih (s + 1) (c + 1) s (xles h s) N2 x6 (by omega) (by omega) (by omega) (by omega) (by omega) f3 q
            rw [e] at IH
            simp (disch := first | decide | omega) only [s193, nI_lt_t, if_true, h193_105, nI_add, h193_120, h193_135]
            exact IH _
          · rw [if_pos z0, if_neg z1, if_neg z1] at q
            have e : xwo (c + 1) w = xwo c w := by
              unfold xwo
              have c0 : c ≠ 0 := fun z => by have := hcm z; omega
              rw [if_neg (by omega), if_neg c0]
            have IH := fun x6 => ih (s + 1) (c + 1) w m N2 x6 (by omega) (by omega) (by omega) (by omega) (by omega) f3 q
            rw [e] at IH
            simp (disch := first | decide | omega) only [s193, nI_lt_t, nI_lt_f, if_true, if_false, h193_105, nI_add, h193_120, h193_135]
            exact IH _
        · have z1 : ¬ m < xles h s := by omega
          rw [if_neg z0, if_neg z1, if_neg z1] at q
          have IH := fun x6 => ih (s + 1) c w m N2 x6 (by omega) (by omega) (by omega) (by omega) hcm f3 q
          simp (disch := first | decide | omega) only [s193, nI_lt_f, if_false, h193_105, nI_add, Nat.add_zero, h193_120, h193_135]
          exact IH _
      by_cases z : 0 + xSP h (xw h (s / 2) (s % 2)) (xg h (s / 2) (s % 2)) (xg h (s / 2) (1 - s % 2)) < 0 + xSQ h (xw h (s / 2) (s % 2)) (xg h (s / 2) (s % 2)) (xg h (s / 2) (1 - s % 2))
      · have e : xles h s = 0 + xSP h (xw h (s / 2) (s % 2)) (xg h (s / 2) (s % 2)) (xg h (s / 2) (1 - s % 2)) := Nat.min_eq_left (by omega)
        rw [e] at nxt
        simp (disch := first | decide | omega) only [s193, xpush_n, g2, g3, nI_lt_t, if_true]
        exact nxt
      · have e : xles h s = 0 + xSQ h (xw h (s / 2) (s % 2)) (xg h (s / 2) (s % 2)) (xg h (s / 2) (1 - s % 2)) := Nat.min_eq_right (by omega)
        rw [e] at nxt
        simp (disch := first | decide | omega) only [s193, xpush_n, g2, g3, nI_lt_f, if_false]
        exact nxt
  intro x6
  exact key (2 * h 1) 0 0 0 0 N x6 (by omega) (by omega) (by omega) (by omega) (fun _ => rfl) rfr.rf rfl
theorem A_clash (C : RC S M) (R : RR S N) (W : WA S) (x : Int32) : Agr S M N 121 [.ref 0, .int x] 193 [.ref 0, .int x, .null, .null, .null, .null, .null] := by
  have h8 := W.2.1.1.2.2.1
  have h5 := W.2.1.1.2.2.2
  obtain ⟨cn0, cn1, cn2⟩ := C.n
  obtain ⟨rn0, rn1, rn2⟩ := R.n
  have l0 : S 0 0 < 2 ^ 31 := by have := W.2.1.1.2.1; omega
  have l1 : S 0 1 < 2 ^ 31 := by omega
  have l2 : S 0 2 < 2 ^ 31 := by omega
  cases hx : xbw x 0 (1 + 1)
  all_goals try (refine Agr.same W (-1) ?_ ?_ <;> (simp (disch := first | decide | omega) only [s121, j121, cWi, s193, j193, r135w, hx, xpush_s, Bool.false_eq_true, if_true, if_false, i12, i00, Bool.and_true, Bool.and_false, Bool.true_and, Bool.false_and]; exact ⟨trivial, by first | exact C | exact R⟩))
  obtain ⟨k, -, hk, rfl⟩ := xbw_nI hx (by decide)
  refine Agr.same W (if k = 0 then nI (xcl (S 0) 0 (2 * S 0 1) 0 0 0).1 else xwo (xcl (S 0) 0 (2 * S 0 1) 0 0 0).1 (xcl (S 0) 0 (2 * S 0 1) 0 0 0).2) ?_ ?_
  · simp (disch := first | decide | omega) only [s121, cWi, hx, xpush_s, if_true, if_false, i12]
    refine c67 C.2.1 W.2.1 (fun M1 f a b => ?_)
    have C1 := C.fr (cfr.x f (by decide))
    rcases (show k = 0 ∨ k = 1 by omega) with z | z
    · subst z
      simp (disch := first | decide | omega) only [s121, xpush_n, a, i00, if_true]
      exact ⟨trivial, C1⟩
    · subst z
      by_cases y : (xcl (S 0) 0 (2 * S 0 1) 0 0 0).1 = 0
      · rw [y] at a
        simp (disch := first | decide | omega) only [s121, j121, xpush_n, i12, if_false, a, i00, if_true]
        exact ⟨by unfold xwo; rw [if_neg (by decide), if_pos y], C1⟩
      · have lc : (xcl (S 0) 0 (2 * S 0 1) 0 0 0).1 < 2 ^ 31 := by have := xcl_le (S 0) (2 * S 0 1) 0 0 0 0; omega
        have b' : M1 39 4 = nI (xcl (S 0) 0 (2 * S 0 1) 0 0 0).2 := b
        simp (disch := first | decide | omega) only [s121, j121, xpush_n, i12, if_false, a, nI_eq_f, b']
        exact ⟨by unfold xwo; rw [if_neg (by decide), if_neg y], C1⟩
  · simp (disch := first | decide | omega) only [s193, r135w, hx, xpush_s, if_true, if_false, i12]
    exact r193 (by omega) R.2.1 W.2.1 (fun N' f => ⟨rfl, R.fr f⟩) _
end C35
