/-! calls that read: person, times, weighs, wrong, count -/
theorem rH.la {c i : Nat} {h : Nat → Nat} {M : xM} (R : rH c h M) (hi : i < 5) : M c (51 + 3 * i + 2) = rli (xLa h i) := by
  rw [R.2 (51 + 3 * i + 2) (by unfold rla; omega)]
  unfold rli xLa
  rw [show 51 + 3 * i + 2 = 51 + (i * 3 + 2) by omega]
theorem rli_or (la : Nat) : rli la = if la = 3 then -4 else nI la := rfl
section C23
variable {M N : xM} {S : xA}
theorem A_person (C : RC S M) (R : RR S N) (W : WA S) (x y : Int32) : Agr S M N 102 [.ref 0, .int x, .int y, .null] 157 [.ref 0, .int x, .int y] := by
  have h8 := W.2.1.1.2.2.1
  have h5 := W.2.1.1.2.2.2
  obtain ⟨cn0, cn1, cn2⟩ := C.n
  obtain ⟨rn0, rn1, rn2⟩ := R.n
  have l0 : S 0 0 < 2 ^ 31 := by have := W.2.1.1.2.1; omega
  have l1 : S 0 1 < 2 ^ 31 := by omega
  have l2 : S 0 2 < 2 ^ 31 := by omega
  cases hx : xok x (S 0 2) <;> cases hy : xbw y 0 (2 + 1)
  all_goals try (refine Agr.same W (-1) ?_ ?_ <;> (simp (disch := first | decide | omega) only [s102, j102, c25r l2 cn2, cWi, s157, j157, r141 l2 rn2, r135w, hx, hy, xpush_s, Bool.false_eq_true, if_true, if_false, i12, i00, Bool.and_true, Bool.and_false, Bool.true_and, Bool.false_and]; exact ⟨trivial, by first | exact C | exact R⟩))
  obtain ⟨i, hi, rfl⟩ := xok_nI hx l2
  obtain ⟨k, -, hk, rfl⟩ := xbw_nI hy (by decide)
  have m1 : M 11 (i * 3 + k) = nI (S 0 (51 + (i * 3 + k))) := C.2.1.2.2.1 _ (by omega)
  obtain ⟨w1, w2, w3⟩ := W.2.1.2.2.1 i hi
  have n3 : (3 : Int32) = nI 3 := rfl
  rcases (show k = 0 ∨ k = 1 ∨ k = 2 by omega) with rfl | rfl | rfl
  · have m2 : N 1 (51 + 3 * i + 0) = nI (S 0 (51 + (i * 3 + 0))) := R.2.1.at _ (by omega) (by omega) (by omega)
    refine Agr.same W (nI (S 0 (51 + (i * 3 + 0)))) ?_ ?_
    · simp (disch := first | decide | omega) only [s102, j102, c25r l2 cn2, hx, xpush_s, if_true, if_false, i12, cWi, hy, c30, m1, nI_eq_f]
      exact ⟨trivial, C⟩
    · simp (disch := first | decide | omega) only [s157, j157, r141 l2 rn2, hx, xpush_s, if_true, if_false, i12, r135w, hy, pk_mul, nI_add, m2]
      exact ⟨trivial, R⟩
  · have m2 : N 1 (51 + 3 * i + 1) = nI (S 0 (51 + (i * 3 + 1))) := R.2.1.at _ (by omega) (by omega) (by omega)
    refine Agr.same W (nI (S 0 (51 + (i * 3 + 1)))) ?_ ?_
    · simp (disch := first | decide | omega) only [s102, j102, c25r l2 cn2, hx, xpush_s, if_true, if_false, i12, cWi, hy, c30, m1, nI_eq_f]
      exact ⟨trivial, C⟩
    · simp (disch := first | decide | omega) only [s157, j157, r141 l2 rn2, hx, xpush_s, if_true, if_false, i12, r135w, hy, pk_mul, nI_add, m2]
      exact ⟨trivial, R⟩
  · have m2 : N 1 (51 + 3 * i + 2) = rli (xLa (S 0) i) := R.2.1.la (by omega)
    have m3 : nI (S 0 (51 + (i * 3 + 2))) = nI (xLa (S 0) i) := rfl
    by_cases q : xLa (S 0) i = 3
    · refine Agr.same W (-4) ?_ ?_
      · simp (disch := first | decide | omega) only [s102, j102, c25r l2 cn2, hx, xpush_s, if_true, if_false, i12, cWi, hy, c30, m1, m3, q, nI_eq_t]
        exact ⟨trivial, C⟩
      · simp (disch := first | decide | omega) only [s157, j157, r141 l2 rn2, hx, xpush_s, if_true, if_false, i12, r135w, hy, pk_mul, nI_add, m2, rli, q]
        exact ⟨trivial, R⟩
    · have w3 : xLa (S 0) i ≤ 3 := w3
      refine Agr.same W (nI (xLa (S 0) i)) ?_ ?_
      · simp (disch := first | decide | omega) only [s102, j102, c25r l2 cn2, hx, xpush_s, if_true, if_false, i12, cWi, hy, c30, m1, m3, nI_eq_t, nI_eq_f]
        exact ⟨trivial, C⟩
      · simp (disch := first | decide | omega) only [s157, j157, r141 l2 rn2, hx, xpush_s, if_true, if_false, i12, r135w, hy, pk_mul, nI_add, m2, rli, q]
        exact ⟨trivial, R⟩
theorem A_times (C : RC S M) (R : RR S N) (W : WA S) (x y z : Int32) : Agr S M N 103 [.ref 0, .int x, .int y, .int z] 159 [.ref 0, .int x, .int y, .int z] := by
  have h8 := W.2.1.1.2.2.1
  have h5 := W.2.1.1.2.2.2
  obtain ⟨cn0, cn1, cn2⟩ := C.n
  obtain ⟨rn0, rn1, rn2⟩ := R.n
  have l0 : S 0 0 < 2 ^ 31 := by have := W.2.1.1.2.1; omega
  have l1 : S 0 1 < 2 ^ 31 := by omega
  have l2 : S 0 2 < 2 ^ 31 := by omega
  cases hx : xok x (S 0 2) <;> cases hy : xok y (S 0 1) <;> cases hz : xok z 2
  all_goals try (refine Agr.same W (-1) ?_ ?_ <;> (simp (disch := first | decide | omega) only [s103, j103, c134 l1 l2 cn1 cn2, s159, j159, r141 l2 rn2, r140 l1 rn1, r142, hx, hy, hz, xpush_s, Bool.false_eq_true, if_true, if_false, i12, i00, Bool.and_true, Bool.and_false, Bool.true_and, Bool.false_and]; exact ⟨trivial, by first | exact C | exact R⟩))
  obtain ⟨i, hi, rfl⟩ := xok_nI hx l2
  obtain ⟨d, hd, rfl⟩ := xok_nI hy l1
  obtain ⟨e, he, rfl⟩ := xok_nI hz (by decide)
  have m1 : M 12 (i * 16 + (2 * d + e)) = nI (S 0 (66 + (i * 16 + (2 * d + e)))) := C.2.1.2.2.2.1 _ (by omega)
  have m2 : N 1 (66 + 16 * i + 2 * d + e) = nI (S 0 (66 + (i * 16 + (2 * d + e)))) := R.2.1.at _ (by omega) (by omega) (by omega)
  refine Agr.same W (nI (S 0 (66 + (i * 16 + (2 * d + e))))) ?_ ?_
  · simp (disch := first | decide | omega) only [s103, j103, c134 l1 l2 cn1 cn2, hx, hy, hz, Bool.and_true, xpush_s, if_true, if_false, i12, pk_mul, nI_add, c32, m1]
    exact ⟨trivial, C⟩
  · simp (disch := first | decide | omega) only [s159, j159, r141 l2 rn2, r140 l1 rn1, r142, hx, hy, hz, xpush_s, if_true, if_false, i12, r158, m2]
    exact ⟨trivial, R⟩
theorem A_weighs (C : RC S M) (R : RR S N) (W : WA S) (x y z w : Int32) : Agr S M N 105 [.ref 0, .int x, .int y, .int z, .int w] 165 [.ref 0, .int x, .int y, .int z, .int w] := by
  have h8 := W.2.1.1.2.2.1
  have h5 := W.2.1.1.2.2.2
  obtain ⟨cn0, cn1, cn2⟩ := C.n
  obtain ⟨rn0, rn1, rn2⟩ := R.n
  have l0 : S 0 0 < 2 ^ 31 := by have := W.2.1.1.2.1; omega
  have l1 : S 0 1 < 2 ^ 31 := by omega
  have l2 : S 0 2 < 2 ^ 31 := by omega
  cases hx : xok x (S 0 2) <;> cases hy : xok y (S 0 1) <;> cases hz : xok z 2 <;> cases hw : xbw w 0 (1 + 1)
  all_goals try (refine Agr.same W (-1) ?_ ?_ <;> (simp (disch := first | decide | omega) only [s105, j105, c134 l1 l2 cn1 cn2, cWi, s165, j165, r141 l2 rn2, r140 l1 rn1, r142, r135w, hx, hy, hz, hw, xpush_s, Bool.false_eq_true, if_true, if_false, i12, i00, Bool.and_true, Bool.and_false, Bool.true_and, Bool.false_and]; exact ⟨trivial, by first | exact C | exact R⟩))
  obtain ⟨i, hi, rfl⟩ := xok_nI hx l2
  obtain ⟨d, hd, rfl⟩ := xok_nI hy l1
  obtain ⟨e, he, rfl⟩ := xok_nI hz (by decide)
  obtain ⟨k, -, hk, rfl⟩ := xbw_nI hw (by decide)
  have hT := xTi_99 W.2.1 (show i < 5 by omega)
  obtain ⟨w1, w2, w3⟩ := W.2.1.2.2.1 i hi
  have w3 : xLa (S 0) i ≤ 3 := w3
  have m2 : N 1 (51 + 3 * i + 2) = rli (xLa (S 0) i) := R.2.1.la (by omega)
  refine Agr.same W (nI (if k = 0 then xPP (S 0) (xTi (S 0) i) (xLa (S 0) i) d e else xQQ (S 0) (xTi (S 0) i) (xLa (S 0) i) d e)) ?_ ?_
  · simp (disch := first | decide | omega) only [s105, j105, c134 l1 l2 cn1 cn2, hx, hy, hz, Bool.and_true, xpush_s, if_true, if_false, i12, cWi, hw]
    refine c85 C.2.1 W.2.1 hi (fun M1 f1 K => ?_)
    have C1 := C.fr (cfr.x f1 (by decide))
    have C2 := fun p r => C1.fr (cfr.x (xsc_fr (s := 33) (p := p) (r := r)) (by decide))
    rcases (show k = 0 ∨ k = 1 by omega) with rfl | rfl
    · simp (disch := first | decide | omega) only [s105, j105, xpush_n, c43_33 C1.2.1 K W.2.1 hd he w3 hT, i00, if_true, xsc_0]
      exact ⟨trivial, C2 _ _⟩
    · simp (disch := first | decide | omega) only [s105, j105, xpush_n, c43_33 C1.2.1 K W.2.1 hd he w3 hT, i12, if_false, xsc_1]
      exact ⟨by simp, C2 _ _⟩
  · simp (disch := first | decide | omega) only [s165, j165, r141 l2 rn2, r140 l1 rn1, r142, hx, hy, hz, xpush_s, if_true, if_false, i12, r135w, hw, pk_mul, nI_add, m2]
    refine r164 R.2.1 W.2.1 hd he (by omega) w3 (fun N1 f0 f1 f2 => ?_)
    have R1 := R.fr (rfr.hand f0)
    rcases (show k = 0 ∨ k = 1 by omega) with rfl | rfl
    · simp (disch := first | decide | omega) only [s165, j165, xpush_n, f1, if_true]
      exact ⟨trivial, R1⟩
    · simp (disch := first | decide | omega) only [s165, j165, xpush_n, f2]
      exact ⟨by simp, R1⟩
theorem A_wrong (C : RC S M) (R : RR S N) (W : WA S) (x y z w : Int32) : Agr S M N 106 [.ref 0, .int x, .int y, .int z, .int w] 170 [.ref 0, .int x, .int y, .int z, .int w] := by
  have h8 := W.2.1.1.2.2.1
  have h5 := W.2.1.1.2.2.2
  obtain ⟨cn0, cn1, cn2⟩ := C.n
  obtain ⟨rn0, rn1, rn2⟩ := R.n
  have l0 : S 0 0 < 2 ^ 31 := by have := W.2.1.1.2.1; omega
  have l1 : S 0 1 < 2 ^ 31 := by omega
  have l2 : S 0 2 < 2 ^ 31 := by omega
  cases hx : xok x (S 0 2) <;> cases hy : xok y (S 0 1) <;> cases hz : xok z 2 <;> cases hw : xbw w 0 (1 + 1)
  all_goals try (refine Agr.same W (-1) ?_ ?_ <;> (simp (disch := first | decide | omega) only [s106, j106, c134 l1 l2 cn1 cn2, cWi, s170, j170, r141 l2 rn2, r140 l1 rn1, r142, r135w, hx, hy, hz, hw, xpush_s, Bool.false_eq_true, if_true, if_false, i12, i00, Bool.and_true, Bool.and_false, Bool.true_and, Bool.false_and]; exact ⟨trivial, by first | exact C | exact R⟩))
  obtain ⟨i, hi, rfl⟩ := xok_nI hx l2
  obtain ⟨d, hd, rfl⟩ := xok_nI hy l1
  obtain ⟨e, he, rfl⟩ := xok_nI hz (by decide)
  obtain ⟨k, -, hk, rfl⟩ := xbw_nI hw (by decide)
  have hT := xTi_99 W.2.1 (show i < 5 by omega)
  obtain ⟨w1, w2, w3⟩ := W.2.1.2.2.1 i hi
  have w3 : xLa (S 0) i ≤ 3 := w3
  have w2 : xTr (S 0) i ≤ 1 := w2
  have m2 : N 1 (51 + 3 * i + 2) = rli (xLa (S 0) i) := R.2.1.la (by omega)
  have m5 : N 1 (51 + 3 * i + 1) = nI (xTr (S 0) i) := R.2.1.at _ (by omega) (by omega) (by omega)
  obtain ⟨-, -, -, hw2, -, -, -, -⟩ := W.2.1.2.1 d hd
  have m3 : M 10 (d * 6 + 2) = nI (S 0 (3 + (d * 6 + 2))) := C.2.1.2.1 _ (by omega)
  have m4 : xwi (nI (S 0 (3 + (d * 6 + 2)))) (nI e) = nI (xw (S 0) d e) := xwi_nI (by omega) (by omega)
  obtain ⟨b1, b2, b3, b4⟩ := xAA_le W.2.1 (xLa (S 0) i) (xTr (S 0) i) (d := d) (e := e) (by omega) hT
  by_cases q : xTr (S 0) i = 0 ∨ xw (S 0) d e ≠ 1
  · refine Agr.same W (nI ((if k = 0 then xAA (S 0) (xTi (S 0) i) (xLa (S 0) i) (xTr (S 0) i) d e else xBB (S 0) (xTi (S 0) i) (xLa (S 0) i) d e) / Nat.gcd (xAA (S 0) (xTi (S 0) i) (xLa (S 0) i) (xTr (S 0) i) d e) (xBB (S 0) (xTi (S 0) i) (xLa (S 0) i) d e))) ?_ ?_
    · simp (disch := first | decide | omega) only [s106, j106, c134 l1 l2 cn1 cn2, hx, hy, hz, Bool.and_true, xpush_s, if_true, if_false, i12, cWi, hw]
      refine c85 C.2.1 W.2.1 hi (fun M1 f1 K => ?_)
      have C1 := C.fr (cfr.x f1 (by decide))
      have C2 := fun p r a b => C1.fr (cfr.x (xsf_fr (s := 33) (p := p) (r := r) (a := a) (b := b)) (by decide))
      have e10 : M1 10 = M 10 := f1 10 (by omega)
      simp (disch := first | decide | omega) only [s106, j106, xpush_n, xpush_s, c37, e10, m3, m4, c87 K w2 (show xw (S 0) d e < 3 from xwt_lt _ _), q, if_true, i12, if_false, c50_33 C1.2.1 K W.2.1 hd he w3 w2 hT, c58 (xsf_2 _ _ _ _ _ _) (xsf_3 _ _ _ _ _ _) (show xAA (S 0) (xTi (S 0) i) (xLa (S 0) i) (xTr (S 0) i) d e < 2 ^ 31 by omega) (show xBB (S 0) (xTi (S 0) i) (xLa (S 0) i) d e < 2 ^ 31 by omega) b2 (show k ≤ 1 by omega)]
      exact ⟨trivial, C2 _ _ _ _⟩
    · have fin : xW xSR 169 0 [.ref 0, .int (nI i), .int (nI d), .int (nI e), .int (rli (xLa (S 0) i)), .int (nI (xTr (S 0) i))] [] N (fun v M' => xW xSR 170 91 [.ref 0, .int (nI i), .int (nI d), .int (nI e), .int (nI k)] (xpush v []) M' (fun r N' => r = some (Value.int (nI ((if k = 0 then xAA (S 0) (xTi (S 0) i) (xLa (S 0) i) (xTr (S 0) i) d e else xBB (S 0) (xTi (S 0) i) (xLa (S 0) i) d e) / Nat.gcd (xAA (S 0) (xTi (S 0) i) (xLa (S 0) i) (xTr (S 0) i) d e) (xBB (S 0) (xTi (S 0) i) (xLa (S 0) i) d e)))) ∧ RR S N')) := by
        refine r169 R.2.1 W.2.1 hd he (by omega) w3 w2 (fun N1 f0 f1 f2 => ?_)
        rcases (show k = 0 ∨ k = 1 by omega) with rfl | rfl
        · simp (disch := first | decide | omega) only [s170, j170, xpush_s, i00, if_true, f1]
          exact ⟨trivial, R.fr f0⟩
        · simp (disch := first | decide | omega) only [s170, j170, xpush_s, i12, if_false, f2]
          exact ⟨by simp, R.fr f0⟩
      rcases (show xTr (S 0) i = 0 ∨ xTr (S 0) i = 1 by omega) with u | u
      · rw [u] at m5
        simp (disch := first | decide | omega) only [s170, j170, r141 l2 rn2, r140 l1 rn1, r142, hx, hy, hz, xpush_s, if_true, if_false, i12, r135w, hw, r168 R.2.1 W.2.1 hd he hi, q, pk_mul, nI_add, m2, m5, nI_eq_f]
        simp only [u] at fin ⊢
        exact fin
      · rw [u] at m5
        simp (disch := first | decide | omega) only [s170, j170, r141 l2 rn2, r140 l1 rn1, r142, hx, hy, hz, xpush_s, if_true, if_false, i12, r135w, hw, r168 R.2.1 W.2.1 hd he hi, q, pk_mul, nI_add, m2, m5]
        simp only [u] at fin ⊢
        exact fin
  · refine Agr.same W (-4) ?_ ?_
    · simp (disch := first | decide | omega) only [s106, j106, c134 l1 l2 cn1 cn2, hx, hy, hz, Bool.and_true, xpush_s, if_true, if_false, i12, cWi, hw]
      refine c85 C.2.1 W.2.1 hi (fun M1 f1 K => ?_)
      have C1 := C.fr (cfr.x f1 (by decide))
      have e10 : M1 10 = M 10 := f1 10 (by omega)
      simp (disch := first | decide | omega) only [s106, j106, xpush_n, xpush_s, c37, e10, m3, m4, c87 K w2 (show xw (S 0) d e < 3 from xwt_lt _ _), q, if_false, i00, if_true]
      exact ⟨trivial, C1⟩
    · simp (disch := first | decide | omega) only [s170, j170, r141 l2 rn2, r140 l1 rn1, r142, hx, hy, hz, xpush_s, if_true, if_false, i12, r135w, hw, r168 R.2.1 W.2.1 hd he hi, q, i00]
      exact ⟨trivial, R⟩
end C23
