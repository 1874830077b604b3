/-! films, counts -/
section C25
variable {M N : xM} {S : xA}
theorem r135v {Q : Option Value → xM → Prop} {x : Int32} {b : Nat} (hb : b < 2 ^ 31) : xW xSR 135 0 [.long x.toInt64, .null, .long (lN 0), .null, .long (nI b).toInt64, .null] [] M Q = Q (some (.int (if xbw x 0 (b + 1) = true then nI 1 else nI 0))) M := by
  rw [nI_l hb]
  exact r135w (by decide) hb
theorem RC.film {n : Nat} {f4 f5 f6 f7 : Nat → Nat} {M' : xM} (C : RC S M) (h1 : M' 27 3 = nI n) (h2 : ∀ j, j < n → M' 28 j = nI (f4 j) ∧ M' 29 j = nI (f5 j) ∧ M' 30 j = nI (f6 j * 100 / f7 j)) (h3 : ∀ a, a < 27 ∨ 30 < a → M' a = M a) : RC (sN (sA (sA (sA (sA S 4 f4) 5 f5) 6 f6) 7 f7) 2 n) M' := by
  obtain ⟨⟨a1, a2⟩, b, ⟨c1, c2⟩, -, ⟨e1, e2, e3⟩, nx, g0, g1, g2, g3⟩ := C
  simp (disch := first | decide | omega) only [RC, sN_s, sN_o, sN_a, sA_s, sA_o]
  refine ⟨⟨by rw [h3 1 (by omega)]; exact a1, by rw [h3 2 (by omega)]; exact a2⟩, b.mono (fun a _ _ => h3 a (by omega)), ⟨by rw [h3 0 (by omega)]; exact c1, by rw [h3 26 (by omega)]; exact c2⟩, ⟨h1, h2⟩, ⟨by rw [h3 0 (by omega)]; exact e1, fun h => (e2 h).mono (fun a _ _ => h3 a (by omega)), fun h => (e3 h).mono (fun a _ _ => h3 a (by omega))⟩, nx, g0, by rw [h3 24 (by omega)]; exact g1, by rw [h3 24 (by omega)]; exact g2, fun i hi => ?_⟩
  have := g3 i hi
  unfold cE xes at this ⊢
  simp (disch := first | decide | omega) only [sN_a, sA_o]
  rw [h3 25 (by omega)]
  exact this
theorem RR.film {n : Nat} {f4 f5 f6 f7 : Nat → Nat} {M' : xM} (R : RR S M) (h1 : M' 0 16 = nI n) (h2 : ∀ j, j < n → M' 11 (4 * j) = nI (f4 j) ∧ M' 11 (4 * j + 1) = nI (f5 j) ∧ M' 11 (4 * j + 2) = nI (f6 j) ∧ M' 11 (4 * j + 3) = nI (f7 j)) (h3 : ∀ a, a ≠ 0 → a ≠ 11 → M' a = M a) (h4 : ∀ j, j ≠ 16 → M' 0 j = M 0 j) : RR (sN (sA (sA (sA (sA S 4 f4) 5 f5) 6 f6) 7 f7) 2 n) M' := by
  obtain ⟨⟨a1, a2⟩, b, ⟨c1, c2⟩, -, ⟨e1, e2, e3⟩, g1, g2⟩ := R
  simp (disch := first | decide | omega) only [RR, sN_s, sN_o, sN_a, sA_s, sA_o]
  refine ⟨⟨by rw [h4 2 (by omega)]; exact a1, by rw [h3 2 (by omega) (by omega)]; exact a2⟩, b.mono (h3 1 (by omega) (by omega)), ⟨by rw [h4 11 (by omega)]; exact c1, by rw [h3 7 (by omega) (by omega)]; exact c2⟩, ⟨h1, h2⟩, ⟨by rw [h4 18 (by omega)]; exact e1, by rw [h3 12 (by omega) (by omega)]; exact e2, by rw [h3 12 (by omega) (by omega)]; exact e3⟩, by rw [h4 10 (by omega)]; exact g1, fun i hi => ?_⟩
  have := g2 i hi
  unfold rE xes at this ⊢
  simp (disch := first | decide | omega) only [sN_a, sA_o]
  rw [h3 6 (by omega) (by omega)]
  exact this
theorem WA.film {n : Nat} {f4 f5 f6 f7 : Nat → Nat} (W : WA S) (h1 : n ≤ 8) (h2 : ∀ j, j < n → f4 j < S 0 1 ∧ f5 j < 2 ∧ f6 j ≤ f7 j ∧ 1 ≤ f7 j ∧ f7 j ≤ 50) : WA (sN (sA (sA (sA (sA S 4 f4) 5 f5) 6 f6) 7 f7) 2 n) := by
  obtain ⟨a, b, c, -, e, g1, g2⟩ := W
  simp (disch := first | decide | omega) only [WA, sN_s, sN_o, sN_a, sA_s, sA_o]
  exact ⟨a, b, c, ⟨h1, h2⟩, e, g1, fun i hi => by
    have := g2 i hi
    unfold xes at this ⊢
    simp (disch := first | decide | omega) only [sN_a, sA_o]
    exact this⟩
theorem A_forget (C : RC S M) (R : RR S N) (W : WA S) : Agr S M N 125 [.ref 0, .null] 198 [.ref 0, .null] := by
  refine ⟨nI (S 2 2), sN (sA (sA (sA (sA S 4 (S 4)) 5 (S 5)) 6 (S 6)) 7 (S 7)) 2 0, W.film (by omega) (fun j hj => by omega), ?_, ?_⟩
  · have m := C.2.2.2.1.1
    simp (disch := first | decide | omega) only [s125, j125, m, s16, j16, xpush_n]
    exact ⟨trivial, C.film (xup_rs _ _ _ _) (fun j hj => by omega) (fun a h1 => xup_other (by omega))⟩
  · have m := R.2.2.2.1.1
    simp (disch := first | decide | omega) only [s198, j198, m]
    exact ⟨trivial, R.film (xup_rs _ _ _ _) (fun j hj => by omega) (fun a h1 h2 => xup_other h1) (fun j hj => xup_r hj)⟩
theorem A_film (C : RC S M) (R : RR S N) (W : WA S) (x y z w : Int32) : Agr S M N 124 [.ref 0, .int x, .int y, .int z, .int w] 197 [.ref 0, .int x, .int y, .int z, .int w] := by
  have h8 := W.2.1.1.2.2.1
  have h5 := W.2.1.1.2.2.2
  obtain ⟨cn0, cn1, cn2⟩ := C.n
  obtain ⟨rn0, rn1, rn2⟩ := R.n
  have l0 : S 0 0 < 2 ^ 31 := by have := W.2.1.1.2.1; omega
  have l1 : S 0 1 < 2 ^ 31 := by omega
  have l2 : S 0 2 < 2 ^ 31 := by omega
  obtain ⟨wl, wt⟩ := W.2.2.2.1
  have mc := C.2.2.2.1.1
  have mr := R.2.2.2.1.1
  cases hx : xok x (S 0 1) <;> cases hy : xok y 2 <;> cases hw : xbw w 1 (50 + 1)
  all_goals try (refine Agr.same W (-1) ?_ ?_ <;> (simp (disch := first | decide | omega) only [s124, j124, c133 l1 cn1, cWi, s197, j197, r140 l1 rn1, r142, r135w, hx, hy, hw, xpush_s, Bool.false_eq_true, if_true, if_false, i12, i00, Bool.and_true, Bool.and_false, Bool.true_and, Bool.false_and]; exact ⟨trivial, by first | exact C | exact R⟩))
  obtain ⟨d, hd, rfl⟩ := xok_nI hx l1
  obtain ⟨e, he, rfl⟩ := xok_nI hy (by decide)
  obtain ⟨n, hn1, hn, rfl⟩ := xbw_nI hw (by decide)
  cases hz : xbw z 0 (n + 1) with
  | false =>
    refine Agr.same W (-1) ?_ ?_
    · simp (disch := first | decide | omega) only [s124, j124, c133 l1 cn1, hx, hy, Bool.and_true, cWi, hw, hz, xpush_s, Bool.false_eq_true, if_false, i00, i12, if_true]
      exact ⟨trivial, C⟩
    · simp (disch := first | decide | omega) only [s197, j197, r140 l1 rn1, hx, r142, hy, r135w, hw, r135v, hz, xpush_s, Bool.false_eq_true, if_false, i00, i12, if_true]
      exact ⟨trivial, R⟩
  | true =>
    obtain ⟨k, -, hk, rfl⟩ := xbw_nI hz (by omega)
    by_cases q : S 2 2 = 8
    · rw [q] at mc mr
      refine Agr.same W (-3) ?_ ?_
      · simp (disch := first | decide | omega) only [s124, j124, c133 l1 cn1, hx, hy, Bool.and_true, cWi, hw, hz, xpush_s, if_false, i12, if_true, mc, nI_lt_f]
        exact ⟨trivial, C⟩
      · simp (disch := first | decide | omega) only [s197, j197, r140 l1 rn1, hx, r142, hy, r135w, hw, r135v, hz, xpush_s, if_false, i12, if_true, mr, nI_eq_t]
        exact ⟨trivial, R⟩
    · refine ⟨nI (S 2 2 + 1), sN (sA (sA (sA (sA S 4 (fun j => if j = S 2 2 then d else S 4 j)) 5 (fun j => if j = S 2 2 then e else S 5 j)) 6 (fun j => if j = S 2 2 then k else S 6 j)) 7 (fun j => if j = S 2 2 then n else S 7 j)) 2 (S 2 2 + 1), W.film (by omega) (fun j hj => ?_), ?_, ?_⟩
      · by_cases u : j = S 2 2
        · simp only [if_pos u]
          omega
        · simp only [if_neg u]
          exact wt j (by omega)
      · simp (disch := first | decide | omega) only [s124, j124, c133 l1 cn1, hx, hy, Bool.and_true, cWi, hw, hz, xpush_s, xpush_n, if_false, i12, if_true, mc, nI_lt_t, pk_mul, pk_div, s17, j17, cS, xup_o, nI_add, xup_rs]
        refine ⟨trivial, C.film (xup_rs _ _ _ _) (fun j hj => ?_) (fun a h1 => by rw [xup_other (by omega), xup_other (by omega), xup_other (by omega), xup_other (by omega)])⟩
        by_cases u : j = S 2 2
        · simp (disch := first | decide | omega) only [u, if_true, xup_o, xup_rs]
          exact ⟨trivial, trivial, trivial⟩
        · simp (disch := first | decide | omega) only [if_neg u, xup_o, xup_r]
          exact C.2.2.2.1.2 j (by omega)
      · simp (disch := first | decide | omega) only [s197, j197, r140 l1 rn1, hx, r142, hy, r135w, hw, r135v, hz, xpush_s, if_false, i12, if_true, mr, nI_eq_f, pk_mul, nI_add, xup_o, xup_rs]
        refine ⟨trivial, R.film (xup_rs _ _ _ _) (fun j hj => ?_) (fun a h1 h2 => by rw [xup_other (by omega), xup_other (by omega), xup_other (by omega), xup_other (by omega), xup_other (by omega)]) (fun j hj => by rw [xup_r hj, xup_o (by decide), xup_o (by decide), xup_o (by decide), xup_o (by decide)])⟩
        by_cases u : j = S 2 2
        · simp (disch := first | decide | omega) only [u, if_true, xup_o, xup_rs, xup_r]
          exact ⟨trivial, trivial, trivial, trivial⟩
        · simp (disch := first | decide | omega) only [if_neg u, xup_o, xup_r]
          exact R.2.2.2.1.2 j (by omega)
theorem A_count (C : RC S M) (R : RR S N) (W : WA S) (x : Int32) : Agr S M N 131 [.ref 0, .int x] 203 [.ref 0, .int x] := by
  have h8 := W.2.1.1.2.2.1
  have h5 := W.2.1.1.2.2.2
  obtain ⟨cn0, cn1, cn2⟩ := C.n
  obtain ⟨rn0, rn1, rn2⟩ := R.n
  have l0 : S 0 0 < 2 ^ 31 := by have := W.2.1.1.2.1; omega
  have l1 : S 0 1 < 2 ^ 31 := by omega
  have l2 : S 0 2 < 2 ^ 31 := by omega
  obtain ⟨nx, g0, g1, g2, g3⟩ := C.2.2.2.2.2
  have a1 := C.1.1
  have a2 := R.1.1
  have b1 := C.2.2.1.1
  have b2 := R.2.2.1.1
  have d1 := C.2.2.2.1.1
  have d2 := R.2.2.2.1.1
  have e1 := C.2.2.2.2.1.1
  have e2 := R.2.2.2.2.1.1
  have f2 := R.2.2.2.2.2.1
  cases hx : xok x 8 with
  | false =>
    have hn : x.toInt < 0 ∨ 7 < x.toInt := by
      have : ¬ (0 ≤ x.toInt ∧ x.toInt < (8 : Nat)) := fun q => by rw [xok_iff.mpr q] at hx; cases hx
      omega
    have ec : ∀ Q, xW xSC 131 1 [.ref 0, .int x] [.int x] M Q = xW xSC 131 106 [.ref 0, .int x] [] M Q := fun Q => xw_s rfl (by simp only [xdo, if_pos hn]; rfl)
    have er : ∀ Q, xW xSR 203 1 [.ref 0, .int x] [.int x] N Q = xW xSR 203 80 [.ref 0, .int x] [] N Q := fun Q => xw_s rfl (by simp only [xdo, if_pos hn]; rfl)
    refine Agr.same W (-1) ?_ ?_
    · simp only [s131, j131, ec]
      exact ⟨trivial, C⟩
    · simp only [s203, j203, er]
      exact ⟨trivial, R⟩
  | true =>
    obtain ⟨k, hk, rfl⟩ := xok_nI hx (by decide)
    rcases (show k = 0 ∨ k = 1 ∨ k = 2 ∨ k = 3 ∨ k = 4 ∨ k = 5 ∨ k = 6 ∨ k = 7 by omega) with rfl | rfl | rfl | rfl | rfl | rfl | rfl | rfl
    · refine Agr.same W (nI (S 0 0)) ?_ ?_
      · simp (disch := first | decide | omega) only [s131, j131, cn0, cn1, cn2, a1, b1, d1, e1, g2]
        exact ⟨trivial, C⟩
      · simp (disch := first | decide | omega) only [s203, j203, rn0, rn1, rn2, a2, b2, d2, e2, f2]
        exact ⟨trivial, R⟩
    · refine Agr.same W (nI (S 0 1)) ?_ ?_
      · simp (disch := first | decide | omega) only [s131, j131, cn0, cn1, cn2, a1, b1, d1, e1, g2]
        exact ⟨trivial, C⟩
      · simp (disch := first | decide | omega) only [s203, j203, rn0, rn1, rn2, a2, b2, d2, e2, f2]
        exact ⟨trivial, R⟩
    · refine Agr.same W (nI (S 0 2)) ?_ ?_
      · simp (disch := first | decide | omega) only [s131, j131, cn0, cn1, cn2, a1, b1, d1, e1, g2]
        exact ⟨trivial, C⟩
      · simp (disch := first | decide | omega) only [s203, j203, rn0, rn1, rn2, a2, b2, d2, e2, f2]
        exact ⟨trivial, R⟩
    · refine Agr.same W (nI (S 2 1)) ?_ ?_
      · simp (disch := first | decide | omega) only [s131, j131, cn0, cn1, cn2, a1, b1, d1, e1, g2]
        exact ⟨trivial, C⟩
      · simp (disch := first | decide | omega) only [s203, j203, rn0, rn1, rn2, a2, b2, d2, e2, f2]
        exact ⟨trivial, R⟩
    · refine Agr.same W (nI (S 2 2)) ?_ ?_
      · simp (disch := first | decide | omega) only [s131, j131, cn0, cn1, cn2, a1, b1, d1, e1, g2]
        exact ⟨trivial, C⟩
      · simp (disch := first | decide | omega) only [s203, j203, rn0, rn1, rn2, a2, b2, d2, e2, f2]
        exact ⟨trivial, R⟩
    · refine Agr.same W (nI (S 2 4)) ?_ ?_
      · simp (disch := first | decide | omega) only [s131, j131, cn0, cn1, cn2, a1, b1, d1, e1, g2]
        exact ⟨trivial, C⟩
      · simp (disch := first | decide | omega) only [s203, j203, rn0, rn1, rn2, a2, b2, d2, e2, f2]
        exact ⟨trivial, R⟩
    · refine Agr.same W (nI (S 2 3)) ?_ ?_
      · simp (disch := first | decide | omega) only [s131, j131, cn0, cn1, cn2, a1, b1, d1, e1, g2]
        exact ⟨trivial, C⟩
      · simp (disch := first | decide | omega) only [s203, j203, rn0, rn1, rn2, a2, b2, d2, e2, f2]
        exact ⟨trivial, R⟩
    · refine Agr.same W (nI (S 2 0)) ?_ ?_
      · simp (disch := first | decide | omega) only [s131, j131, cn0, cn1, cn2, a1, b1, d1, e1, g2]
        exact ⟨trivial, C⟩
      · simp (disch := first | decide | omega) only [s203, j203, rn0, rn1, rn2, a2, b2, d2, e2, f2]
        exact ⟨trivial, R⟩
end C25
