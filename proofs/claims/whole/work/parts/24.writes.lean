/-! calls that write into text, row, films; counts -/
theorem sN_s (S : xA) (i v : Nat) : sN S i v 2 i = v := by simp [sN, sA]
theorem sN_o {S : xA} {i v j : Nat} (h : j ≠ i) : sN S i v 2 j = S 2 j := by simp [sN, sA, h]
theorem sN_a {S : xA} {i v a : Nat} (h : a ≠ 2) : sN S i v a = S a := by simp [sN, sA, h]
theorem sA_s (S : xA) (a : Nat) (f : Nat → Nat) : sA S a f a = f := by simp [sA]
theorem sA_o {S : xA} {a b : Nat} {f : Nat → Nat} (h : b ≠ a) : sA S a f b = S b := by simp [sA, h]
theorem char_nI {c : Nat} (h : c < 65536) : ((nI c).toUInt32 % 65536).toInt32 = nI c := by
  rw [pk_char, pk_tn (by omega), Nat.mod_eq_of_lt h]
theorem nar_nI {c : Nat} (h : c < 65536) : vp_nar .char (nI c) = nI c := by
  unfold vp_nar
  rw [(pk_charN h).1]
section C24
variable {M N : xM} {S : xA}
theorem RC.text {n : Nat} {f : Nat → Nat} {M' : xM} (C : RC S M) (h1 : M' 1 4 = nI n) (h2 : ∀ j, j < n → M' 2 j = nI (f j)) (h3 : ∀ a, a ≠ 1 → a ≠ 2 → M' a = M a) : RC (sN (sA S 1 f) 0 n) M' := by
  obtain ⟨-, b, ⟨c1, c2⟩, ⟨d1, d2⟩, ⟨e1, e2, e3⟩, nx, g0, g1, g2, g3⟩ := C
  simp (disch := first | decide | omega) only [RC, sN_s, sN_o, sN_a, sA_s, sA_o]
  refine ⟨⟨h1, h2⟩, b.mono (fun a _ _ => h3 a (by omega) (by omega)), ⟨by rw [h3 0 (by omega) (by omega)]; exact c1, by rw [h3 26 (by omega) (by omega)]; exact c2⟩, ⟨by rw [h3 27 (by omega) (by omega)]; exact d1, by rw [h3 28 (by omega) (by omega), h3 29 (by omega) (by omega), h3 30 (by omega) (by omega)]; exact d2⟩, ⟨by rw [h3 0 (by omega) (by omega)]; exact e1, fun h => (e2 h).mono (fun a _ _ => h3 a (by omega) (by omega)), fun h => (e3 h).mono (fun a _ _ => h3 a (by omega) (by omega))⟩, nx, g0, by rw [h3 24 (by omega) (by omega)]; exact g1, by rw [h3 24 (by omega) (by omega)]; exact g2, fun i hi => ?_⟩
  have := g3 i hi
  unfold cE xes at this ⊢
  simp (disch := first | decide | omega) only [sN_a, sA_o]
  rw [h3 25 (by omega) (by omega)]
  exact this
theorem RC.row {n : Nat} {f : Nat → Nat} {M' : xM} (C : RC S M) (h1 : M' 0 7 = nI n) (h2 : ∀ j, j < n → M' 26 j = nI (f j)) (h3 : ∀ a, a ≠ 0 → a ≠ 26 → M' a = M a) (h4 : ∀ j, j ≠ 7 → M' 0 j = M 0 j) : RC (sN (sA S 3 f) 1 n) M' := by
  obtain ⟨⟨a1, a2⟩, b, -, ⟨d1, d2⟩, ⟨e1, e2, e3⟩, nx, g0, g1, g2, g3⟩ := C
  simp (disch := first | decide | omega) only [RC, sN_s, sN_o, sN_a, sA_s, sA_o]
  refine ⟨⟨by rw [h3 1 (by omega) (by omega)]; exact a1, by rw [h3 2 (by omega) (by omega)]; exact a2⟩, b.mono (fun a _ _ => h3 a (by omega) (by omega)), ⟨h1, h2⟩, ⟨by rw [h3 27 (by omega) (by omega)]; exact d1, by rw [h3 28 (by omega) (by omega), h3 29 (by omega) (by omega), h3 30 (by omega) (by omega)]; exact d2⟩, ⟨by rw [h4 4 (by omega)]; exact e1, fun h => (e2 h).mono (fun a _ _ => h3 a (by omega) (by omega)), fun h => (e3 h).mono (fun a _ _ => h3 a (by omega) (by omega))⟩, nx, g0, by rw [h3 24 (by omega) (by omega)]; exact g1, by rw [h3 24 (by omega) (by omega)]; exact g2, fun i hi => ?_⟩
  have := g3 i hi
  unfold cE xes at this ⊢
  simp (disch := first | decide | omega) only [sN_a, sA_o]
  rw [h3 25 (by omega) (by omega)]
  exact this
theorem RR.text {n : Nat} {f : Nat → Nat} {M' : xM} (R : RR S M) (h1 : M' 0 2 = nI n) (h2 : ∀ j, j < n → M' 2 j = nI (f j)) (h3 : ∀ a, a ≠ 0 → a ≠ 2 → M' a = M a) (h4 : ∀ j, j ≠ 2 → M' 0 j = M 0 j) : RR (sN (sA S 1 f) 0 n) M' := by
  obtain ⟨-, b, ⟨c1, c2⟩, ⟨d1, d2⟩, ⟨e1, e2, e3⟩, g1, g2⟩ := R
  simp (disch := first | decide | omega) only [RR, sN_s, sN_o, sN_a, sA_s, sA_o]
  refine ⟨⟨h1, h2⟩, b.mono (h3 1 (by omega) (by omega)), ⟨by rw [h4 11 (by omega)]; exact c1, by rw [h3 7 (by omega) (by omega)]; exact c2⟩, ⟨by rw [h4 16 (by omega)]; exact d1, by rw [h3 11 (by omega) (by omega)]; exact d2⟩, ⟨by rw [h4 18 (by omega)]; exact e1, by rw [h3 12 (by omega) (by omega)]; exact e2, by rw [h3 12 (by omega) (by omega)]; exact e3⟩, by rw [h4 10 (by omega)]; exact g1, fun i hi => ?_⟩
  have := g2 i hi
  unfold rE xes at this ⊢
  simp (disch := first | decide | omega) only [sN_a, sA_o]
  rw [h3 6 (by omega) (by omega)]
  exact this
theorem RR.row {n : Nat} {f : Nat → Nat} {M' : xM} (R : RR S M) (h1 : M' 0 11 = nI n) (h2 : ∀ j, j < n → M' 7 j = nI (f j)) (h3 : ∀ a, a ≠ 0 → a ≠ 7 → M' a = M a) (h4 : ∀ j, j ≠ 11 → M' 0 j = M 0 j) : RR (sN (sA S 3 f) 1 n) M' := by
  obtain ⟨⟨a1, a2⟩, b, -, ⟨d1, d2⟩, ⟨e1, e2, e3⟩, g1, g2⟩ := R
  simp (disch := first | decide | omega) only [RR, sN_s, sN_o, sN_a, sA_s, sA_o]
  refine ⟨⟨by rw [h4 2 (by omega)]; exact a1, by rw [h3 2 (by omega) (by omega)]; exact a2⟩, b.mono (h3 1 (by omega) (by omega)), ⟨h1, h2⟩, ⟨by rw [h4 16 (by omega)]; exact d1, by rw [h3 11 (by omega) (by omega)]; exact d2⟩, ⟨by rw [h4 18 (by omega)]; exact e1, by rw [h3 12 (by omega) (by omega)]; exact e2, by rw [h3 12 (by omega) (by omega)]; exact e3⟩, by rw [h4 10 (by omega)]; exact g1, fun i hi => ?_⟩
  have := g2 i hi
  unfold rE xes at this ⊢
  simp (disch := first | decide | omega) only [sN_a, sA_o]
  rw [h3 6 (by omega) (by omega)]
  exact this
theorem WA.text {n : Nat} {f : Nat → Nat} (W : WA S) (h1 : n ≤ 200) (h2 : ∀ j, j < n → 32 ≤ f j ∧ f j ≤ 126) : WA (sN (sA S 1 f) 0 n) := by
  obtain ⟨-, b, c, d, e, g1, g2⟩ := W
  simp (disch := first | decide | omega) only [WA, sN_s, sN_o, sN_a, sA_s, sA_o]
  exact ⟨⟨h1, h2⟩, b, c, d, e, g1, fun i hi => by
    have := g2 i hi
    unfold xes at this ⊢
    simp (disch := first | decide | omega) only [sN_a, sA_o]
    exact this⟩
theorem WA.row {n : Nat} {f : Nat → Nat} (W : WA S) (h1 : n ≤ 12) (h2 : ∀ j, j < n → f j < S 0 1) : WA (sN (sA S 3 f) 1 n) := by
  obtain ⟨a, b, -, d, e, g1, g2⟩ := W
  simp (disch := first | decide | omega) only [WA, sN_s, sN_o, sN_a, sA_s, sA_o]
  exact ⟨a, b, ⟨h1, h2⟩, d, e, g1, fun i hi => by
    have := g2 i hi
    unfold xes at this ⊢
    simp (disch := first | decide | omega) only [sN_a, sA_o]
    exact this⟩
theorem A_wipe (C : RC S M) (R : RR S N) (W : WA S) : Agr S M N 98 [.ref 0, .null] 144 [.ref 0, .null] := by
  refine ⟨nI (S 2 0), sN (sA S 1 (S 1)) 0 0, W.text (by omega) (fun j hj => by omega), ?_, ?_⟩
  · have m := C.1.1
    simp (disch := first | decide | omega) only [s98, j98, m, s70, j70, xpush_n]
    exact ⟨trivial, C.text (xup_rs _ _ _ _) (fun j hj => by omega) (fun a h1 h2 => xup_other h1)⟩
  · have m := R.1.1
    simp (disch := first | decide | omega) only [s144, j144, m]
    exact ⟨trivial, R.text (xup_rs _ _ _ _) (fun j hj => by omega) (fun a h1 h2 => xup_other h1) (fun j hj => xup_r hj)⟩
theorem A_noRow (C : RC S M) (R : RR S N) (W : WA S) : Agr S M N 112 [.ref 0, .null] 179 [.ref 0, .null] := by
  refine ⟨nI (S 2 1), sN (sA S 3 (S 3)) 1 0, W.row (by omega) (fun j hj => by omega), ?_, ?_⟩
  · have m := C.2.2.1.1
    simp (disch := first | decide | omega) only [s112, j112, m]
    exact ⟨trivial, C.row (xup_rs _ _ _ _) (fun j hj => by omega) (fun a h1 h2 => xup_other h1) (fun j hj => xup_r hj)⟩
  · have m := R.2.2.1.1
    simp (disch := first | decide | omega) only [s179, j179, m]
    exact ⟨trivial, R.row (xup_rs _ _ _ _) (fun j hj => by omega) (fun a h1 h2 => xup_other h1) (fun j hj => xup_r hj)⟩
theorem A_write (C : RC S M) (R : RR S N) (W : WA S) (x : Int32) : Agr S M N 97 [.ref 0, .int x] 143 [.ref 0, .int x] := by
  obtain ⟨wl, wt⟩ := W.1
  have mc := C.1.1
  have mr := R.1.1
  cases hx : xbw x 32 (126 + 1) with
  | false =>
    refine Agr.same W (-1) ?_ ?_
    · simp (disch := first | decide | omega) only [s97, j97, cWi, hx, xpush_s, Bool.false_eq_true, if_false, i00, if_true]
      exact ⟨trivial, C⟩
    · simp (disch := first | decide | omega) only [s143, j143, r135w, hx, xpush_s, Bool.false_eq_true, if_false, i00, if_true]
      exact ⟨trivial, R⟩
  | true =>
    obtain ⟨c, h32, h127, rfl⟩ := xbw_nI hx (by decide)
    by_cases q : S 2 0 = 200
    · rw [q] at mc mr
      refine Agr.same W (-3) ?_ ?_
      · simp (disch := first | decide | omega) only [s97, j97, cWi, hx, xpush_s, if_true, i12, if_false, mc, nI_lt_f]
        exact ⟨trivial, C⟩
      · simp (disch := first | decide | omega) only [s143, j143, r135w, hx, xpush_s, if_true, i12, if_false, mr, nI_eq_t]
        exact ⟨trivial, R⟩
    · refine ⟨nI (S 2 0 + 1), sN (sA S 1 (fun j => if j = S 2 0 then c else S 1 j)) 0 (S 2 0 + 1), W.text (by omega) (fun j hj => ?_), ?_, ?_⟩
      · by_cases z : j = S 2 0
        · simp only [if_pos z]
          omega
        · simp only [if_neg z]
          exact wt j (by omega)
      · simp (disch := first | decide | omega) only [s97, j97, cWi, hx, xpush_s, xpush_n, if_true, i12, if_false, mc, nI_lt_t, char_nI, s69, j69, nI_nneg, nar_nI, xup_o, nI_add, xup_rs]
        refine ⟨trivial, C.text (xup_rs _ _ _ _) (fun j hj => ?_) (fun a h1 h2 => by rw [xup_other h1, xup_other h2])⟩
        rw [xup_o (by decide)]
        by_cases z : j = S 2 0
        · simp only [if_pos z, z]
          exact xup_rs _ _ _ _
        · simp only [if_neg z]
          rw [xup_r z]
          exact C.1.2 j (by omega)
      · simp (disch := first | decide | omega) only [s143, j143, r135w, hx, xpush_s, if_true, i12, if_false, mr, nI_eq_f, xup_o, nI_add, xup_rs]
        refine ⟨trivial, R.text (xup_rs _ _ _ _) (fun j hj => ?_) (fun a h1 h2 => by rw [xup_other h1, xup_other h2]) (fun j hj => by rw [xup_r hj, xup_o (by decide)])⟩
        rw [xup_o (by decide)]
        by_cases z : j = S 2 0
        · simp only [if_pos z, z]
          exact xup_rs _ _ _ _
        · simp only [if_neg z]
          rw [xup_r z]
          exact R.1.2 j (by omega)
theorem A_tell (C : RC S M) (R : RR S N) (W : WA S) (x : Int32) : Agr S M N 111 [.ref 0, .int x] 178 [.ref 0, .int x] := by
  have h8 := W.2.1.1.2.2.1
  have h5 := W.2.1.1.2.2.2
  obtain ⟨cn0, cn1, cn2⟩ := C.n
  obtain ⟨rn0, rn1, rn2⟩ := R.n
  have l0 : S 0 0 < 2 ^ 31 := by have := W.2.1.1.2.1; omega
  have l1 : S 0 1 < 2 ^ 31 := by omega
  have l2 : S 0 2 < 2 ^ 31 := by omega
  obtain ⟨wl, wt⟩ := W.2.2.1
  have mc := C.2.2.1.1
  have mr := R.2.2.1.1
  cases hx : xok x (S 0 1) with
  | false =>
    refine Agr.same W (-1) ?_ ?_
    · simp (disch := first | decide | omega) only [s111, j111, c24r l1 cn1, hx, xpush_s, Bool.false_eq_true, if_false, i00, if_true]
      exact ⟨trivial, C⟩
    · simp (disch := first | decide | omega) only [s178, j178, r140 l1 rn1, hx, xpush_s, Bool.false_eq_true, if_false, i00, if_true]
      exact ⟨trivial, R⟩
  | true =>
    obtain ⟨d, hd, rfl⟩ := xok_nI hx l1
    by_cases q : S 2 1 = 12
    · rw [q] at mc mr
      refine Agr.same W (-3) ?_ ?_
      · simp (disch := first | decide | omega) only [s111, j111, c24r l1 cn1, hx, xpush_s, if_true, i12, if_false, mc, nI_lt_f]
        exact ⟨trivial, C⟩
      · simp (disch := first | decide | omega) only [s178, j178, r140 l1 rn1, hx, xpush_s, if_true, i12, if_false, mr, nI_eq_t]
        exact ⟨trivial, R⟩
    · refine ⟨nI (S 2 1 + 1), sN (sA S 3 (fun j => if j = S 2 1 then d else S 3 j)) 1 (S 2 1 + 1), W.row (by omega) (fun j hj => ?_), ?_, ?_⟩
      · by_cases z : j = S 2 1
        · simp only [if_pos z]
          exact hd
        · simp only [if_neg z]
          exact wt j (by omega)
      · simp (disch := first | decide | omega) only [s111, j111, c24r l1 cn1, hx, xpush_s, xpush_n, if_true, i12, if_false, mc, nI_lt_t, cS, xup_o, nI_add, xup_rs]
        refine ⟨trivial, C.row (xup_rs _ _ _ _) (fun j hj => ?_) (fun a h1 h2 => by rw [xup_other h1, xup_other h2]) (fun j hj => by rw [xup_r hj, xup_o (by decide)])⟩
        rw [xup_o (by decide)]
        by_cases z : j = S 2 1
        · simp only [if_pos z, z]
          exact xup_rs _ _ _ _
        · simp only [if_neg z]
          rw [xup_r z]
          exact C.2.2.1.2 j (by omega)
      · simp (disch := first | decide | omega) only [s178, j178, r140 l1 rn1, hx, xpush_s, if_true, i12, if_false, mr, nI_eq_f, xup_o, nI_add, xup_rs]
        refine ⟨trivial, R.row (xup_rs _ _ _ _) (fun j hj => ?_) (fun a h1 h2 => by rw [xup_other h1, xup_other h2]) (fun j hj => by rw [xup_r hj, xup_o (by decide)])⟩
        rw [xup_o (by decide)]
        by_cases z : j = S 2 1
        · simp only [if_pos z, z]
          exact xup_rs _ _ _ _
        · simp only [if_neg z]
          rw [xup_r z]
          exact R.2.2.1.2 j (by omega)
end C24
