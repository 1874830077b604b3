/-! kept, taken back -/
section C30
variable {M N : xM} {Q : Option Value → xM → Prop} {S S1 : xA} {h : Nat → Nat}
theorem rF_shift {c o : Nat} {M M' : xM} (R : rH 1 h M) (e : ∀ j, j < 156 → M' c (o + j) = M 1 j) : rF (fun j => M' c (o + j)) h := by
  constructor
  · intro j a b
    show M' c (o + j) = _
    rw [e j a]
    exact R.1 j a b
  · intro j a
    show M' c (o + j) = _
    rw [e j (by unfold rla at a; omega)]
    exact R.2 j a
theorem rF_at {c o : Nat} {M M' : xM} (R : rF (fun j => M c (o + j)) h) (e : ∀ j, j < 156 → M' 1 j = M c (o + j)) : rH 1 h M' := by
  constructor
  · intro j a b
    rw [e j a]
    exact R.1 j a b
  · intro j a
    rw [e j (by unfold rla at a; omega)]
    exact R.2 j a
/-- the reference's copier -/
theorem r201 {κ : Nat} (hκ : κ < 2) (h18 : N 0 18 = nI κ) (hQ : ∀ N', (∀ a, a ≠ 12 → N' a = N a) → (∀ j, j < 156 → N' 12 (156 * κ + j) = N 1 j) → (∀ j, j < 156 * κ → N' 12 j = N 12 j) → Q (some (.int (xup N' 0 18 (N' 0 18 + nI 1) 0 18))) (xup N' 0 18 (N' 0 18 + nI 1))) : xW xSR 201 13 [.ref 0, .int (nI 0)] [] N Q := by
  have key : ∀ (n k : Nat) (N1 : xM), k + n = 156 → (∀ a, a ≠ 12 → N1 a = N a) → (∀ j, j < k → N1 12 (156 * κ + j) = N 1 j) → (∀ j, j < 156 * κ → N1 12 j = N 12 j) → xW xSR 201 13 [.ref 0, .int (nI k)] [] N1 Q := by
    intro n
    induction n with
    | zero =>
      intro k N1 hk f1 f2 f3
      have hk : k = 156 := by omega
      subst hk
      rw [h201_13]
      simp (disch := first | decide | omega) only [s201, j201, nI_lt_f, if_false]
      exact hQ N1 f1 f2 f3
    | succ n ih =>
      intro k N1 hk f1 f2 f3
      rw [h201_13]
      have z0 : N1 0 18 = nI κ := by rw [f1 0 (by decide)]; exact h18
      have z1 : N1 1 = N 1 := f1 1 (by decide)
      simp (disch := first | decide | omega) only [s201, j201, nI_lt_t, if_true, z0, pk_mul, nI_add, z1]
      refine ih (k + 1) _ (by omega) (fun a q => by rw [xup_other q]; exact f1 a q) (fun j hj => ?_) (fun j hj => ?_)
      · by_cases q : j = k
        · rw [q, xup_rs]
        · rw [xup_r (by omega)]; exact f2 j (by omega)
      · rw [xup_r (by omega)]; exact f3 j hj
  exact key 156 0 N rfl (fun _ _ => rfl) (fun j hj => absurd hj (by omega)) (fun _ _ => rfl)
theorem r202 {κ : Nat} (hκ : κ < 2) (h18 : N 0 18 = nI κ) (hQ : ∀ N', (∀ a, a ≠ 1 → N' a = N a) → (∀ j, j < 156 → N' 1 j = N 12 (156 * κ + j)) → Q (some (.int (xup N' 0 10 (nI 0) 0 18))) (xup N' 0 10 (nI 0))) : xW xSR 202 22 [.ref 0, .int (nI 0)] [] N Q := by
  have key : ∀ (n k : Nat) (N1 : xM), k + n = 156 → (∀ a, a ≠ 1 → N1 a = N a) → (∀ j, j < k → N1 1 j = N 12 (156 * κ + j)) → xW xSR 202 22 [.ref 0, .int (nI k)] [] N1 Q := by
    intro n
    induction n with
    | zero =>
      intro k N1 hk f1 f2
      have hk : k = 156 := by omega
      subst hk
      rw [h202_22]
      simp (disch := first | decide | omega) only [s202, j202, nI_lt_f, if_false]
      exact hQ N1 f1 f2
    | succ n ih =>
      intro k N1 hk f1 f2
      rw [h202_22]
      have z0 : N1 0 18 = nI κ := by rw [f1 0 (by decide)]; exact h18
      have z1 : N1 12 = N 12 := f1 12 (by decide)
      simp (disch := first | decide | omega) only [s202, j202, nI_lt_t, if_true, z0, pk_mul, nI_add, z1]
      refine ih (k + 1) _ (by omega) (fun a q => by rw [xup_other q]; exact f1 a q) (fun j hj => ?_)
      by_cases q : j = k
      · rw [q, xup_rs]
      · rw [xup_r q]; exact f2 j (by omega)
  exact key 156 0 N rfl (fun _ _ => rfl) (fun j hj => absurd hj (by omega))
theorem RC.kept {κ : Nat} {M' : xM} {h8 h9 : Nat → Nat} (C : RC S M) (e1 : M' 0 4 = nI κ) (e2 : M' 0 7 = M 0 7) (q1 : 1 ≤ κ → cH 14 h8 M') (q2 : 2 ≤ κ → cH 19 h9 M') (f : ∀ a, a ≠ 0 → (a < 14 ∨ 23 < a) → M' a = M a) : RC (sN (sA (sA S 8 h8) 9 h9) 3 κ) M' := by
  obtain ⟨⟨a1, a2⟩, b, ⟨c1, c2⟩, ⟨d1, d2⟩, ⟨x1, x2, x3⟩, nx, g0, g1, g2, g3⟩ := C
  simp (disch := first | decide | omega) only [RC, sN_s, sN_o, sN_a, sA_s, sA_o]
  refine ⟨⟨by rw [f 1 (by omega) (by omega)]; exact a1, by rw [f 2 (by omega) (by omega)]; exact a2⟩, b.mono (fun a q1 q2 => f a (by omega) (by omega)), ⟨by rw [e2]; exact c1, by rw [f 26 (by omega) (by omega)]; exact c2⟩, ⟨by rw [f 27 (by omega) (by omega)]; exact d1, by rw [f 28 (by omega) (by omega), f 29 (by omega) (by omega), f 30 (by omega) (by omega)]; exact d2⟩, ⟨e1, q1, q2⟩, nx, g0, by rw [f 24 (by omega) (by omega)]; exact g1, by rw [f 24 (by omega) (by omega)]; exact g2, fun i hi => ?_⟩
  have := g3 i hi
  unfold cE xes at this ⊢
  simp (disch := first | decide | omega) only [sN_a, sA_o]
  rw [f 25 (by omega) (by omega)]
  exact this
theorem RR.kept {κ : Nat} {M' : xM} {h8 h9 : Nat → Nat} (R : RR S M) (e1 : M' 0 18 = nI κ) (e2 : ∀ j, j ≠ 18 → M' 0 j = M 0 j) (q1 : 1 ≤ κ → rF (fun j => M' 12 j) h8) (q2 : 2 ≤ κ → rF (fun j => M' 12 (156 + j)) h9) (f : ∀ a, a ≠ 0 → a ≠ 12 → M' a = M a) : RR (sN (sA (sA S 8 h8) 9 h9) 3 κ) M' := by
  obtain ⟨⟨a1, a2⟩, b, ⟨c1, c2⟩, ⟨d1, d2⟩, ⟨x1, x2, x3⟩, g1, g2⟩ := R
  simp (disch := first | decide | omega) only [RR, sN_s, sN_o, sN_a, sA_s, sA_o]
  refine ⟨⟨by rw [e2 2 (by omega)]; exact a1, by rw [f 2 (by omega) (by omega)]; exact a2⟩, b.mono (f 1 (by omega) (by omega)), ⟨by rw [e2 11 (by omega)]; exact c1, by rw [f 7 (by omega) (by omega)]; exact c2⟩, ⟨by rw [e2 16 (by omega)]; exact d1, by rw [f 11 (by omega) (by omega)]; exact d2⟩, ⟨e1, q1, q2⟩, by rw [e2 10 (by omega)]; exact g1, fun i hi => ?_⟩
  have := g2 i hi
  unfold rE xes at this ⊢
  simp (disch := first | decide | omega) only [sN_a, sA_o]
  rw [f 6 (by omega) (by omega)]
  exact this
theorem WA.kept {κ : Nat} {h8 h9 : Nat → Nat} (W : WA S) (hκ : κ ≤ 2) (q1 : 1 ≤ κ → xWF h8 ∧ xsm (S 0) h8) (q2 : 2 ≤ κ → xWF h9 ∧ xsm (S 0) h9) : WA (sN (sA (sA S 8 h8) 9 h9) 3 κ) := by
  obtain ⟨a, b, c, d, -, u1, u2⟩ := W
  simp (disch := first | decide | omega) only [WA, sN_s, sN_o, sN_a, sA_s, sA_o]
  refine ⟨a, b, c, d, ⟨hκ, q1, q2⟩, u1, fun i hi => ?_⟩
  have := u2 i hi
  unfold xes at this ⊢
  simp (disch := first | decide | omega) only [sN_a, sA_o]
  exact this
theorem A_keep (C : RC S M) (R : RR S N) (W : WA S) : Agr S M N 129 [.ref 0, .null] 201 [.ref 0, .null] := by
  obtain ⟨x1, x2, x3⟩ := C.2.2.2.2.1
  obtain ⟨y1, y2, y3⟩ := R.2.2.2.2.1
  obtain ⟨w1, w2, w3⟩ := W.2.2.2.2.1
  have h5 := W.2.1.1.2.2.2
  have sm : xsm (S 0) (S 0) := ⟨rfl, rfl, rfl⟩
  rcases (show S 2 3 = 0 ∨ S 2 3 = 1 ∨ S 2 3 = 2 by omega) with q | q | q
  · rw [q] at x1 y1
    refine ⟨nI 1, sN (sA (sA S 8 (S 0)) 9 (S 9)) 3 1, W.kept (by omega) (fun _ => ⟨W.2.1, sm⟩) (fun h => absurd h (by omega)), ?_, ?_⟩
    · simp (disch := first | decide | omega) only [s129, x1, nI_lt_t, if_true, j129]
      refine c22_14_9 (fun M1 T => ?_)
      have z : M1 0 4 = nI 0 := by rw [T.1 0 (by omega)]; exact x1
      simp (disch := first | decide | omega) only [s129, xpush_n, z, nI_add, xup_rs]
      refine ⟨trivial, C.kept (xup_rs _ _ _ _) (by rw [xup_r (by decide), T.1 0 (by omega)]) (fun _ => ?_) (fun h => absurd h (by omega)) (fun a q1 q2 => by rw [xup_other q1]; exact T.1 a (by omega))⟩
      exact (T.cH C.2.1 h5).mono (fun a q1 q2 => xup_other (by omega))
    · simp (disch := first | decide | omega) only [s201, j201, y1, nI_eq_f, if_false]
      refine r201 (κ := 0) (by omega) y1 (fun N1 f1 f2 f3 => ?_)
      have z : N1 0 18 = nI 0 := by rw [f1 0 (by decide)]; exact y1
      simp (disch := first | decide | omega) only [z, nI_add, xup_rs]
      refine ⟨trivial, R.kept (xup_rs _ _ _ _) (fun j hj => by rw [xup_r hj, f1 0 (by decide)]) (fun _ => ?_) (fun h => absurd h (by omega)) (fun a q1 q2 => by rw [xup_other q1]; exact f1 a q2)⟩
      have := rF_shift (c := 12) (o := 0) (M' := xup N1 0 18 (nI (0 + 1))) R.2.1 (fun j hj => by rw [xup_other (by decide)]; exact f2 j hj)
      simpa only [Nat.zero_add] using this
  · rw [q] at x1 y1
    refine ⟨nI 2, sN (sA (sA S 8 (S 8)) 9 (S 0)) 3 2, W.kept (by omega) (fun _ => w2 (by omega)) (fun _ => ⟨W.2.1, sm⟩), ?_, ?_⟩
    · simp (disch := first | decide | omega) only [s129, x1, nI_lt_t, nI_eq_f, if_true, if_false, j129]
      refine c22_19_9 (fun M1 T => ?_)
      have z : M1 0 4 = nI 1 := by rw [T.1 0 (by omega)]; exact x1
      simp (disch := first | decide | omega) only [s129, xpush_n, z, nI_add, xup_rs]
      refine ⟨trivial, C.kept (xup_rs _ _ _ _) (by rw [xup_r (by decide), T.1 0 (by omega)]) (fun _ => ?_) (fun _ => ?_) (fun a q1 q2 => by rw [xup_other q1]; exact T.1 a (by omega))⟩
      · exact (x2 (by omega)).mono (fun a q1 q2 => by rw [xup_other (by omega)]; exact T.1 a (by omega))
      · exact (T.cH C.2.1 h5).mono (fun a q1 q2 => xup_other (by omega))
    · simp (disch := first | decide | omega) only [s201, j201, y1, nI_eq_f, if_false]
      refine r201 (κ := 1) (by omega) y1 (fun N1 f1 f2 f3 => ?_)
      have z : N1 0 18 = nI 1 := by rw [f1 0 (by decide)]; exact y1
      simp (disch := first | decide | omega) only [z, nI_add, xup_rs]
      refine ⟨trivial, R.kept (xup_rs _ _ _ _) (fun j hj => by rw [xup_r hj, f1 0 (by decide)]) (fun _ => ?_) (fun _ => ?_) (fun a q1 q2 => by rw [xup_other q1]; exact f1 a q2)⟩
      · have y2 := y2 (by omega)
        constructor
        · intro j a b
          show (xup N1 0 18 _) 12 j = _
          rw [xup_other (by decide), f3 j (by omega)]
          exact y2.1 j a b
        · intro j a
          show (xup N1 0 18 _) 12 j = _
          rw [xup_other (by decide), f3 j (by unfold rla at a; omega)]
          exact y2.2 j a
      · exact rF_shift (c := 12) (o := 156) R.2.1 (fun j hj => by rw [xup_other (by decide)]; exact f2 j hj)
  · rw [q] at x1 y1
    refine Agr.same W (-3) ?_ ?_
    · simp (disch := first | decide | omega) only [s129, x1, nI_lt_f, if_false]
      exact ⟨trivial, C⟩
    · simp (disch := first | decide | omega) only [s201, j201, y1, if_true]
      exact ⟨trivial, R⟩
theorem A_back (C : RC S M) (R : RR S N) (W : WA S) : Agr S M N 130 [.ref 0] 202 [.ref 0, .null] := by
  obtain ⟨x1, x2, x3⟩ := C.2.2.2.2.1
  obtain ⟨y1, y2, y3⟩ := R.2.2.2.2.1
  obtain ⟨w1, w2, w3⟩ := W.2.2.2.2.1
  obtain ⟨nx, hn, g1, -, -⟩ := C.2.2.2.2.2
  have fin : ∀ (κ : Nat) (h' : Nat → Nat), (S 2 3 = κ + 1) → (h' = if κ = 0 then S 8 else S 9) → Agr S M N 130 [.ref 0] 202 [.ref 0, .null] := by
    intro κ h' q hh
    have W1 := W.kept (κ := κ) (h8 := S 8) (h9 := S 9) (by omega) (fun _ => w2 (by omega)) (fun _ => w3 (by omega))
    have s0 : sN (sA (sA S 8 (S 8)) 9 (S 9)) 3 κ 0 = S 0 := by simp (disch := first | decide | omega) only [sN_a, sA_o]
    have hw : xWF h' ∧ xsm (S 0) h' := by
      rw [hh]
      split
      · exact w2 (by omega)
      · exact w3 (by omega)
    refine ⟨nI κ, sA (sN (sN (sA (sA S 8 (S 8)) 9 (S 9)) 3 κ) 4 0) 0 h', W1.new (fun a h1 h2 => sN_a h1) (fun j => sN_o) hw.1 (by rw [s0]; exact hw.2) (by rw [sN_s]; omega) (fun i hi => by rw [sN_s] at hi; omega), ?_, ?_⟩
    · have C1 := C.kept (κ := κ) (M' := xup M 0 4 (nI κ)) (h8 := S 8) (h9 := S 9) (xup_rs _ _ _ _) (xup_r (by decide)) (fun h => (x2 (by omega)).mono (fun a q1 q2 => xup_other (by omega))) (fun h => (x3 (by omega)).mono (fun a q1 q2 => xup_other (by omega))) (fun a q _ => xup_other q)
      have last : ∀ M1, xfr 9 13 (xup M 0 4 (nI κ)) M1 → cH 9 h' M1 → RC (sA (sN (sN (sA (sA S 8 (S 8)) 9 (S 9)) 3 κ) 4 0) 0 h') (xup M1 24 2 (nI 0)) := by
        intro M1 f H
        refine C1.new (fun a h1 h2 => sN_a h1) (fun j => sN_o) (H.mono (fun a q1 q2 => xup_other (by omega))) ⟨nx, hn, by rw [xup_r (by decide), f 24 (by omega), xup_o (by decide)]; exact g1, by rw [xup_rs, sN_s], fun i hi => by rw [sN_s] at hi; omega⟩ (fun a z => by rw [xup_other (by omega)]; exact f a (by omega)) (by rw [xup_o (by decide), f 1 (by omega)])
      rw [q] at x1
      have u1 : κ + 1 - 1 = κ := rfl
      rcases (show κ = 0 ∨ κ = 1 by omega) with z | z
      · subst z
        simp (disch := first | decide | omega) only [s130, x1, nI_lt_f, if_false, pk_sub, u1, xup_rs, if_true, j130]
        refine c22_9_14 (fun M1 T => ?_)
        have z : M1 0 4 = nI 0 := by rw [T.1 0 (by omega), xup_rs]
        simp (disch := first | decide | omega) only [s130, xpush_n, s5, j5, xup_o, z]
        refine ⟨trivial, last M1 T.1 ?_⟩
        rw [hh, if_pos rfl]
        exact T.cH ((x2 (by omega)).mono (fun a q1 q2 => xup_other (by omega))) (w2 (by omega)).1.1.2.2.2
      · subst z
        simp (disch := first | decide | omega) only [s130, x1, nI_lt_f, nI_eq_f, if_false, pk_sub, u1, xup_rs, if_true, j130]
        refine c22_9_19 (fun M1 T => ?_)
        have z : M1 0 4 = nI 1 := by rw [T.1 0 (by omega), xup_rs]
        simp (disch := first | decide | omega) only [s130, xpush_n, s5, j5, xup_o, z]
        refine ⟨trivial, last M1 T.1 ?_⟩
        rw [hh, if_neg (by omega)]
        exact T.cH ((x3 (by omega)).mono (fun a q1 q2 => xup_other (by omega))) (w3 (by omega)).1.1.2.2.2
    · have o12 : ∀ x, (xup N 0 18 x) 12 = N 12 := fun x => xup_other (by decide)
      have R1 := R.kept (κ := κ) (M' := xup N 0 18 (nI κ)) (h8 := S 8) (h9 := S 9) (xup_rs _ _ _ _) (fun j hj => xup_r hj) (fun h => by rw [o12]; exact y2 (by omega)) (fun h => by rw [o12]; exact y3 (by omega)) (fun a q _ => xup_other q)
      rw [q] at y1
      have u1 : κ + 1 - 1 = κ := rfl
      simp (disch := first | decide | omega) only [s202, j202, y1, nI_eq_f, if_false, pk_sub, u1]
      refine r202 (κ := κ) (by omega) (xup_rs _ _ _ _) (fun N1 f1 f2 => ?_)
      have z : N1 0 18 = nI κ := by rw [f1 0 (by decide), xup_rs]
      simp (disch := first | decide | omega) only [xup_r, z]
      refine ⟨trivial, R1.new (fun a h1 h2 => sN_a h1) (fun j => sN_o) ?_ ⟨by rw [xup_rs, sN_s], fun i hi => by rw [sN_s] at hi; omega⟩ (fun a z => by rw [xup_other (by omega)]; exact f1 a (by omega)) (fun j z => by rw [xup_r (by omega), f1 0 (by decide)])⟩
      refine rH.mono (M := N1) ?_ (xup_other (by decide))
      rcases (show κ = 0 ∨ κ = 1 by omega) with z | z
      · subst z
        rw [hh, if_pos rfl]
        refine rF_at (c := 12) (o := 0) (M := N) ?_ (fun j hj => by rw [f2 j hj, o12])
        have := y2 (by omega)
        simpa only [Nat.zero_add] using this
      · subst z
        rw [hh, if_neg (by omega)]
        exact rF_at (c := 12) (o := 156) (M := N) (y3 (by omega)) (fun j hj => by rw [f2 j hj, o12])
  rcases (show S 2 3 = 0 ∨ ∃ k, S 2 3 = k + 1 from by cases q : S 2 3 with | zero => exact Or.inl rfl | succ n => exact Or.inr ⟨n, rfl⟩) with q | ⟨k, q⟩
  · rw [q] at x1 y1
    refine Agr.same W (-2) ?_ ?_
    · simp (disch := first | decide | omega) only [s130, j130, x1, nI_lt_t, if_true]
      exact ⟨trivial, C⟩
    · simp (disch := first | decide | omega) only [s202, j202, y1, if_true]
      exact ⟨trivial, R⟩
  · exact fin k _ q rfl
end C30
