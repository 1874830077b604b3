/-! through doors with a tray -/
def xopm (h : Nat → Nat) (r : Int32) (d e : Nat) : Int32 := if (r >>> (nI (xdr h d e) &&& nI 31)) &&& nI 1 = nI 1 then (if nI (xw h d e) = nI 1 then nI 0 else nI 1 <<< (nI (xdr h d (1 - e)) &&& nI 31)) else nI 0
def xrd (h : Nat → Nat) (r : Int32) : Nat → Nat → Int32 → Int32
  | _, 0, a => a
  | d, n + 1, a => xrd h r (d + 1) n (a ||| xopm h r d 0 ||| xopm h r d 1)
section C34
variable {M N : xM} {Q : Option Value → xM → Prop} {S S1 : xA} {h h' : Nat → Nat}
theorem or_nI0 (a : Int32) : a ||| nI 0 = a := Int32.or_zero
theorem xrd_or (h : Nat → Nat) (r b : Int32) : ∀ n d a, xrd h r d n (b ||| a) = b ||| xrd h r d n a
  | 0, _, _ => rfl
  | n + 1, d, a => by
    show xrd h r (d + 1) n (b ||| a ||| xopm h r d 0 ||| xopm h r d 1) = b ||| xrd h r (d + 1) n (a ||| xopm h r d 0 ||| xopm h r d 1)
    rw [Int32.or_assoc b a, Int32.or_assoc b]
    exact xrd_or h r b n (d + 1) _
theorem c118s {r a : Int32} {d e : Nat} {x5 : Value} (H : cH 9 h M) (W : xWF h) (hd : d < h 1) (he : e < 2) (hQ : ∀ x5, xW xSC 118 18 [.ref 0, .int r, .int (a ||| xopm h r d e), .int (nI d), .int (nI (e + 1)), x5] [] M Q) : xW xSC 118 18 [.ref 0, .int r, .int a, .int (nI d), .int (nI e), x5] [] M Q := by
  have h8 := W.1.2.2.1
  obtain ⟨-, -, -, hw2, -, -, -, -⟩ := W.2.1 d hd
  have a0 : M 10 (d * 6 + e) = nI (xdr h d e) := H.2.1 _ (by omega)
  have a1 : M 10 (d * 6 + (1 - e)) = nI (xdr h d (1 - e)) := H.2.1 _ (by omega)
  have m3 : M 10 (d * 6 + 2) = nI (h (3 + (d * 6 + 2))) := H.2.1 _ (by omega)
  have m4 : xwi (nI (h (3 + (d * 6 + 2)))) (nI e) = nI (xw h d e) := xwi_nI (by omega) (by omega)
  rw [h118_18]
  unfold xopm at hQ
  by_cases q : (r >>> (nI (xdr h d e) &&& nI 31)) &&& nI 1 = nI 1
  · rw [if_pos q] at hQ
    by_cases z : nI (xw h d e) = nI 1
    · rw [if_pos z, or_nI0] at hQ
      simp (disch := first | decide | omega) only [s118, nI_lt_t, if_true, c39, a0, xpush_s, q, h118_47, i12, if_false, c37, m3, m4, z, h118_85, nI_add]
      exact hQ _
    · rw [if_neg z] at hQ
      simp (disch := first | decide | omega) only [s118, nI_lt_t, if_true, c39, a0, xpush_s, q, h118_47, i12, if_false, c37, m3, m4, z, h118_85, nI_add, pk_sub, a1]
      exact hQ _
  · rw [if_neg q, or_nI0] at hQ
    simp (disch := first | decide | omega) only [s118, nI_lt_t, if_true, c39, a0, xpush_s, q, if_false, h118_47, i00, h118_85, nI_add]
    exact hQ _
theorem c118 {r : Int32} (H : cH 9 h M) (W : xWF h) (hQ : Q (some (.int (xrd h r 0 (h 1) r))) M) : xW xSC 118 0 [.ref 0, .int r, .null, .null, .null, .null] [] M Q := by
  have h8 := W.1.2.2.1
  have m1 : M 9 1 = nI (h 1) := H.1.2.1
  have key : ∀ (n d : Nat) (a : Int32) (x4 x5 : Value), d + n = h 1 → Q (some (.int (xrd h r d n a))) M → xW xSC 118 4 [.ref 0, .int r, .int a, .int (nI d), x4, x5] [] M Q := by
    intro n
    induction n with
    | zero =>
      intro d a x4 x5 hk q
      rw [h118_4]
      simp (disch := first | decide | omega) only [s118, m1, nI_lt_f, if_false]
      exact q
    | succ n ih =>
      intro d a x4 x5 hk q
      rw [h118_4]
      simp (disch := first | decide | omega) only [s118, m1, nI_lt_t, if_true]
      refine c118s H W (by omega) (by omega) (fun x5 => ?_)
      refine c118s H W (by omega) (by omega) (fun x5 => ?_)
      rw [h118_18]
      simp (disch := first | decide | omega) only [s118, nI_lt_f, if_false, nI_add]
      exact ih (d + 1) _ _ _ (by omega) q
  simp (disch := first | decide | omega) only [s118]
  exact key (h 1) 0 r _ _ (by omega) hQ
theorem r187s {r a b s : Int32} {k d e : Nat} {x8 : Value} (R : rH 1 h N) (W : xWF h) (hd : d < h 1) (he : e < 2) (hQ : ∀ x8, xW xSR 187 64 [.ref 0, .int s, .int b, .int r, .int (nI k), .int (a ||| xopm h r d e), .int (nI d), .int (nI (e + 1)), x8] [] N Q) : xW xSR 187 64 [.ref 0, .int s, .int b, .int r, .int (nI k), .int a, .int (nI d), .int (nI e), x8] [] N Q := by
  have h8 := W.1.2.2.1
  have a0 : N 1 (3 + 6 * d + e) = nI (xdr h d e) := R.at _ (by omega) (by omega) (by omega)
  have a1 : N 1 (3 + 6 * d + 1 - e) = nI (xdr h d (1 - e)) := R.at _ (by omega) (by omega) (by omega)
  rw [h187_64]
  unfold xopm at hQ
  by_cases q : (r >>> (nI (xdr h d e) &&& nI 31)) &&& nI 1 = nI 1
  · rw [if_pos q] at hQ
    by_cases z : nI (xw h d e) = nI 1
    · rw [if_pos z, or_nI0] at hQ
      simp (disch := first | decide | omega) only [s187, nI_lt_t, if_true, pk_mul, nI_add, a0, xpush_s, q, r161 R W hd he, z, h187_109, h187_110, h187_142, or_nI0]
      exact hQ _
    · rw [if_neg z] at hQ
      simp (disch := first | decide | omega) only [s187, nI_lt_t, if_true, pk_mul, nI_add, a0, xpush_s, q, r161 R W hd he, z, if_false, i12, h187_110, h187_142, pk_sub, a1]
      exact hQ _
  · rw [if_neg q, or_nI0] at hQ
    simp (disch := first | decide | omega) only [s187, nI_lt_t, if_true, pk_mul, nI_add, a0, xpush_s, q, if_false, h187_109, h187_110, h187_142, or_nI0]
    exact hQ _
theorem r187d {r b s : Int32} {k : Nat} (R : rH 1 h N) (W : xWF h) (hQ : ∀ x7 x8, xW xSR 187 25 [.ref 0, .int s, .int b, .int (r ||| xrd h r 0 (h 1) (nI 0)), .int (nI (k + 1)), .int (xrd h r 0 (h 1) (nI 0)), .int (nI (h 1)), x7, x8] [] N Q) : ∀ x7 x8, xW xSR 187 50 [.ref 0, .int s, .int b, .int r, .int (nI k), .int (nI 0), .int (nI 0), x7, x8] [] N Q := by
  have h8 := W.1.2.2.1
  have m1 : N 1 1 = nI (h 1) := R.at _ rfl (by omega) (by omega)
  have key : ∀ (n d : Nat) (a : Int32) (x7 x8 : Value), d + n = h 1 → (∀ x7 x8, xW xSR 187 25 [.ref 0, .int s, .int b, .int (r ||| xrd h r d n a), .int (nI (k + 1)), .int (xrd h r d n a), .int (nI (h 1)), x7, x8] [] N Q) → xW xSR 187 50 [.ref 0, .int s, .int b, .int r, .int (nI k), .int a, .int (nI d), x7, x8] [] N Q := by
    intro n
    induction n with
    | zero =>
      intro d a x7 x8 hk q
      rw [h187_50]
      have hk : d = h 1 := by omega
      subst hk
      simp (disch := first | decide | omega) only [s187, m1, nI_lt_f, if_false, nI_add]
      exact q _ _
    | succ n ih =>
      intro d a x7 x8 hk q
      rw [h187_50]
      simp (disch := first | decide | omega) only [s187, m1, nI_lt_t, if_true]
      refine r187s R W (by omega) (by omega) (fun x8 => ?_)
      refine r187s R W (by omega) (by omega) (fun x8 => ?_)
      rw [h187_64]
      simp (disch := first | decide | omega) only [s187, nI_lt_f, if_false, nI_add]
      exact ih (d + 1) _ _ _ (by omega) q
  intro x7 x8
  exact key (h 1) 0 (nI 0) x7 x8 (by omega) hQ
theorem tray_sim {x y : Int32} (C : RC S M) (R : RR S N) (W : WA S) : ∀ (n k : Nat) (r : Int32), k + n = 8 →
    ∃ v : Int32, xW xSC 117 31 [.ref 0, .int x, .int y, .int r, .int (nI k)] [] M (fun z M' => z = some (.int v) ∧ RC S M') ∧ ∀ x5 x6 x7 x8, xW xSR 187 25 [.ref 0, .int x, .int y, .int r, .int (nI k), x5, x6, x7, x8] [] N (fun z N' => z = some (.int v) ∧ RR S N') := by
  intro n
  induction n with
  | zero =>
    intro k r hk
    refine ⟨-4, ?_, ?_⟩
    · rw [h117_31]
      simp (disch := first | decide | omega) only [s117, nI_lt_f, if_false]
      exact ⟨trivial, C⟩
    · intro x5 x6 x7 x8
      rw [h187_25]
      simp (disch := first | decide | omega) only [s187, nI_lt_f, if_false]
      exact ⟨trivial, R⟩
  | succ n ih =>
    intro k r hk
    by_cases q : (r >>> (y &&& nI 31)) &&& nI 1 = nI 1
    · refine ⟨nI k, ?_, ?_⟩
      · rw [h117_31]
        simp (disch := first | decide | omega) only [s117, nI_lt_t, if_true, q]
        exact ⟨trivial, C⟩
      · intro x5 x6 x7 x8
        rw [h187_25]
        simp (disch := first | decide | omega) only [s187, nI_lt_t, if_true, q]
        exact ⟨trivial, R⟩
    · have nxt : r ||| xrd (S 0) r 0 (S 0 1) (nI 0) = xrd (S 0) r 0 (S 0 1) r := by rw [← xrd_or, or_nI0]
      obtain ⟨v, v1, v2⟩ := ih (k + 1) (xrd (S 0) r 0 (S 0 1) r) (by omega)
      refine ⟨v, ?_, ?_⟩
      · rw [h117_31]
        simp (disch := first | decide | omega) only [s117, nI_lt_t, if_true, q, if_false]
        refine c118 C.2.1 W.2.1 ?_
        simp (disch := first | decide | omega) only [s117, xpush_s, nI_add]
        exact v1
      · intro x5 x6 x7 x8
        rw [h187_25]
        simp (disch := first | decide | omega) only [s187, nI_lt_t, if_true, q, if_false]
        refine r187d R.2.1 W.2.1 (fun y7 y8 => ?_) _ _
        rw [nxt]
        exact v2 _ _ _ _
theorem A_tray (C : RC S M) (R : RR S N) (W : WA S) (x y : Int32) : Agr S M N 117 [.ref 0, .int x, .int y, .null, .null] 187 [.ref 0, .int x, .int y, .null, .null, .null, .null, .null, .null] := by
  have h8 := W.2.1.1.2.2.1
  have h5 := W.2.1.1.2.2.2
  obtain ⟨cn0, cn1, cn2⟩ := C.n
  obtain ⟨rn0, rn1, rn2⟩ := R.n
  have l0 : S 0 0 < 2 ^ 31 := by have := W.2.1.1.2.1; omega
  have l1 : S 0 1 < 2 ^ 31 := by omega
  have l2 : S 0 2 < 2 ^ 31 := by omega
  cases hx : xok x (S 0 0) <;> cases hy : xok y (S 0 0)
  all_goals try (refine Agr.same W (-1) ?_ ?_ <;> (simp (disch := first | decide | omega) only [s117, j117, c23r l0 cn0, s187, j187, r139 l0 rn0, hx, hy, xpush_s, Bool.false_eq_true, if_true, if_false, i12, i00, Bool.and_true, Bool.and_false, Bool.true_and, Bool.false_and]; exact ⟨trivial, by first | exact C | exact R⟩))
  obtain ⟨v, v1, v2⟩ := tray_sim (x := x) (y := y) C R W 8 0 (nI 1 <<< (x &&& nI 31)) (by omega)
  refine Agr.same W v ?_ ?_
  · simp (disch := first | decide | omega) only [s117, j117, c23r l0 cn0, hx, hy, xpush_s, if_true, if_false, i12]
    exact v1
  · simp (disch := first | decide | omega) only [s187, j187, r139 l0 rn0, hx, hy, xpush_s, if_true, if_false, i12]
    exact v2 _ _ _ _
end C34
