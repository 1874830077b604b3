/-! the state of both sides, as numbers: S 0 the house, S 1 the text, S 2 how many (letters, told, films, kept, undone), S 3 the told row, S 4 .. S 7 the films, S 8, S 9 the kept houses, S 10 what can be undone -/
abbrev xA : Type := Nat → Nat → Nat
def sA (S : xA) (a : Nat) (f : Nat → Nat) : xA := fun b => if b = a then f else S b
def sN (S : xA) (i v : Nat) : xA := sA S 2 (fun j => if j = i then v else S 2 j)
def rF (f : Nat → Int32) (h : Nat → Nat) : Prop := (∀ j, j < 156 → ¬ rla j → f j = nI (h j)) ∧ ∀ j, rla j → f j = if h j = 3 then -4 else nI (h j)
theorem rH_rF {c : Nat} {h : Nat → Nat} {M : xM} : rH c h M ↔ rF (M c) h := Iff.rfl
/-- an entry of what can be undone -/
def xen (h e : Nat → Nat) : Prop := (e 0 = 0 ∧ e 1 < h 2 ∧ e 2 < 2 * h 1 ∧ e 3 ≤ 99 ∧ e 4 < h 0 ∧ e 5 ≤ 3) ∨ (e 0 = 1 ∧ e 1 < h 1 ∧ ((e 2 = 2 ∧ e 3 ≤ 1 ∧ h (3 + (e 1 * 6 + 2)) ≤ 1) ∨ ((e 2 = 4 ∨ e 2 = 5) ∧ e 3 < 64)))
def xes (S : xA) (i : Nat) : Nat → Nat := fun f => S 10 (i * 6 + f)
def cE (nx u i : Nat) (e : Nat → Nat) (M : xM) : Prop := ∀ f, f < (if e 0 = 0 then 6 else 4) → M 25 (((nx + 8 - u + i) % 8) * 6 + f) = nI (e f)
def rE (i : Nat) (e : Nat → Nat) (M : xM) : Prop :=
  (e 0 = 0 → M 6 (6 * i) = nI (51 + 3 * e 1) ∧ M 6 (6 * i + 1) = nI (e 4) ∧ M 6 (6 * i + 2) = nI (51 + 3 * e 1 + 2) ∧ M 6 (6 * i + 3) = rli (e 5) ∧ M 6 (6 * i + 4) = nI (66 + 16 * e 1 + e 2) ∧ M 6 (6 * i + 5) = nI (e 3)) ∧
  (e 0 = 1 → M 6 (6 * i) = nI (3 + 6 * e 1 + e 2) ∧ M 6 (6 * i + 1) = nI (e 3) ∧ M 6 (6 * i + 2) = nI (3 + 6 * e 1 + e 2) ∧ M 6 (6 * i + 3) = nI (e 3) ∧ M 6 (6 * i + 4) = nI (3 + 6 * e 1 + e 2) ∧ M 6 (6 * i + 5) = nI (e 3))
def RC (S : xA) (M : xM) : Prop :=
  (M 1 4 = nI (S 2 0) ∧ ∀ j, j < S 2 0 → M 2 j = nI (S 1 j)) ∧ cH 9 (S 0) M ∧ (M 0 7 = nI (S 2 1) ∧ ∀ j, j < S 2 1 → M 26 j = nI (S 3 j)) ∧
  (M 27 3 = nI (S 2 2) ∧ ∀ j, j < S 2 2 → M 28 j = nI (S 4 j) ∧ M 29 j = nI (S 5 j) ∧ M 30 j = nI (S 6 j * 100 / S 7 j)) ∧
  (M 0 4 = nI (S 2 3) ∧ (1 ≤ S 2 3 → cH 14 (S 8) M) ∧ (2 ≤ S 2 3 → cH 19 (S 9) M)) ∧
  ∃ nx, nx < 8 ∧ M 24 1 = nI nx ∧ M 24 2 = nI (S 2 4) ∧ ∀ i, i < S 2 4 → cE nx (S 2 4) i (xes S i) M
def RR (S : xA) (M : xM) : Prop :=
  (M 0 2 = nI (S 2 0) ∧ ∀ j, j < S 2 0 → M 2 j = nI (S 1 j)) ∧ rH 1 (S 0) M ∧ (M 0 11 = nI (S 2 1) ∧ ∀ j, j < S 2 1 → M 7 j = nI (S 3 j)) ∧
  (M 0 16 = nI (S 2 2) ∧ ∀ j, j < S 2 2 → M 11 (4 * j) = nI (S 4 j) ∧ M 11 (4 * j + 1) = nI (S 5 j) ∧ M 11 (4 * j + 2) = nI (S 6 j) ∧ M 11 (4 * j + 3) = nI (S 7 j)) ∧
  (M 0 18 = nI (S 2 3) ∧ (1 ≤ S 2 3 → rF (fun j => M 12 j) (S 8)) ∧ (2 ≤ S 2 3 → rF (fun j => M 12 (156 + j)) (S 9))) ∧
  (M 0 10 = nI (S 2 4) ∧ ∀ i, i < S 2 4 → rE i (xes S i) M)
def xsm (h k : Nat → Nat) : Prop := k 0 = h 0 ∧ k 1 = h 1 ∧ k 2 = h 2
def WA (S : xA) : Prop :=
  (S 2 0 ≤ 200 ∧ ∀ j, j < S 2 0 → 32 ≤ S 1 j ∧ S 1 j ≤ 126) ∧ xWF (S 0) ∧ (S 2 1 ≤ 12 ∧ ∀ j, j < S 2 1 → S 3 j < S 0 1) ∧
  (S 2 2 ≤ 8 ∧ ∀ j, j < S 2 2 → S 4 j < S 0 1 ∧ S 5 j < 2 ∧ S 6 j ≤ S 7 j ∧ 1 ≤ S 7 j ∧ S 7 j ≤ 50) ∧
  (S 2 3 ≤ 2 ∧ (1 ≤ S 2 3 → xWF (S 8) ∧ xsm (S 0) (S 8)) ∧ (2 ≤ S 2 3 → xWF (S 9) ∧ xsm (S 0) (S 9))) ∧
  (S 2 4 ≤ 8 ∧ ∀ i, i < S 2 4 → xen (S 0) (xes S i))
/-- nothing but what the class works with has changed -/
def cfr (M M' : xM) : Prop := (∀ a, a = 0 ∨ a = 2 ∨ (9 ≤ a ∧ a ≤ 30) → M' a = M a) ∧ M' 1 4 = M 1 4
theorem cfr.rf {M : xM} : cfr M M := ⟨fun _ _ => rfl, rfl⟩
theorem cfr.tr {M M1 M2 : xM} (h1 : cfr M M1) (h2 : cfr M1 M2) : cfr M M2 := ⟨fun a q => (h2.1 a q).trans (h1.1 a q), h2.2.trans h1.2⟩
theorem cfr.x {M M' : xM} {lo hi : Nat} (h : xfr lo hi M M') (q : 31 ≤ lo ∨ (3 ≤ lo ∧ hi ≤ 8)) : cfr M M' := ⟨fun a z => h a (by omega), by rw [h 1 (by omega)]⟩
theorem RC.fr {S : xA} {M M' : xM} (R : RC S M) (f : cfr M M') : RC S M' := by
  obtain ⟨⟨a1, a2⟩, b, ⟨c1, c2⟩, ⟨d1, d2⟩, ⟨e1, e2, e3⟩, nx, g0, g1, g2, g3⟩ := R
  have q2 := f.1 2 (by omega)
  have q0 := f.1 0 (by omega)
  have q26 := f.1 26 (by omega)
  have q27 := f.1 27 (by omega)
  have q28 := f.1 28 (by omega)
  have q29 := f.1 29 (by omega)
  have q30 := f.1 30 (by omega)
  have q24 := f.1 24 (by omega)
  have q25 := f.1 25 (by omega)
  refine ⟨⟨by rw [f.2]; exact a1, by rw [q2]; exact a2⟩, b.mono (fun a h1 h2 => f.1 a (by omega)), ⟨by rw [q0]; exact c1, by rw [q26]; exact c2⟩, ⟨by rw [q27]; exact d1, by rw [q28, q29, q30]; exact d2⟩, ⟨by rw [q0]; exact e1, fun h => (e2 h).mono (fun a h1 h2 => f.1 a (by omega)), fun h => (e3 h).mono (fun a h1 h2 => f.1 a (by omega))⟩, nx, g0, by rw [q24]; exact g1, by rw [q24]; exact g2, fun i hi => ?_⟩
  have := g3 i hi
  unfold cE at this ⊢
  rw [q25]
  exact this
/-- nothing but what the reference works with has changed -/
def rfx (M M' : xM) : Prop := (∀ a, a = 1 ∨ a = 2 ∨ a = 6 ∨ a = 7 ∨ a = 11 ∨ a = 12 → M' a = M a) ∧ ∀ j, j = 2 ∨ j = 10 ∨ j = 11 ∨ j = 16 ∨ j = 18 → M' 0 j = M 0 j
theorem rfr.x {M M' : xM} (f : rfr M M') : rfx M M' := ⟨fun a z => f.1 a (by omega) (by omega) (by omega) (by omega), fun j z => f.2 j (by omega) (by omega) (by omega)⟩
theorem RR.frx {S : xA} {M M' : xM} (R : RR S M) (f : rfx M M') : RR S M' := by
  obtain ⟨⟨a1, a2⟩, b, ⟨c1, c2⟩, ⟨d1, d2⟩, ⟨e1, e2, e3⟩, g1, g2⟩ := R
  obtain ⟨q, z⟩ := f
  refine ⟨⟨by rw [z 2 (by omega)]; exact a1, by rw [q 2 (by omega)]; exact a2⟩, b.mono (q 1 (by omega)), ⟨by rw [z 11 (by omega)]; exact c1, by rw [q 7 (by omega)]; exact c2⟩, ⟨by rw [z 16 (by omega)]; exact d1, by rw [q 11 (by omega)]; exact d2⟩, ⟨by rw [z 18 (by omega)]; exact e1, by rw [q 12 (by omega)]; exact e2, by rw [q 12 (by omega)]; exact e3⟩, by rw [z 10 (by omega)]; exact g1, fun i hi => ?_⟩
  have := g2 i hi
  unfold rE at this ⊢
  rw [q 6 (by omega)]
  exact this
theorem RR.fr {S : xA} {M M' : xM} (R : RR S M) (f : rfr M M') : RR S M' := R.frx f.x
/-- the one call and the other answer alike -/
def Agr (S : xA) (M N : xM) (a : Nat) (as : List Value) (b : Nat) (bs : List Value) : Prop := ∃ (v : Int32) (S' : xA), WA S' ∧ xW xSC a 0 as [] M (fun r M' => r = some (.int v) ∧ RC S' M') ∧ xW xSR b 0 bs [] N (fun r N' => r = some (.int v) ∧ RR S' N')
theorem Agr.same {S : xA} {M N : xM} {a b : Nat} {as bs : List Value} (W : WA S) (v : Int32) (h1 : xW xSC a 0 as [] M (fun r M' => r = some (.int v) ∧ RC S M')) (h2 : xW xSR b 0 bs [] N (fun r N' => r = some (.int v) ∧ RR S N')) : Agr S M N a as b bs := ⟨v, S, W, h1, h2⟩
theorem bt_f {c : Bool} (h : c = false) : ((if c = true then nI 1 else nI 0) = nI 0) = True := by subst h; simp
theorem bt_t {c : Bool} (h : c = true) : ((if c = true then nI 1 else nI 0) = nI 0) = False := by subst h; simp [i12]
section C22
variable {M N : xM} {S : xA}
theorem RC.n {S : xA} {M : xM} (R : RC S M) : M 9 0 = nI (S 0 0) ∧ M 9 1 = nI (S 0 1) ∧ M 9 2 = nI (S 0 2) := R.2.1.1
theorem RR.n {S : xA} {M : xM} (R : RR S M) : M 1 0 = nI (S 0 0) ∧ M 1 1 = nI (S 0 1) ∧ M 1 2 = nI (S 0 2) := ⟨R.2.1.at _ rfl (by omega) (by omega), R.2.1.at _ rfl (by omega) (by omega), R.2.1.at _ rfl (by omega) (by omega)⟩
theorem A_does (C : RC S M) (R : RR S N) (W : WA S) (x : Int32) : Agr S M N 104 [.ref 0, .int x] 160 [.ref 0, .int x] := by
  cases hx : xbw x 0 (9 + 1) with
  | false =>
    refine Agr.same W (-1) ?_ ?_
    · simp (disch := decide) only [s104, j104, cWi, hx, bt_f, xpush_s, Bool.false_eq_true, if_true, if_false, i00]
      exact ⟨trivial, C⟩
    · simp (disch := decide) only [s160, j160, r135w, hx, bt_f, xpush_s, Bool.false_eq_true, if_true, if_false, i00]
      exact ⟨trivial, R⟩
  | true =>
    obtain ⟨j, -, hj, rfl⟩ := xbw_nI hx (by decide)
    have m1 : M 13 j = nI (S 0 (146 + j)) := C.2.1.do j hj
    have m2 : N 1 (146 + j) = nI (S 0 (146 + j)) := R.2.1.at _ rfl (by omega) (by omega)
    refine Agr.same W (nI (S 0 (146 + j))) ?_ ?_
    · simp (disch := first | decide | omega) only [s104, j104, cWi, hx, bt_t, xpush_s, if_true, if_false, i12, c34, m1]
      exact ⟨trivial, C⟩
    · simp (disch := first | decide | omega) only [s160, j160, r135w, hx, bt_t, xpush_s, if_true, if_false, i12, nI_add, m2]
      exact ⟨trivial, R⟩
theorem A_door (C : RC S M) (R : RR S N) (W : WA S) (x y : Int32) : Agr S M N 101 [.ref 0, .int x, .int y] 156 [.ref 0, .int x, .int y] := by
  have h8 := W.2.1.1.2.2.1
  obtain ⟨cn0, cn1, cn2⟩ := C.n
  obtain ⟨rn0, rn1, rn2⟩ := R.n
  cases hx : xok x (S 0 1) with
  | false =>
    refine Agr.same W (-1) ?_ ?_
    · simp (disch := first | decide | omega) only [s101, j101, c24r (show S 0 1 < 2 ^ 31 by omega) cn1, hx, xpush_s, Bool.false_eq_true, if_true, if_false, i00]
      exact ⟨trivial, C⟩
    · simp (disch := first | decide | omega) only [s156, j156, r140 (show S 0 1 < 2 ^ 31 by omega) rn1, hx, xpush_s, Bool.false_eq_true, if_true, if_false, i00]
      exact ⟨trivial, R⟩
  | true =>
    obtain ⟨d, hd, rfl⟩ := xok_nI hx (by omega)
    cases hy : xbw y 0 (7 + 1) with
    | false =>
      refine Agr.same W (-1) ?_ ?_
      · simp (disch := first | decide | omega) only [s101, j101, c24r (show S 0 1 < 2 ^ 31 by omega) cn1, hx, xpush_s, Bool.false_eq_true, if_true, if_false, i12, i00, cWi, hy]
        exact ⟨trivial, C⟩
      · simp (disch := first | decide | omega) only [s156, j156, r140 (show S 0 1 < 2 ^ 31 by omega) rn1, hx, xpush_s, Bool.false_eq_true, if_true, if_false, i12, i00, r135w, hy]
        exact ⟨trivial, R⟩
    | true =>
      obtain ⟨k, -, hk, rfl⟩ := xbw_nI hy (by decide)
      by_cases q : k < 6
      · have m1 : M 10 (d * 6 + k) = nI (S 0 (3 + (d * 6 + k))) := C.2.1.2.1 _ (by omega)
        have m2 : N 1 (3 + 6 * d + k) = nI (S 0 (3 + (d * 6 + k))) := R.2.1.at _ (by omega) (by omega) (by omega)
        refine Agr.same W (nI (S 0 (3 + (d * 6 + k)))) ?_ ?_
        · simp (disch := first | decide | omega) only [s101, j101, c24r (show S 0 1 < 2 ^ 31 by omega) cn1, hx, xpush_s, if_true, if_false, i12, cWi, hy, nI_lt_t, c28, m1]
          exact ⟨trivial, C⟩
        · simp (disch := first | decide | omega) only [s156, j156, r140 (show S 0 1 < 2 ^ 31 by omega) rn1, hx, xpush_s, if_true, if_false, i12, r135w, hy, nI_lt_t, pk_mul, nI_add, m2]
          exact ⟨trivial, R⟩
      · obtain ⟨e, rfl⟩ : ∃ e, k = 6 + e := ⟨k - 6, by omega⟩
        obtain ⟨-, -, -, hw, -, -, -, -⟩ := W.2.1.2.1 d hd
        have m3 : M 10 (d * 6 + 2) = nI (S 0 (3 + (d * 6 + 2))) := C.2.1.2.1 _ (by omega)
        have m4 : xwi (nI (S 0 (3 + (d * 6 + 2)))) (nI e) = nI (xw (S 0) d e) := xwi_nI (by omega) (by omega)
        have e6 : 6 + e - 6 = e := by omega
        refine Agr.same W (nI (xw (S 0) d e)) ?_ ?_
        · simp (disch := first | decide | omega) only [s101, j101, c24r (show S 0 1 < 2 ^ 31 by omega) cn1, hx, xpush_s, if_true, if_false, i12, cWi, hy, nI_lt_f, pk_sub, e6, c37, m3, m4]
          exact ⟨trivial, C⟩
        · simp (disch := first | decide | omega) only [s156, j156, r140 (show S 0 1 < 2 ^ 31 by omega) rn1, hx, xpush_s, if_true, if_false, i12, r135w, hy, nI_lt_f, pk_sub, e6, r161 R.2.1 W.2.1 hd (show e < 2 by omega)]
          exact ⟨trivial, R⟩
end C22
