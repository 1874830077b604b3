/-! a day of pulls, by draws -/
def xdrw (z k : Nat) : Nat := (7919 * z + 6151 * k + 1) * (7919 * z + 6151 * k + 1) % 65521 / 16
def xdcn (z p r : Nat) : Nat → Nat → Nat
  | _, 0 => 0
  | k, n + 1 => (if xdrw z k % (p + r) < r then 1 else 0) + xdcn z p r (k + 1) n
theorem lmod (x b : Nat) : lN x - lN (x / b * b) = lN (x % b) := by
  rw [lN_sub (Nat.div_mul_le_self x b)]
  exact congrArg lN (by have := Nat.div_add_mod' x b; omega)
theorem nmod (x b : Nat) : nI x - nI (x / b * b) = nI (x % b) := by
  rw [pk_sub (Nat.div_mul_le_self x b)]
  exact congrArg nI (by have := Nat.div_add_mod' x b; omega)
theorem xdq_lt {z k : Nat} (hz : z ≤ 9999) (hk : k ≤ 99) : (7919 * z + 6151 * k + 1) * (7919 * z + 6151 * k + 1) < 2 ^ 63 := by
  have a : 7919 * z + 6151 * k + 1 ≤ 80000000 := by omega
  exact Nat.lt_of_le_of_lt (Nat.mul_le_mul a a) (by decide)
theorem xdrw_lt (z k : Nat) : xdrw z k < 2 ^ 31 := by
  have : (7919 * z + 6151 * k + 1) * (7919 * z + 6151 * k + 1) % 65521 < 65521 := Nat.mod_lt _ (by decide)
  unfold xdrw
  omega
theorem xdcn_le (z p r : Nat) : ∀ n k, xdcn z p r k n ≤ n
  | 0, k => Nat.le_refl 0
  | n + 1, k => by
    have := xdcn_le z p r n (k + 1)
    simp only [xdcn]
    split <;> omega
section C38
variable {M N : xM} {Q : Option Value → xM → Prop} {S S1 : xA} {h h' : Nat → Nat}
theorem c128 {z k : Nat} (hz : z ≤ 9999) (hk : k ≤ 99) : xW xSC 128 0 [.int (nI z), .int (nI k), .null, .null] [] M Q = Q (some (.int (nI (xdrw z k)))) M := by
  have hq := xdq_lt hz hk
  have hm : (7919 * z + 6151 * k + 1) * (7919 * z + 6151 * k + 1) % 65521 < 65521 := Nat.mod_lt _ (by decide)
  simp (disch := first | decide | omega) only [s128, nI_l, lN_mul, lN_add, pk_lDiv, lmod, lN_i]
  rfl
theorem c54 {p r k : Nat} (hp : M 33 0 = nI p) (hr : M 33 1 = nI r) (h1 : 1 ≤ p) (p2 : p < 2 ^ 30) (r2 : r < 2 ^ 30) (hk : k < 2 ^ 31) : xW xSC 54 0 [.ref 33, .int (nI k), .null] [] M Q = Q (some (.int (nI (if k % (p + r) < r then 1 else 0)))) M := by
  have hm : k % (p + r) < p + r := Nat.mod_lt _ (by omega)
  by_cases q : k % (p + r) < r
  · simp (disch := first | decide | omega) only [s54, hp, hr, nI_add, nI_lt_t, if_true, pk_div, pk_mul, nmod, h54_29, if_pos q]
  · simp (disch := first | decide | omega) only [s54, hp, hr, nI_add, nI_lt_t, nI_lt_f, if_true, if_false, pk_div, pk_mul, nmod, h54_28, h54_29, if_neg q]
/-- the class counts its pulls -/
theorem c127k {z n d e w p r : Nat} (hz : z ≤ 9999) (hn : n ≤ 99) (h1 : 1 ≤ p) (p2 : p < 2 ^ 30) (r2 : r < 2 ^ 30) (hp : M 33 0 = nI p) (hr : M 33 1 = nI r) (hQ : xW xSC 127 94 [.ref 0, .int (nI z), .int (nI n), .int (nI d), .int (nI e), .int (nI w), .int (nI (xdcn z p r 0 n)), .int (nI n)] [] M Q) : xW xSC 127 63 [.ref 0, .int (nI z), .int (nI n), .int (nI d), .int (nI e), .int (nI w), .int (nI 0), .int (nI 0)] [] M Q := by
  have key : ∀ (m k c : Nat), k + m = n → c + xdcn z p r k m = xdcn z p r 0 n → xW xSC 127 63 [.ref 0, .int (nI z), .int (nI n), .int (nI d), .int (nI e), .int (nI w), .int (nI c), .int (nI k)] [] M Q := by
    intro m
    induction m with
    | zero =>
      intro k c hk q
      have q : c = xdcn z p r 0 n := q
      have hk : k = n := hk
      rw [h127_63, q, hk]
      simp (disch := first | decide | omega) only [s127, nI_lt_f, if_false] at hQ ⊢
      exact hQ
    | succ m ih =>
      intro k c hk q
      have dl := xdrw_lt z k
      simp only [xdcn] at q
      rw [h127_63]
      by_cases y : xdrw z k % (p + r) < r
      · rw [if_pos y] at q
        simp (disch := first | decide | omega) only [s127, nI_lt_t, if_true, c128 hz (show k ≤ 99 by omega), xpush_s, c54 hp hr h1 p2 r2 dl, if_pos y, i12, if_false, nI_add, h127_88]
        exact ih (k + 1) (c + 1) (by omega) (by omega)
      · rw [if_neg y] at q
        simp (disch := first | decide | omega) only [s127, nI_lt_t, if_true, c128 hz (show k ≤ 99 by omega), xpush_s, c54 hp hr h1 p2 r2 dl, if_neg y, i00, nI_add, h127_88]
        exact ih (k + 1) c (by omega) (by omega)
  exact key n 0 0 (by omega) (by omega)
def xdwr (w n c : Nat) : Nat := if w = 2 then 0 else if w = 0 then c else n - c
def xdpl (w n c : Nat) : Nat := if w = 1 then n else c
theorem r200k {z n d e w u p r : Nat} (hz : z ≤ 9999) (hn : n ≤ 99) (hu : u < 3) (h1 : 1 ≤ p) (p2 : p < 2 ^ 30) (r2 : r < 2 ^ 30) (hp : N 5 0 = nI p) (hr : N 5 1 = nI r) {a b c f g i : Value} (hQ : ∀ a b c f g i, xW xSR 200 217 [.ref 0, .int (nI z), .int (nI n), .int (nI d), .int (nI e), .int (nI w), .int (nI u), .int (nI (xdwr u n (xdcn z p r 0 n))), .int (nI (xdpl u n (xdcn z p r 0 n))), .int (nI n), a, b, c, f, g, i] [] N Q) : xW xSR 200 81 [.ref 0, .int (nI z), .int (nI n), .int (nI d), .int (nI e), .int (nI w), .int (nI u), .int (nI 0), .int (nI 0), .int (nI 0), a, b, c, f, g, i] [] N Q := by
  have e20 : ((2 : Nat) = 0) = False := by simp
  have e21 : ((2 : Nat) = 1) = False := by simp
  have e10 : ((1 : Nat) = 0) = False := by simp
  have e01 : ((0 : Nat) = 1) = False := by simp
  have e02 : ((0 : Nat) = 2) = False := by simp
  have e12 : ((1 : Nat) = 2) = False := by simp
  have key : ∀ (m k x : Nat) (a b c f g i : Value), k + m = n → x ≤ k → x + xdcn z p r k m = xdcn z p r 0 n → xW xSR 200 81 [.ref 0, .int (nI z), .int (nI n), .int (nI d), .int (nI e), .int (nI w), .int (nI u), .int (nI (xdwr u k x)), .int (nI (xdpl u k x)), .int (nI k), a, b, c, f, g, i] [] N Q := by
    intro m
    induction m with
    | zero =>
      intro k x a b c f g i hk hx q
      have q : x = xdcn z p r 0 n := q
      have hk : k = n := hk
      rw [h200_81, q, hk]
      have hQ := hQ a b c f g i
      simp (disch := first | decide | omega) only [s200, nI_lt_f, if_false] at hQ ⊢
      exact hQ
    | succ m ih =>
      intro k x a b c f g i hk hx q
      have dl := xdrw_lt z k
      have dl' := dl
      unfold xdrw at dl'
      have hq := xdq_lt hz (show k ≤ 99 by omega)
      have hm : (7919 * z + 6151 * k + 1) * (7919 * z + 6151 * k + 1) % 65521 < 65521 := Nat.mod_lt _ (by decide)
      have dm : xdrw z k % (p + r) < p + r := Nat.mod_lt _ (by omega)
      have de : (7919 * z + 6151 * k + 1) * (7919 * z + 6151 * k + 1) % 65521 / 16 = xdrw z k := rfl
      have clt : (lN (xdrw z k % (p + r)) < lN r) = (xdrw z k % (p + r) < r) := propext (pk_lLT (by omega) (by omega))
      simp only [xdcn] at q
      rw [h200_81]
      by_cases y : xdrw z k % (p + r) < r
      · have clt : (lN (xdrw z k % (p + r)) < lN r) = True := by rw [clt]; exact eq_true y
        rw [if_pos y] at q
        have IH := ih (k + 1) (x + 1)
        rcases (show u = 0 ∨ u = 1 ∨ u = 2 by omega) with v | v | v <;>
        · subst v
          simp (disch := first | decide | omega) only [xdwr, xdpl, if_true, if_false, e20, e21, e10, e01, e02, e12] at IH ⊢
          simp (disch := first | decide | omega) only [s200, nI_lt_t, nI_lt_f, if_true, if_false, nI_l, lN_mul, lN_add, pk_lDiv, lmod, de, hp, hr, nI_add, lgc_lt, clt, h200_153, h200_172, h200_173, h200_187, h200_203, h200_208, i12, i00, nI_eq_t, nI_eq_f, Nat.add_zero]
          first
            | exact IH _ _ _ _ _ _ (by omega) (by omega) (by omega)
            | (have e9 : k + 1 - (x + 1) = k - x := by omega
               rw [e9] at IH
               exact IH _ _ _ _ _ _ (by omega) (by omega) (by omega))
      · have clt : (lN (xdrw z k % (p + r)) < lN r) = False := by rw [clt]; exact eq_false y
        rw [if_neg y] at q
        have IH := ih (k + 1) x
        rcases (show u = 0 ∨ u = 1 ∨ u = 2 by omega) with v | v | v <;>
        · subst v
          simp (disch := first | decide | omega) only [xdwr, xdpl, if_true, if_false, e20, e21, e10, e01, e02, e12] at IH ⊢
          simp (disch := first | decide | omega) only [s200, nI_lt_t, nI_lt_f, if_true, if_false, nI_l, lN_mul, lN_add, pk_lDiv, lmod, de, hp, hr, nI_add, lgc_lt, clt, h200_153, h200_172, h200_173, h200_187, h200_203, h200_208, i12, i00, nI_eq_t, nI_eq_f, Nat.add_zero]
          first
            | exact IH _ _ _ _ _ _ (by omega) (by omega) (by omega)
            | (have e9 : k + 1 - x = k - x + 1 := by omega
               rw [e9] at IH
               exact IH _ _ _ _ _ _ (by omega) (by omega) (by omega))
  have s0 : xdwr u 0 0 = 0 := by unfold xdwr; split <;> (try split) <;> rfl
  have s1 : xdpl u 0 0 = 0 := by unfold xdpl; split <;> rfl
  have K := key n 0 0 a b c f g i (by omega) (by omega) (by omega)
  rw [s0, s1] at K
  exact K
theorem A_day (C : RC S M) (R : RR S N) (W : WA S) (x1 x2 x3 x4 x5 : Int32) : Agr S M N 127 [.ref 0, .int x1, .int x2, .int x3, .int x4, .int x5, .null, .null] 200 [.ref 0, .int x1, .int x2, .int x3, .int x4, .int x5, .null, .null, .null, .null, .null, .null, .null, .null, .null, .null] := by
  have h8 := W.2.1.1.2.2.1
  have h5 := W.2.1.1.2.2.2
  obtain ⟨cn0, cn1, cn2⟩ := C.n
  obtain ⟨rn0, rn1, rn2⟩ := R.n
  have l0 : S 0 0 < 2 ^ 31 := by have := W.2.1.1.2.1; omega
  have l1 : S 0 1 < 2 ^ 31 := by omega
  have l2 : S 0 2 < 2 ^ 31 := by omega
  cases hx : xbw x1 0 (9999 + 1) <;> cases hn : xbw x2 1 (99 + 1) <;> cases hd : xok x3 (S 0 1) <;> cases he : xok x4 2 <;> cases hw : xbw x5 0 (1 + 1)
  all_goals try (refine Agr.same W (-1) ?_ ?_ <;> (simp (disch := first | decide | omega) only [s127, j127, cWi, c133 l1 cn1, s200, j200, r135w, r140 l1 rn1, r142, hx, hn, hd, he, hw, xpush_s, Bool.false_eq_true, if_true, if_false, i12, i00, Bool.and_true, Bool.and_false, Bool.true_and, Bool.false_and]; exact ⟨trivial, by first | exact C | exact R⟩))
  obtain ⟨z, -, hz, rfl⟩ := xbw_nI hx (by decide)
  obtain ⟨n, n1, n2, rfl⟩ := xbw_nI hn (by decide)
  obtain ⟨d, d1, rfl⟩ := xok_nI hd l1
  obtain ⟨e, e1, rfl⟩ := xok_nI he (by decide)
  obtain ⟨w, -, w1, rfl⟩ := xbw_nI hw (by decide)
  have lp := xSP_le W.2.1 (xw (S 0) d e) (xg (S 0) d e) (xg (S 0) d (1 - e))
  have lq := xSQ_le W.2.1 (xw (S 0) d e) (xg (S 0) d e) (xg (S 0) d (1 - e))
  obtain ⟨-, -, -, hw2, -, -, -, -⟩ := W.2.1.2.1 d d1
  have hu : xw (S 0) d e < 3 := xwt_lt _ _
  refine Agr.same W (nI (if w = 0 then xdwr (xw (S 0) d e) n (xdcn z (1 + xSP (S 0) (xw (S 0) d e) (xg (S 0) d e) (xg (S 0) d (1 - e))) (1 + xSQ (S 0) (xw (S 0) d e) (xg (S 0) d e) (xg (S 0) d (1 - e))) 0 n) else xdpl (xw (S 0) d e) n (xdcn z (1 + xSP (S 0) (xw (S 0) d e) (xg (S 0) d e) (xg (S 0) d (1 - e))) (1 + xSQ (S 0) (xw (S 0) d e) (xg (S 0) d e) (xg (S 0) d (1 - e))) 0 n))) ?_ ?_
  · simp (disch := first | decide | omega) only [s127, cWi, c133 l1 cn1, hx, hn, hd, he, hw, Bool.and_true, xpush_s, xpush_n, if_true, if_false, i12, c44_33 C.2.1 W.2.1 d1 e1]
    have C1 : RC S (xsc 33 (1 + xSP (S 0) (xw (S 0) d e) (xg (S 0) d e) (xg (S 0) d (1 - e))) (1 + xSQ (S 0) (xw (S 0) d e) (xg (S 0) d e) (xg (S 0) d (1 - e))) M) := C.fr (cfr.x xsc_fr (by decide))
    refine c127k (by omega) (by omega) (by omega) (by omega) (by omega) (xsc_0 _ _ _ _) (xsc_1 _ _ _ _) ?_
    have cl := xdcn_le z (1 + xSP (S 0) (xw (S 0) d e) (xg (S 0) d e) (xg (S 0) d (1 - e))) (1 + xSQ (S 0) (xw (S 0) d e) (xg (S 0) d e) (xg (S 0) d (1 - e))) n 0
    generalize xdcn z (1 + xSP (S 0) (xw (S 0) d e) (xg (S 0) d e) (xg (S 0) d (1 - e))) (1 + xSQ (S 0) (xw (S 0) d e) (xg (S 0) d e) (xg (S 0) d (1 - e))) 0 n = c at *
    generalize xsc 33 (1 + xSP (S 0) (xw (S 0) d e) (xg (S 0) d e) (xg (S 0) d (1 - e))) (1 + xSQ (S 0) (xw (S 0) d e) (xg (S 0) d e) (xg (S 0) d (1 - e))) M = M1 at *
    have m3 : M1 10 (d * 6 + 2) = nI (S 0 (3 + (d * 6 + 2))) := C1.2.1.2.1 _ (by omega)
    have m4 : xwi (nI (S 0 (3 + (d * 6 + 2)))) (nI e) = nI (xw (S 0) d e) := xwi_nI (by omega) (by omega)
    rcases (show w = 0 ∨ w = 1 by omega) with v | v
    · subst v
      rcases (show xw (S 0) d e = 0 ∨ xw (S 0) d e = 1 ∨ xw (S 0) d e = 2 by omega) with v | v | v <;>
      · rw [v] at m4
        simp (disch := first | decide | omega) only [s127, j127, c37, m3, m4, v, xpush_s, nI_eq_t, nI_eq_f, if_true, if_false, i00, i12, pk_sub, h127_147, h127_124]
        exact ⟨rfl, C1⟩
    · subst v
      rcases (show xw (S 0) d e = 0 ∨ xw (S 0) d e = 1 ∨ xw (S 0) d e = 2 by omega) with v | v | v <;>
      · rw [v] at m4
        simp (disch := first | decide | omega) only [s127, j127, c37, m3, m4, v, xpush_s, nI_eq_t, nI_eq_f, if_true, if_false, i00, i12, pk_sub, h127_147, h127_124]
        exact ⟨rfl, C1⟩
  · simp (disch := first | decide | omega) only [s200, r135w, r140 l1 rn1, r142, hx, hn, hd, he, hw, xpush_s, if_true, if_false, i12]
    refine r164s R.2.1 W.2.1 d1 e1 (fun N1 f a b => ?_)
    simp (disch := first | decide | omega) only [s200, xpush_s, xpush_n, r161 (R.2.1.fr (rfr.hand f)) W.2.1 d1 e1]
    refine r200k (by omega) (by omega) hu (by omega) (by omega) (by omega) a b (fun _ _ _ _ _ _ => ?_)
    rcases (show w = 0 ∨ w = 1 by omega) with v | v
    · subst v
      simp (disch := first | decide | omega) only [s200, j200, i00, if_true]
      exact ⟨by trivial, R.fr (rfr.hand f)⟩
    · subst v
      simp (disch := first | decide | omega) only [s200, j200, i12, if_false]
      exact ⟨by trivial, R.fr (rfr.hand f)⟩
end C38
