/-! the reference: which strength of a grip fits the films -/
section C40
variable {M N : xM} {Q : Option Value → xM → Prop} {S S1 : xA} {h h' : Nat → Nat}
theorem r199f {g t : Nat} {w was c f : Int32} (R : RR S N) (W : WA S) (hg : g ≤ 20) (ht : t ≤ 99) : ∀ (n k : Nat) (acc : Bool) (N1 : xM) (x9 : Value), k + n = S 2 2 → rfa N N1 → rH 1 (hset (S 0) 146 g) N1 → (∀ (x9 : Value) (N2 : xM) (k' : Nat), rfa N N2 → rH 1 (hset (S 0) 146 g) N2 → xW xSR 199 185 [.ref 0, .int (nI t), .int w, .int was, .int c, .int f, .int (nI g), .int (if (acc && xfit S g t k n) = true then nI 1 else nI 0), .int (nI k'), x9] [] N2 Q) → xW xSR 199 66 [.ref 0, .int (nI t), .int w, .int was, .int c, .int f, .int (nI g), .int (if acc = true then nI 1 else nI 0), .int (nI k), x9] [] N1 Q := by
  have f8 := W.2.2.2.1.1
  have h8 := W.2.1.1.2.2.1
  have Wg := W.2.1.grip hg
  intro n
  induction n with
  | zero =>
    intro k acc N1 x9 hk fa Rg hQ
    have z : N1 0 16 = nI (S 2 2) := by rw [fa.2 16 (by omega)]; exact R.2.2.2.1.1
    have hQ := hQ x9 N1 k fa Rg
    rw [show (acc && xfit S g t k 0) = acc from Bool.and_true acc] at hQ
    rw [h199_66]
    cases acc <;> simp (disch := first | decide | omega) only [s199, z, nI_lt_f, if_false, if_true, Bool.false_eq_true] at hQ ⊢ <;> exact hQ
  | succ n ih =>
    intro k acc N1 x9 hk fa Rg hQ
    have z : N1 0 16 = nI (S 2 2) := by rw [fa.2 16 (by omega)]; exact R.2.2.2.1.1
    obtain ⟨a1, a2, a3, a4⟩ := R.2.2.2.1.2 k (by omega)
    obtain ⟨w1, w2, w3, w4, w5⟩ := W.2.2.2.1.2 k (by omega)
    have b1 : N1 11 (4 * k) = nI (S 4 k) := by rw [fa.1 11 (by omega)]; exact a1
    have b2 : N1 11 (4 * k + 1) = nI (S 5 k) := by rw [fa.1 11 (by omega)]; exact a2
    have lb : S 6 k * 100 / S 7 k ≤ 100 := Nat.div_le_of_le_mul (by omega)
    have la := xfo_le W.2.1 hg (S 4 k) (S 5 k)
    have eb : 100 * S 6 k / S 7 k = S 6 k * 100 / S 7 k := by rw [Nat.mul_comm]
    have e1 : hset (S 0) 146 g 1 = S 0 1 := by unfold hset; rw [if_neg (by decide)]
    have ew : xw (hset (S 0) 146 g) (S 4 k) (S 5 k) = xw (S 0) (S 4 k) (S 5 k) := by unfold xw hset; rw [if_neg (by omega)]
    have eg : ∀ e, e < 2 → xg (hset (S 0) 146 g) (S 4 k) e = xg (S 0) (S 4 k) e := fun e he => by unfold xg hset; rw [if_neg (by omega)]
    have wp := xSP_le Wg (xw (S 0) (S 4 k) (S 5 k)) (xg (S 0) (S 4 k) (S 5 k)) (xg (S 0) (S 4 k) (1 - S 5 k))
    have wq := xSQ_le Wg (xw (S 0) (S 4 k) (S 5 k)) (xg (S 0) (S 4 k) (S 5 k)) (xg (S 0) (S 4 k) (1 - S 5 k))
    rw [h199_66]
    simp (disch := first | decide | omega) only [s199, z, nI_lt_t, if_true, pk_mul, nI_add, b1, b2]
    refine r164s Rg Wg (by omega) w2 (fun N2 f2 a b => ?_)
    rw [ew, eg _ w2, eg _ (by omega)] at a b
    have c3 : N2 11 (4 * k + 2) = nI (S 6 k) := by rw [f2 11 (by omega), fa.1 11 (by omega)]; exact a3
    have c4 : N2 11 (4 * k + 3) = nI (S 7 k) := by rw [f2 11 (by omega), fa.1 11 (by omega)]; exact a4
    have vx : 100 * (1 + xSQ (hset (S 0) 146 g) (xw (S 0) (S 4 k) (S 5 k)) (xg (S 0) (S 4 k) (S 5 k)) (xg (S 0) (S 4 k) (1 - S 5 k))) / (1 + xSP (hset (S 0) 146 g) (xw (S 0) (S 4 k) (S 5 k)) (xg (S 0) (S 4 k) (S 5 k)) (xg (S 0) (S 4 k) (1 - S 5 k)) + (1 + xSQ (hset (S 0) 146 g) (xw (S 0) (S 4 k) (S 5 k)) (xg (S 0) (S 4 k) (S 5 k)) (xg (S 0) (S 4 k) (1 - S 5 k)))) = xfo (S 0) g (S 4 k) (S 5 k) := by unfold xfo; rw [Nat.mul_comm 100]
    have fa2 : rfa N N2 := fa.tr (rfr.hand f2).fa
    have Rg2 := Rg.fr (rfr.hand f2)
    have IH := fun acc' x9' => ih (k + 1) acc' N2 x9' (by omega) fa2 Rg2
    simp (disch := first | decide | omega) only [s199, xpush_n, a, b, pk_mul, nI_add, pk_div, vx, c3, c4, eb]
    cases acc with
    | false =>
      have IH := IH false
      simp (disch := first | decide | omega) only [Bool.false_and, Bool.false_eq_true, if_false] at IH hQ ⊢
      simp (disch := first | decide | omega) only [s199, i00, if_true, h199_176, h199_177, nI_add]
      exact IH _ hQ
    | true =>
      simp (disch := first | decide | omega) only [Bool.true_and, if_true] at hQ ⊢
      simp (disch := first | decide | omega) only [s199, i12, if_false, ft1, ft3]
      by_cases z1 : S 6 k * 100 / S 7 k + t < xfo (S 0) g (S 4 k) (S 5 k)
      · have zb : xfb S g t k = false := by unfold xfb; exact decide_eq_false (by omega)
        have IH := IH false
        simp (disch := first | decide | omega) only [xfit, zb, Bool.false_and, Bool.false_eq_true, if_false] at IH hQ
        simp (disch := first | decide | omega) only [s199, z1, if_true, h199_176, h199_177, nI_add]
        exact IH _ hQ
      · by_cases z2 : xfo (S 0) g (S 4 k) (S 5 k) + t < S 6 k * 100 / S 7 k
        · have zb : xfb S g t k = false := by unfold xfb; exact decide_eq_false (by omega)
          have IH := IH false
          simp (disch := first | decide | omega) only [xfit, zb, Bool.false_and, Bool.false_eq_true, if_false] at IH hQ
          simp (disch := first | decide | omega) only [s199, z1, z2, if_true, if_false, h199_176, h199_177, nI_add]
          exact IH _ hQ
        · have zb : xfb S g t k = true := by unfold xfb; exact decide_eq_true (by omega)
          have IH := IH true
          simp (disch := first | decide | omega) only [xfit, zb, Bool.true_and, if_true] at IH hQ
          simp (disch := first | decide | omega) only [s199, z1, z2, if_true, if_false, h199_177, nI_add]
          exact IH _ hQ
theorem r199k {t w : Nat} (R : RR S N) (W : WA S) (ht : t ≤ 99) (hw : w ≤ 1) (hQ : ∀ N', RR S N' → Q (some (.int (if w = 0 then nI (xcnt (fun g => xfit S g t 0 (S 2 2)) 0 21) else xfst (fun g => xfit S g t 0 (S 2 2)) 0 21))) N') {a7 a8 a9 : Value} : xW xSR 199 43 [.ref 0, .int (nI t), .int (nI w), .int (nI (S 0 146)), .int (nI 0), .int (-4), .int (nI 0), a7, a8, a9] [] N Q := by
  have rl : ¬ rla 146 := by unfold rla; omega
  have key : ∀ (m g c : Nat) (f : Int32) (N1 : xM) (g0 : Nat) (a7 a8 a9 : Value), g + m = 21 → c ≤ g → rfa N N1 → rH 1 (hset (S 0) 146 g0) N1 → c + xcnt (fun g => xfit S g t 0 (S 2 2)) g m = xcnt (fun g => xfit S g t 0 (S 2 2)) 0 21 → (c = 0 → f = -4 ∧ xfst (fun g => xfit S g t 0 (S 2 2)) g m = xfst (fun g => xfit S g t 0 (S 2 2)) 0 21) → (c ≠ 0 → f = xfst (fun g => xfit S g t 0 (S 2 2)) 0 21) → xW xSR 199 43 [.ref 0, .int (nI t), .int (nI w), .int (nI (S 0 146)), .int (nI c), .int f, .int (nI g), a7, a8, a9] [] N1 Q := by
    intro m
    induction m with
    | zero =>
      intro g c f N1 g0 a7 a8 a9 hg hc fa Rg q1 q2 q3
      have q1 : c = xcnt (fun g => xfit S g t 0 (S 2 2)) 0 21 := q1
      have q4 : f = xfst (fun g => xfit S g t 0 (S 2 2)) 0 21 := by
        by_cases y : c = 0
        · rw [(q2 y).1, ← (q2 y).2]; rfl
        · exact q3 y
      have Re : rH 1 (S 0) (xup N1 1 146 (nI (S 0 146))) := by
        have := Rg.up (j0 := 146) (v := S 0 146) rl
        rw [hset_hset, hset_self] at this
        exact this
      have Rf := R.fra (fa.tr (rfa.k1 (fun a q => xup_other q))) Re
      rw [h199_43]
      rcases (show w = 0 ∨ w = 1 by omega) with v | v
      · subst v
        simp (disch := first | decide | omega) only [s199, nI_lt_f, if_false, i00, if_true, h199_245]
        rw [q1]
        exact hQ _ Rf
      · subst v
        simp (disch := first | decide | omega) only [s199, nI_lt_f, if_false, i12, h199_245]
        rw [q4]
        exact hQ _ Rf
    | succ m ih =>
      intro g c f N1 g0 a7 a8 a9 hg hc fa Rg q1 q2 q3
      have Rg1 : rH 1 (hset (S 0) 146 g) (xup N1 1 146 (nI g)) := by
        have := Rg.up (j0 := 146) (v := g) rl
        rw [hset_hset] at this
        exact this
      rw [h199_43]
      simp (disch := first | decide | omega) only [s199, nI_lt_t, if_true]
      have F := r199f (Q := Q) (g := g) (t := t) (w := nI w) (was := nI (S 0 146)) (c := nI c) (f := f) R W (by omega) ht (S 2 2) 0 true (xup N1 1 146 (nI g)) a9 (by omega) (fa.tr (rfa.k1 (fun a q => xup_other q))) Rg1
      simp (disch := first | decide | omega) only [if_true, Bool.true_and] at F
      refine F (fun x9 N2 k' fa2 Rg2 => ?_)
      have IH := fun c' f' a7 a8 a9 => ih (g + 1) c' f' N2 g a7 a8 a9 (by omega)
      have q1 : c + ((if xfit S g t 0 (S 2 2) = true then 1 else 0) + xcnt (fun g => xfit S g t 0 (S 2 2)) (g + 1) m) = xcnt (fun g => xfit S g t 0 (S 2 2)) 0 21 := q1
      have q2 : c = 0 → f = -4 ∧ (if xfit S g t 0 (S 2 2) = true then nI g else xfst (fun g => xfit S g t 0 (S 2 2)) (g + 1) m) = xfst (fun g => xfit S g t 0 (S 2 2)) 0 21 := q2
      generalize xcnt (fun g => xfit S g t 0 (S 2 2)) 0 21 = T1 at *
      generalize xfst (fun g => xfit S g t 0 (S 2 2)) 0 21 = T2 at *
      by_cases y : xfit S g t 0 (S 2 2) = true
      · rw [if_pos y] at q1 q2
        by_cases cz : c = 0
        · subst cz
          simp (disch := first | decide | omega) only [s199, y, if_true, i12, if_false, i00, h199_202, h199_216, nI_add]
          exact IH (0 + 1) (nI g) _ _ _ (by omega) fa2 Rg2 (by omega) (fun z => by omega) (fun _ => (q2 rfl).2)
        · simp (disch := first | decide | omega) only [s199, y, if_true, i12, if_false, nI_eq_f, h199_200, h199_202, h199_216, nI_add]
          exact IH (c + 1) f _ _ _ (by omega) fa2 Rg2 (by omega) (fun z => by omega) (fun _ => q3 cz)
      · rw [if_neg y] at q1 q2
        simp (disch := first | decide | omega) only [s199, y, if_false, if_true, i00, h199_200, h199_202, h199_216, nI_add]
        exact IH (c + 0) f _ _ _ (by omega) fa2 Rg2 (by omega) (fun z => q2 z) (fun z => q3 z)
  have H0 : rH 1 (hset (S 0) 146 (S 0 146)) N := by rw [hset_self]; exact R.2.1
  exact key 21 0 0 (-4) N (S 0 146) a7 a8 a9 (by omega) (by omega) (rfr.fa rfr.rf) H0 (by omega) (fun _ => ⟨rfl, rfl⟩) (fun z => absurd rfl z)
theorem A_fits (C : RC S M) (R : RR S N) (W : WA S) (x1 x2 : Int32) : Agr S M N 126 [.ref 0, .int x1, .int x2, .null, .null, .null] 199 [.ref 0, .int x1, .int x2, .null, .null, .null, .null, .null, .null, .null] := by
  have h8 := W.2.1.1.2.2.1
  have h5 := W.2.1.1.2.2.2
  obtain ⟨cn0, cn1, cn2⟩ := C.n
  obtain ⟨rn0, rn1, rn2⟩ := R.n
  have l0 : S 0 0 < 2 ^ 31 := by have := W.2.1.1.2.1; omega
  have l1 : S 0 1 < 2 ^ 31 := by omega
  have l2 : S 0 2 < 2 ^ 31 := by omega
  cases hx : xbw x1 0 (99 + 1) <;> cases hw : xbw x2 0 (1 + 1)
  all_goals try (refine Agr.same W (-1) ?_ ?_ <;> (simp (disch := first | decide | omega) only [s126, j126, cWi, s199, j199, r135w, hx, hw, xpush_s, Bool.false_eq_true, if_true, if_false, i12, i00, Bool.and_true, Bool.and_false, Bool.true_and, Bool.false_and]; exact ⟨trivial, by first | exact C | exact R⟩))
  obtain ⟨t, -, ht, rfl⟩ := xbw_nI hx (by decide)
  obtain ⟨w, -, hw1, rfl⟩ := xbw_nI hw (by decide)
  refine Agr.same W (if w = 0 then nI (xcnt (fun g => xfit S g t 0 (S 2 2)) 0 21) else xfst (fun g => xfit S g t 0 (S 2 2)) 0 21) ?_ ?_
  · simp (disch := first | decide | omega) only [s126, cWi, hx, hw, xpush_s, if_true, if_false, i12]
    exact c126k C W (by omega) (by omega) (fun M' C' => ⟨rfl, C'⟩)
  · have m146 : N 1 146 = nI (S 0 146) := R.2.1.at _ rfl (by omega) (by omega)
    simp (disch := first | decide | omega) only [s199, r135w, hx, hw, xpush_s, if_true, if_false, i12, m146]
    exact r199k R W (by omega) (by omega) (fun N' R' => ⟨rfl, R'⟩)
end C40
