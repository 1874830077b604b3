/-! the way on which one is wrong least: alike -/
def xfs (p : Nat × Nat) : Int32 := if p.1 = 1000000 then -4 else nI p.2
section C51
variable {M N : xM} {Q : Option Value → xM → Prop} {S S1 : xA} {h h' : Nat → Nat}
theorem xch_2 (h : Nat → Nat) (i : Nat) (V : Nat → Nat) (rm la : Nat) : ∀ d, (xch h i V rm la d).2 ≤ d
  | 0 => Nat.le_refl 0
  | d + 1 => by
    have := xch_2 h i V rm la d
    simp only [xch]
    split
    · show d ≤ d + 1
      omega
    · omega
theorem xch_1 (h : Nat → Nat) (i : Nat) (V : Nat → Nat) (rm la : Nat) : ∀ d, (xch h i V rm la d).1 ≤ 1000000
  | 0 => Nat.le_refl _
  | d + 1 => by
    have := xch_1 h i V rm la d
    simp only [xch]
    split
    · show xpr h i (2 * d + xse h d rm) la + V (xto h (2 * d + xse h d rm)) ≤ 1000000
      omega
    · omega
/-- all rooms and last wants, one door more -/
theorem r184k {i r w rm la n : Nat} {V : Nat → Nat} (R : rH 1 h N) (W : xWF h) (hi : i < h 2) (hr : r < 8) (hV : ∀ c, V c ≤ 1000000 ∧ (V c < 1000000 → V c ≤ 10500)) (hQ : ∀ (N' : xM) (a8 a9 a10 : Value), rfa N N' → N' 1 = N 1 → (∀ c, c < 32 → N' 10 c = xvi (xvp h i r V c (2 * h 1))) → xW xSR 184 142 [.ref 0, .int (nI i), .int (nI r), .int (nI w), .int (nI rm), .int (nI la), .int (nI n), .int (nI 32), a8, a9, a10] [] N' Q) : ∀ (m k : Nat) (N1 : xM) (a8 a9 a10 : Value), k + m = 32 → rfa N N1 → N1 1 = N 1 → (∀ c, c < 32 → N1 9 c = xvi (V c)) → (∀ c, c < k → N1 10 c = xvi (xvp h i r V c (2 * h 1))) → xW xSR 184 142 [.ref 0, .int (nI i), .int (nI r), .int (nI w), .int (nI rm), .int (nI la), .int (nI n), .int (nI k), a8, a9, a10] [] N1 Q := by
  intro m
  induction m with
  | zero =>
    intro k N1 a8 a9 a10 hk f e1 V9 V10
    have hk : k = 32 := hk
    rw [hk] at V10 ⊢
    exact hQ N1 a8 a9 a10 f e1 V10
  | succ m ih =>
    intro k N1 a8 a9 a10 hk f e1 V9 V10
    have R1 : rH 1 h N1 := R.mono e1
    have nxt := r184d (Q := Q) (N := N1) (r := r) (w := w) (rm := rm) (la := la) (n := n) (k := k) (V := V) R1 W hi (by omega) V9 hV (fun N2 a9 a10 g => by
      rw [h184_245]
      simp (disch := first | decide | omega) only [s184, nI_add]
      refine ih (k + 1) _ _ _ _ (by omega) (f.tr (g.fa.tr ⟨fun a q => xup_other (by omega), fun j _ => xup_o (by decide)⟩)) (by rw [xup_other (by decide), g.1 1 (by decide) (by decide) (by decide) (by decide), e1]) (fun c hc => by rw [xup_o (by decide), g.1 9 (by decide) (by decide) (by decide) (by decide)]; exact V9 c hc) (fun c hc => ?_)
      by_cases z : c = k
      · rw [z, xup_rs]
      · rw [xup_r z, g.1 10 (by decide) (by decide) (by decide) (by decide)]
        exact V10 c (by omega)) (h 1) 0 N1
    rw [h184_142]
    by_cases z : k / 4 = r
    · have e0 : xvi (xvp h i r V k (2 * 0)) = nI 0 := by
        show xvi (xbas r k) = nI 0
        unfold xbas
        rw [if_pos z]; rfl
      rw [e0] at nxt
      simp (disch := first | decide | omega) only [s184, nI_lt_t, if_true, pk_div, nI_eq_t, h184_162]
      exact nxt _ (by omega) rfr.rf
    · have e0 : xvi (xvp h i r V k (2 * 0)) = -1 := by
        show xvi (xbas r k) = -1
        unfold xbas
        rw [if_neg z]; rfl
      rw [e0] at nxt
      simp (disch := first | decide | omega) only [s184, nI_lt_t, if_true, pk_div, nI_eq_f, if_false, h184_162]
      exact nxt _ (by omega) rfr.rf
theorem r184c {i r w rm la n : Nat} {U : Nat → Int32} (hQ : ∀ (N' : xM) (a8 a9 a10 : Value), rfa N N' → N' 1 = N 1 → (∀ c, c < 32 → N' 9 c = U c) → xW xSR 184 132 [.ref 0, .int (nI i), .int (nI r), .int (nI w), .int (nI rm), .int (nI la), .int (nI (n + 1)), .int (nI 32), a8, a9, a10] [] N' Q) : ∀ (m k : Nat) (N1 : xM) (a8 a9 a10 : Value), k + m = 32 → rfa N N1 → N1 1 = N 1 → (∀ c, c < 32 → N1 10 c = U c) → (∀ c, c < k → N1 9 c = U c) → xW xSR 184 263 [.ref 0, .int (nI i), .int (nI r), .int (nI w), .int (nI rm), .int (nI la), .int (nI n), .int (nI k), a8, a9, a10] [] N1 Q := by
  intro m
  induction m with
  | zero =>
    intro k N1 a8 a9 a10 hk f e1 V10 V9
    have hk : k = 32 := hk
    rw [h184_263]
    rw [hk] at V9 ⊢
    simp (disch := first | decide | omega) only [s184, nI_lt_f, if_false, nI_add]
    exact hQ N1 a8 a9 a10 f e1 V9
  | succ m ih =>
    intro k N1 a8 a9 a10 hk f e1 V10 V9
    have m10 := V10 k (by omega)
    rw [h184_263]
    simp (disch := first | decide | omega) only [s184, nI_lt_t, if_true, m10, nI_add]
    refine ih (k + 1) _ _ _ _ (by omega) (f.tr ⟨fun a q => xup_other (by omega), fun j _ => xup_o (by decide)⟩) (by rw [xup_other (by decide), e1]) (fun c hc => by rw [xup_o (by decide)]; exact V10 c hc) (fun c hc => ?_)
    by_cases z : c = k
    · rw [z, xup_rs]
    · rw [xup_r z]
      exact V9 c (by omega)
/-- the first door -/
theorem r184f {i r w rm la : Nat} {V : Nat → Nat} (R : rH 1 h N) (W : xWF h) (hi : i < h 2) (hw : w ≤ 1) (hrm : rm < h 0) (hl : la ≤ 3) (V9 : ∀ c, c < 32 → N 9 c = xvi (V c)) (hV : ∀ c, V c ≤ 1000000 ∧ (V c < 1000000 → V c ≤ 10500)) (hQ : ∀ N', rfr N N' → Q (some (.int (if (xch h i V rm la (h 1)).1 = 1000000 then -4 else if w = 0 then nI (xch h i V rm la (h 1)).1 else nI (xch h i V rm la (h 1)).2))) N') : ∀ (m d : Nat) (N1 : xM) (a9 a10 : Value), d + m = h 1 → rfr N N1 → xW xSR 184 306 [.ref 0, .int (nI i), .int (nI r), .int (nI w), .int (nI rm), .int (nI la), .int (xvi (xch h i V rm la d).1), .int (xfs (xch h i V rm la d)), .int (nI d), a9, a10] [] N1 Q := by
  have h8 := W.1.2.2.1
  have h5 := W.1.2.2.2
  have h00 := W.1.2.1
  have n1 : ((-1 : Int32) < nI 0) = True := by decide
  intro m
  induction m with
  | zero =>
    intro d N1 a9 a10 hd f
    have hd : d = h 1 := hd
    have m1 : N1 1 1 = nI (h 1) := (R.fr f).at _ rfl (by omega) (by omega)
    have hQ := hQ N1 f
    have b1 := xch_1 h i V rm la (h 1)
    rw [h184_306]
    rw [hd]
    unfold xfs
    by_cases y : (xch h i V rm la (h 1)).1 = 1000000
    · rw [if_pos y] at hQ ⊢
      rw [y, xvi_n]
      simp (disch := first | decide | omega) only [s184, m1, nI_lt_f, if_false, n1, if_true, h184_409]
      exact hQ
    · rw [if_neg y] at hQ ⊢
      rw [xvi_v y]
      rcases (show w = 0 ∨ w = 1 by omega) with z | z
      · subst z
        simp (disch := first | decide | omega) only [s184, m1, nI_lt_f, if_false, nI_nneg, i00, if_true, h184_409]
        exact hQ
      · subst z
        simp (disch := first | decide | omega) only [s184, m1, nI_lt_f, if_false, nI_nneg, i12, h184_409]
        exact hQ
  | succ m ih =>
    intro d N1 a9 a10 hd f
    have R1 := R.fr f
    have m1 : N1 1 1 = nI (h 1) := R1.at _ rfl (by omega) (by omega)
    have b1 := xch_1 h i V rm la d
    have b2 := xch_2 h i V rm la d
    have se2 := xse_le h d rm
    have pb := xpr_le W (show i < 5 by omega) (s := 2 * d + xse h d rm) (l := la)
    have vb := hV (xto h (2 * d + xse h d rm))
    rw [h184_306]
    simp (disch := first | decide | omega) only [s184, m1, nI_lt_t, if_true]
    refine r183 R1 W hi (by omega) (by omega) hl (fun c hc => by rw [f.1 9 (by decide) (by decide) (by decide) (by decide)]; exact V9 c hc) hV (fun N2 g => ?_)
    have ih := fun a9 a10 => ih (d + 1) N2 a9 a10 (by omega) (f.tr g)
    have keep : ¬ (xse h d rm < 2 ∧ xcn h i d (xse h d rm) = true ∧ xpr h i (2 * d + xse h d rm) la + V (xto h (2 * d + xse h d rm)) < (xch h i V rm la d).1) → ∀ x : Int32, xW xSR 184 351 [.ref 0, .int (nI i), .int (nI r), .int (nI w), .int (nI rm), .int (nI la), .int (xvi (xch h i V rm la d).1), .int (xfs (xch h i V rm la d)), .int (nI d), .int x, a10] [] N2 Q := fun z x => by
      have e : xch h i V rm la (d + 1) = xch h i V rm la d := by simp only [xch]; rw [if_neg z]
      rw [e] at ih
      simp (disch := first | decide | omega) only [h184_351, s184, h184_352, i00, if_true, h184_366, h184_380, nI_add]
      exact ih _ _
    unfold xow
    cases el : xel h i d rm V with
    | false =>
      simp (disch := first | decide | omega) only [s184, xpush_s, Bool.false_eq_true, if_false, n1, if_true]
      refine keep (fun q => ?_) _
      by_cases u : V (xto h (2 * d + xse h d rm)) < 1000000
      · have : xel h i d rm V = true := decide_eq_true ⟨q.1, q.2.1, u⟩
        rw [el] at this
        exact absurd this (by decide)
      · omega
    | true =>
      have q := of_decide_eq_true el
      have pb := pb (by omega)
      have take : xpr h i (2 * d + xse h d rm) la + V (xto h (2 * d + xse h d rm)) < (xch h i V rm la d).1 → xW xSR 184 347 [.ref 0, .int (nI i), .int (nI r), .int (nI w), .int (nI rm), .int (nI la), .int (xvi (xch h i V rm la d).1), .int (xfs (xch h i V rm la d)), .int (nI d), .int (nI (xpr h i (2 * d + xse h d rm) la + V (xto h (2 * d + xse h d rm)))), a10] [] N2 Q := fun z => by
        have e : xch h i V rm la (d + 1) = (xpr h i (2 * d + xse h d rm) la + V (xto h (2 * d + xse h d rm)), d) := by simp only [xch]; rw [if_pos ⟨q.1, q.2.1, z⟩]
        have e2 : xfs (xpr h i (2 * d + xse h d rm) la + V (xto h (2 * d + xse h d rm)), d) = nI d := by
          unfold xfs
          exact if_neg (show ¬ xpr h i (2 * d + xse h d rm) la + V (xto h (2 * d + xse h d rm)) = 1000000 by omega)
        have e3 : xvi (xpr h i (2 * d + xse h d rm) la + V (xto h (2 * d + xse h d rm)), d).1 = nI (xpr h i (2 * d + xse h d rm) la + V (xto h (2 * d + xse h d rm))) := xvi_v (by show ¬ xpr h i (2 * d + xse h d rm) la + V (xto h (2 * d + xse h d rm)) = 1000000; omega)
        rw [e, e2, e3] at ih
        simp (disch := first | decide | omega) only [h184_347, s184, h184_352, i12, if_false, h184_366, h184_380, nI_add]
        exact ih _ _
      by_cases y : (xch h i V rm la d).1 = 1000000
      · have take := take (by omega)
        rw [y, xvi_n] at take ⊢
        simp (disch := first | decide | omega) only [s184, xpush_s, if_true, nI_nneg, if_false, n1]
        exact take
      · by_cases u : xpr h i (2 * d + xse h d rm) la + V (xto h (2 * d + xse h d rm)) < (xch h i V rm la d).1
        · have take := take u
          rw [xvi_v y] at take ⊢
          simp (disch := first | decide | omega) only [s184, xpush_s, if_true, nI_nneg, if_false, nI_lt_t]
          exact take
        · have keep := keep (fun w => u w.2.2)
          rw [xvi_v y] at keep ⊢
          simp (disch := first | decide | omega) only [s184, xpush_s, if_true, nI_nneg, if_false, nI_lt_f]
          exact keep _
theorem r184m {i r w rm la : Nat} (R : rH 1 h N) (W : xWF h) (hi : i < h 2) (hw : w ≤ 1) (hrm : rm < h 0) (hl : la ≤ 3) (hr : r < 8) (hQ : ∀ N', rfa N N' → N' 1 = N 1 → Q (some (.int (if (xch h i (xvn h i r 7) rm la (h 1)).1 = 1000000 then -4 else if w = 0 then nI (xch h i (xvn h i r 7) rm la (h 1)).1 else nI (xch h i (xvn h i r 7) rm la (h 1)).2))) N') {a7 a8 a9 a10 : Value} : xW xSR 184 96 [.ref 0, .int (nI i), .int (nI r), .int (nI w), .int (nI rm), .int (nI la), .int (nI 0), a7, a8, a9, a10] [] N Q := by
  have h8 := W.1.2.2.1
  have h5 := W.1.2.2.2
  have vb : ∀ n, n ≤ 7 → ∀ c, xvn h i r n c ≤ 1000000 ∧ (xvn h i r n c < 1000000 → xvn h i r n c ≤ 10500) := fun n hn c => by
    have := xvn_b W (r := r) (show i < 5 by omega) n c
    omega
  have rounds : ∀ (m n : Nat) (N1 : xM) (a7 a8 a9 a10 : Value), n + m = 7 → rfa N N1 → N1 1 = N 1 → (∀ c, c < 32 → N1 9 c = xvi (xvn h i r n c)) → xW xSR 184 132 [.ref 0, .int (nI i), .int (nI r), .int (nI w), .int (nI rm), .int (nI la), .int (nI n), a7, a8, a9, a10] [] N1 Q := by
    intro m
    induction m with
    | zero =>
      intro n N1 a7 a8 a9 a10 hn f e1 V9
      have hn : n = 7 := hn
      subst hn
      rw [h184_132]
      simp (disch := first | decide | omega) only [s184, nI_lt_f, if_false]
      exact r184f (R.mono e1) W hi hw hrm hl V9 (vb 7 (by omega)) (fun N' g => hQ N' (f.tr g.fa) (by rw [g.1 1 (by decide) (by decide) (by decide) (by decide), e1])) (h 1) 0 N1 _ _ (by omega) rfr.rf
    | succ m ih =>
      intro n N1 a7 a8 a9 a10 hn f e1 V9
      rw [h184_132]
      simp (disch := first | decide | omega) only [s184, nI_lt_t, if_true]
      refine r184k (R.mono e1) W hi hr (vb n (by omega)) (fun N2 b8 b9 b10 g e2 V10 => ?_) 32 0 N1 _ _ _ (by omega) (rfr.fa rfr.rf) rfl V9 (fun c hc => absurd hc (by omega))
      rw [h184_142]
      simp (disch := first | decide | omega) only [s184, nI_lt_f, if_false]
      exact r184c (U := fun c => xvi (xvp h i r (xvn h i r n) c (2 * h 1))) (fun N3 c8 c9 c10 g3 e3 U9 => ih (n + 1) N3 _ _ _ _ (by omega) (f.tr (g.tr g3)) (by rw [e3, e2, e1]) U9) 32 0 N2 _ _ _ (by omega) (rfr.fa rfr.rf) rfl V10 (fun c hc => absurd hc (by omega))
  have init : ∀ (m k : Nat) (N1 : xM) (a7 a8 a9 a10 : Value), k + m = 32 → rfa N N1 → N1 1 = N 1 → (∀ c, c < k → N1 9 c = xvi (xbas r c)) → xW xSR 184 96 [.ref 0, .int (nI i), .int (nI r), .int (nI w), .int (nI rm), .int (nI la), .int (nI k), a7, a8, a9, a10] [] N1 Q := by
    intro m
    induction m with
    | zero =>
      intro k N1 a7 a8 a9 a10 hk f e1 V9
      have hk : k = 32 := hk
      rw [hk] at V9 ⊢
      rw [h184_96]
      simp (disch := first | decide | omega) only [s184, nI_lt_f, if_false]
      exact rounds 7 0 N1 _ _ _ _ (by omega) f e1 V9
    | succ m ih =>
      intro k N1 a7 a8 a9 a10 hk f e1 V9
      have st : ∀ x : Int32, x = xvi (xbas r k) → ∀ a7 a8 a9 a10, xW xSR 184 96 [.ref 0, .int (nI i), .int (nI r), .int (nI w), .int (nI rm), .int (nI la), .int (nI (k + 1)), a7, a8, a9, a10] [] (xup N1 9 k x) Q := fun x ex a7 a8 a9 a10 => by
        refine ih (k + 1) _ _ _ _ _ (by omega) (f.tr ⟨fun a q => xup_other (by omega), fun j _ => xup_o (by decide)⟩) (by rw [xup_other (by decide), e1]) (fun c hc => ?_)
        by_cases z : c = k
        · rw [z, xup_rs, ex]
        · rw [xup_r z]
          exact V9 c (by omega)
      rw [h184_96]
      by_cases z : k / 4 = r
      · have e0 : nI 0 = xvi (xbas r k) := by
          unfold xbas
          rw [if_pos z]; rfl
        simp (disch := first | decide | omega) only [s184, nI_lt_t, if_true, pk_div, nI_eq_t, h184_122, nI_add]
        exact st _ e0 _ _ _ _
      · have e0 : -1 = xvi (xbas r k) := by
          unfold xbas
          rw [if_neg z]; rfl
        simp (disch := first | decide | omega) only [s184, nI_lt_t, if_true, pk_div, nI_eq_f, if_false, h184_122, nI_add]
        exact st _ e0 _ _ _ _
  exact init 32 0 N _ _ _ _ (by omega) (rfr.fa rfr.rf) rfl (fun c hc => absurd hc (by omega))
theorem A_way (C : RC S M) (R : RR S N) (W : WA S) (x1 x2 x3 : Int32) : Agr S M N 114 [.ref 0, .int x1, .int x2, .int x3] 184 [.ref 0, .int x1, .int x2, .int x3, .null, .null, .null, .null, .null, .null, .null] := by
  have h8 := W.2.1.1.2.2.1
  have h5 := W.2.1.1.2.2.2
  obtain ⟨cn0, cn1, cn2⟩ := C.n
  obtain ⟨rn0, rn1, rn2⟩ := R.n
  have l0 : S 0 0 < 2 ^ 31 := by have := W.2.1.1.2.1; omega
  have l1 : S 0 1 < 2 ^ 31 := by omega
  have l2 : S 0 2 < 2 ^ 31 := by omega
  cases hi : xok x1 (S 0 2) <;> cases hr : xok x2 (S 0 0) <;> cases hw : xbw x3 0 (1 + 1)
  all_goals try (refine Agr.same W (-1) ?_ ?_ <;> (simp (disch := first | decide | omega) only [s114, h114_31, cWi, c25r l2 cn2, c23r l0 cn0, s184, h184_26, r135w, r141 l2 rn2, r139 l0 rn0, hi, hr, hw, xpush_s, Bool.false_eq_true, if_true, if_false, i12, i00, Bool.and_true, Bool.and_false, Bool.true_and, Bool.false_and]; exact ⟨trivial, by first | exact C | exact R⟩))
  obtain ⟨i, i1, rfl⟩ := xok_nI hi l2
  obtain ⟨r, r1, rfl⟩ := xok_nI hr l0
  obtain ⟨w, -, w1, rfl⟩ := xbw_nI hw (by decide)
  have h00 := W.2.1.1.2.1
  obtain ⟨q1, q2, q3⟩ := W.2.1.2.2.1 i i1
  have q1 : xRm2 (S 0) i < S 0 0 := q1
  have q3 : xLa (S 0) i ≤ 3 := q3
  have b0 : N 1 (51 + 3 * i) = nI (xRm2 (S 0) i) := R.2.1.at _ (by omega) (by omega) (by omega)
  have b2 := R.2.1.la (show i < 5 by omega)
  have n1 : ((-1 : Int32) < nI 0) = True := by decide
  have n4 : ((-4 : Int32) < nI 0) = True := by decide
  have m0 : ∀ M' : xM, cK (xRm2 (S 0) i) (xTr (S 0) i) (xLa (S 0) i) (xTi (S 0) i) M' → M' 31 0 = nI (xRm2 (S 0) i) := fun M' K => K.1
  by_cases z : xRm2 (S 0) i = r
  · refine Agr.same W (if w = 0 then nI 0 else -4) ?_ ?_
    · simp (disch := first | decide | omega) only [s114, c25r l2 cn2, c23r l0 cn0, cWi, hi, hr, hw, xpush_s, if_true, if_false, i12]
      refine c85 C.2.1 W.2.1 i1 (fun M1 f K => ?_)
      have C1 := C.fr (cfr.x f (by decide))
      have z' := m0 M1 K
      rcases (show w = 0 ∨ w = 1 by omega) with y | y
      · subst y
        simp (disch := first | decide | omega) only [s114, xpush_n, z', nI_eq_t, i00, if_true, h114_66]
        exact ⟨by trivial, C1⟩
      · subst y
        simp (disch := first | decide | omega) only [s114, xpush_n, z', nI_eq_t, if_true, i12, if_false, h114_66]
        exact ⟨by trivial, C1⟩
    · rcases (show xLa (S 0) i = 3 ∨ xLa (S 0) i < 3 by omega) with v | v
      · rw [show rli (xLa (S 0) i) = -4 by rw [v]; rfl] at b2
        rcases (show w = 0 ∨ w = 1 by omega) with y | y
        · subst y
          simp (disch := first | decide | omega) only [s184, r141 l2 rn2, r139 l0 rn0, r135w, hi, hr, hw, xpush_s, if_true, if_false, i12, pk_mul, nI_add, b0, b2, n4, h184_74, nI_eq_t, i00, h184_92]
          exact ⟨by trivial, R⟩
        · subst y
          simp (disch := first | decide | omega) only [s184, r141 l2 rn2, r139 l0 rn0, r135w, hi, hr, hw, xpush_s, if_true, if_false, i12, pk_mul, nI_add, b0, b2, n4, h184_74, nI_eq_t, i00, h184_92]
          exact ⟨by trivial, R⟩
      · rw [show rli (xLa (S 0) i) = nI (xLa (S 0) i) by unfold rli; rw [if_neg (by omega)]] at b2
        rcases (show w = 0 ∨ w = 1 by omega) with y | y
        · subst y
          simp (disch := first | decide | omega) only [s184, r141 l2 rn2, r139 l0 rn0, r135w, hi, hr, hw, xpush_s, if_true, if_false, i12, pk_mul, nI_add, b0, b2, nI_nneg, h184_74, nI_eq_t, i00, h184_92]
          exact ⟨by trivial, R⟩
        · subst y
          simp (disch := first | decide | omega) only [s184, r141 l2 rn2, r139 l0 rn0, r135w, hi, hr, hw, xpush_s, if_true, if_false, i12, pk_mul, nI_add, b0, b2, nI_nneg, h184_74, nI_eq_t, i00, h184_92]
          exact ⟨by trivial, R⟩
  · refine Agr.same W (if (xch (S 0) i (xvn (S 0) i r 7) (xRm2 (S 0) i) (xLa (S 0) i) (S 0 1)).1 = 1000000 then -4 else if w = 0 then nI (xch (S 0) i (xvn (S 0) i r 7) (xRm2 (S 0) i) (xLa (S 0) i) (S 0 1)).1 else nI (xch (S 0) i (xvn (S 0) i r 7) (xRm2 (S 0) i) (xLa (S 0) i) (S 0 1)).2) ?_ ?_
    · simp (disch := first | decide | omega) only [s114, c25r l2 cn2, c23r l0 cn0, cWi, hi, hr, hw, xpush_s, if_true, if_false, i12]
      refine c85 C.2.1 W.2.1 i1 (fun M1 f K => ?_)
      have z' := m0 M1 K
      simp (disch := first | decide | omega) only [s114, xpush_n, z', nI_eq_f, if_false]
      refine c91 (C.2.1.fr f (by omega)) W.2.1 i1 K q3 (fun Ma fa _ Ka Pa => ?_)
      have f' : xfr 31 38 M Ma := fun c q => (fa c (by omega)).trans (f c (by omega))
      simp (disch := first | decide | omega) only [s114, xpush_n]
      refine c90 (C.2.1.fr f' (by omega)) W.2.1 i1 Ka q1 q3 (by omega) Pa (fun M2 g a b => ?_)
      have C1 := C.fr (cfr.x (fun c q => (g c (by omega)).trans (f' c (by omega)) : xfr 31 38 M M2) (by decide))
      have y2 := xch_2 (S 0) i (xvn (S 0) i r 7) (xRm2 (S 0) i) (xLa (S 0) i) (S 0 1)
      by_cases y : (xch (S 0) i (xvn (S 0) i r 7) (xRm2 (S 0) i) (xLa (S 0) i) (S 0 1)).1 = 1000000
      · rw [if_pos y] at b ⊢
        simp (disch := first | decide | omega) only [s114, xpush_n, b, n1, if_true]
        exact ⟨by trivial, C1⟩
      · rw [if_neg y] at b ⊢
        rcases (show w = 0 ∨ w = 1 by omega) with v | v
        · subst v
          simp (disch := first | decide | omega) only [s114, xpush_n, b, nI_nneg, if_false, i00, if_true, a, h114_132]
          exact ⟨by trivial, C1⟩
        · subst v
          simp (disch := first | decide | omega) only [s114, xpush_n, b, nI_nneg, if_false, i12, h114_132]
          exact ⟨by trivial, C1⟩
    · have fin := r184m (Q := fun r' N' => r' = some (.int (if (xch (S 0) i (xvn (S 0) i r 7) (xRm2 (S 0) i) (xLa (S 0) i) (S 0 1)).1 = 1000000 then -4 else if w = 0 then nI (xch (S 0) i (xvn (S 0) i r 7) (xRm2 (S 0) i) (xLa (S 0) i) (S 0 1)).1 else nI (xch (S 0) i (xvn (S 0) i r 7) (xRm2 (S 0) i) (xLa (S 0) i) (S 0 1)).2)) ∧ RR S N') (w := w) (a7 := .null) (a8 := .null) (a9 := .null) (a10 := .null) R.2.1 W.2.1 i1 (by omega) q1 q3 (show r < 8 by omega) (fun N' f e => ⟨rfl, R.fra f (R.2.1.mono e)⟩)
      rcases (show xLa (S 0) i = 3 ∨ xLa (S 0) i < 3 by omega) with v | v
      · rw [show rli (xLa (S 0) i) = -4 by rw [v]; rfl] at b2
        have e3 : nI 3 = nI (xLa (S 0) i) := by rw [v]
        simp (disch := first | decide | omega) only [s184, r141 l2 rn2, r139 l0 rn0, r135w, hi, hr, hw, xpush_s, if_true, if_false, i12, pk_mul, nI_add, b0, b2, n4, h184_74, nI_eq_f]
        have e3 : xLa (S 0) i = 3 := v
        rw [e3] at fin ⊢
        exact fin
      · rw [show rli (xLa (S 0) i) = nI (xLa (S 0) i) by unfold rli; rw [if_neg (by omega)]] at b2
        simp (disch := first | decide | omega) only [s184, r141 l2 rn2, r139 l0 rn0, r135w, hi, hr, hw, xpush_s, if_true, if_false, i12, pk_mul, nI_add, b0, b2, nI_nneg, h184_74, nI_eq_f]
        exact fin
end C51
