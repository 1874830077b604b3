/-! which doors to hang the other way: the class -/
section C46
variable {M N : xM} {Q : Option Value → xM → Prop} {S S1 : xA} {h h' : Nat → Nat}
theorem xpt_le (W : xWF h) (d o al : Nat) : xpt h d o al ≤ 3000 := by
  have a := xsp_le W (xlv2 h d) (xwt o 0) (xg h d 0 &&& al) (xg h d (1 - 0) &&& al)
  have b := xsp_le W (xlv2 h d) (xwt o 1) (xg h d 1 &&& al) (xg h d (1 - 1) &&& al)
  unfold xpt
  omega
theorem c66 (H : cH 9 h M) (W : xWF h) (hQ : ∀ M', xfr 39 40 M M' → M' 39 1 = nI (xbts (xtn h) (h 1)) → M' 39 2 = nI (xhp h (h 1)) → Q none M') : xW xSC 66 0 [.ref 39, .ref 9, .null, .null, .null, .null] [] M Q := by
  have h8 := W.1.2.2.1
  have key : ∀ (n k : Nat) (M1 : xM) (x3 x4 x5 : Value), k + n = h 1 → xfr 39 40 M M1 → M1 39 1 = nI (xbts (xtn h) k) → M1 39 2 = nI (xhp h k) → xW xSC 66 12 [.ref 39, .ref 9, .int (nI k), x3, x4, x5] [] M1 Q := by
    intro n
    induction n with
    | zero =>
      intro k M1 x3 x4 x5 hk f a b
      have hk : k = h 1 := hk
      have m1 : M1 9 1 = nI (h 1) := (H.fr f (by omega)).1.2.1
      rw [hk] at a b
      rw [h66_12]
      simp (disch := first | decide | omega) only [s66, m1, nI_lt_f, if_false]
      exact hQ M1 f a b
    | succ n ih =>
      intro k M1 x3 x4 x5 hk f a b
      have H1 := H.fr f (by omega)
      have m1 : M1 9 1 = nI (h 1) := H1.1.2.1
      have mo : M1 10 (k * 6 + 2) = nI (xop h k) := H1.2.1 _ (by omega)
      obtain ⟨-, -, -, hw2, -, -, -, -⟩ := W.2.1 k (by omega)
      have hw2 : xop h k ≤ 2 := hw2
      have p1 := xpt_le W k (xop h k) 63
      have p2 := xpt_le W k (1 - xop h k) 63
      have lt := xbts_lt (xtn_le h) k
      have bo := bitor k (by omega) _ lt
      have frA : ∀ M2, xfr 40 40 M1 M2 → xfr 39 40 M M2 := fun M2 g => f.tr (fun a q => g a (by omega))
      rw [h66_12]
      simp (disch := first | decide | omega) only [s66, m1, nI_lt_t, if_true, c28, mo, xpush_s]
      refine c64 H1 W (by omega) (by omega) (by decide) (fun M2 g => ?_)
      have e39 : M2 39 = M1 39 := g 39 (by omega)
      have a2 : M2 39 1 = nI (xbts (xtn h) k) := by rw [e39]; exact a
      have b2 : M2 39 2 = nI (xhp h k) := by rw [e39]; exact b
      by_cases z : xop h k = 2
      · have t0 : xtn h k = 0 := by unfold xtn; rw [if_neg (by omega)]
        have IH := fun x3 x4 x5 => ih (k + 1) (xup M2 39 2 (nI (xhp h k + xpt h k (xop h k) 63))) x3 x4 x5 (by omega) ((frA M2 g).tr (xfr.up (by decide) (by decide))) (by rw [xup_r (by decide), a2]; simp only [xbts, t0, Nat.zero_mul, Nat.add_zero]) (by rw [xup_rs]; simp only [xhp, t0, xcd, Nat.zero_ne_one, if_false])
        simp (disch := first | decide | omega) only [s66, xpush_s, nI_eq_t, if_true, h66_59, nI_lt_f, if_false, h66_80, b2, xmin_nI, Nat.min_self, nI_add]
        exact IH _ _ _
      · simp (disch := first | decide | omega) only [s66, xpush_s, nI_eq_f, if_false, pk_sub]
        refine c64 (H1.fr g (by omega)) W (by omega) (by omega) (by decide) (fun M3 g3 => ?_)
        have e39' : M3 39 = M2 39 := g3 39 (by omega)
        have a3 : M3 39 1 = nI (xbts (xtn h) k) := by rw [e39']; exact a2
        have b3 : M3 39 2 = nI (xhp h k) := by rw [e39']; exact b2
        by_cases y : xpt h k (1 - xop h k) 63 < xpt h k (xop h k) 63
        · have t0 : xtn h k = 1 := by unfold xtn; rw [if_pos (by omega)]
          have IH := fun x3 x4 x5 => ih (k + 1) (xup (xup M3 39 1 (nI (xbts (xtn h) k + 2 ^ k))) 39 2 (nI (xhp h k + xpt h k (1 - xop h k) 63))) x3 x4 x5 (by omega) ((frA M3 (g.tr g3)).tr ((xfr.up (by decide) (by decide)).tr (xfr.up (by decide) (by decide)))) (by rw [xup_r (by decide), xup_rs]; simp only [xbts, t0, Nat.one_mul]) (by rw [xup_rs]; simp only [xhp, t0, xcd, if_true])
          simp (disch := first | decide | omega) only [s66, xpush_s, h66_59, nI_lt_t, if_true, a3, bo, h66_80, xup_r, b3, xmin_nI, Nat.min_eq_right (Nat.le_of_lt y), nI_add]
          exact IH _ _ _
        · have t0 : xtn h k = 0 := by unfold xtn; rw [if_neg (by omega)]
          have IH := fun x3 x4 x5 => ih (k + 1) (xup M3 39 2 (nI (xhp h k + xpt h k (xop h k) 63))) x3 x4 x5 (by omega) ((frA M3 (g.tr g3)).tr (xfr.up (by decide) (by decide))) (by rw [xup_r (by decide), a3]; simp only [xbts, t0, Nat.zero_mul, Nat.add_zero]) (by rw [xup_rs]; simp only [xhp, t0, xcd, Nat.zero_ne_one, if_false])
          simp (disch := first | decide | omega) only [s66, xpush_s, h66_59, nI_lt_f, if_false, h66_80, b3, xmin_nI, Nat.min_eq_left (show xpt h k (xop h k) 63 ≤ xpt h k (1 - xop h k) 63 by omega), nI_add]
          exact IH _ _ _
  simp (disch := first | decide | omega) only [s66]
  refine key (h 1) 0 _ _ _ _ (by omega) ((xfr.up (by decide) (by decide)).tr (xfr.up (by decide) (by decide))) ?_ ?_
  · rw [xup_r (by decide), xup_rs]; rfl
  · rw [xup_rs]; rfl
theorem r190 : ∀ (c s n : Nat), s ≤ c → s < 256 → ∀ (x0 : Int32), xW xSR 190 4 [.int x0, .int (nI n), .int (nI s)] [] M Q = Q (some (.int (nI (n + mny s 8)))) M := by
  intro c
  induction c with
  | zero =>
    intro s n hs h2 x0
    have hs : s = 0 := by omega
    subst hs
    have e : mny 0 8 = 0 := by decide
    rw [h190_4]
    simp (disch := first | decide | omega) only [s190, i00, if_true, e, Nat.add_zero]
  | succ c ih =>
    intro s n hs h2 x0
    by_cases z : s = 0
    · subst z
      have e : mny 0 8 = 0 := by decide
      rw [h190_4]
      simp (disch := first | decide | omega) only [s190, i00, if_true, e, Nat.add_zero]
    · obtain ⟨a, b, d⟩ := popc s h2 z
      rw [h190_4]
      have ihh := ih (s &&& (s - 1)) (n + 1)
      generalize s &&& (s - 1) = s' at *
      simp (disch := first | decide | omega) only [s190, nI_eq_f, if_false, nI_add, a]
      rw [ihh (by omega) (by omega) x0, show n + 1 + mny s' 8 = n + mny s 8 by omega]
end C46
