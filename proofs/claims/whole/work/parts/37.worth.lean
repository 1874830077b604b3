/-! what one sign is worth -/
theorem xclb : ∀ x, x < 64 → ∀ k, k < 6 → nI x &&& ((nI 1 <<< (nI k &&& nI 31)) ^^^ (-1)) = nI (x &&& (63 - 2 ^ k)) := by decide +kernel
theorem xclb63 : ∀ k, k < 6 → nI 63 &&& ((nI 1 <<< (nI k &&& nI 31)) ^^^ (-1)) = nI (63 - 2 ^ k) := by decide +kernel
theorem add_sw (x a b : Int32) : x + a - b = a - b + x := by rw [Int32.sub_eq_add_neg, Int32.sub_eq_add_neg, Int32.add_assoc, Int32.add_comm]
theorem xsp_cg {h h' : Nat → Nat} (e : ∀ j, 146 ≤ j → h' j = h j) (lv w m o : Nat) : xsp h' lv w m o = xsp h lv w m o := by
  unfold xsp xsA xsB xSP xSQ
  rw [e 146 (by omega), e 147 (by omega), e 148 (by omega), e 149 (by omega)]
/-- the same house, its signs at the first doors masked -/
def xmsk (h h' : Nat → Nat) (al n : Nat) : Prop := (∀ j, (j < 3 ∨ 51 ≤ j ∨ (j - 3) % 6 < 4) → h' j = h j) ∧ ∀ d e, e < 2 → xg h' d e = if d < n then xg h d e &&& al else xg h d e
theorem xal_msk {h h' : Nat → Nat} {al : Nat} (W : xWF h') (k : xmsk h h' al (h 1)) : ∀ n d, d + n = h 1 → xal h' 63 d n = xal h al d n
  | 0, d, _ => rfl
  | n + 1, d, q => by
    have e1 : h' 1 = h 1 := k.1 1 (by omega)
    have eo : h' (3 + (d * 6 + 2)) = h (3 + (d * 6 + 2)) := k.1 _ (by omega)
    have ev : h' (3 + (d * 6 + 3)) = h (3 + (d * 6 + 3)) := k.1 _ (by omega)
    have g0 := k.2 d 0 (by decide)
    have g1 := k.2 d 1 (by decide)
    rw [if_pos (by omega)] at g0 g1
    simp only [xal]
    rw [xal_msk W k n (d + 1) (by omega), xpt_own W (show d < h' 1 by omega)]
    unfold xpt
    rw [xsp_cg (fun j _ => k.1 j (by omega)), xsp_cg (fun j _ => k.1 j (by omega))]
    unfold xlv2 xw
    rw [eo, ev]
    simp only [show 1 - 0 = 1 from rfl, show 1 - 1 = 0 from rfl, g0, g1]
section C37
variable {M N : xM} {Q : Option Value → xM → Prop} {S S1 : xA} {h h' : Nat → Nat}
theorem xmsk_step {k d : Nat} {hh : Nat → Nat} (hd : d < 8) (m : xmsk h hh k d) : xmsk h (hset (hset hh (3 + (d * 6 + 4)) (xg hh d 0 &&& k)) (3 + (d * 6 + 5)) (xg hh d 1 &&& k)) k (d + 1) := by
  have ne : ∀ j, j ≠ 3 + (d * 6 + 4) → j ≠ 3 + (d * 6 + 5) → hset (hset hh (3 + (d * 6 + 4)) (xg hh d 0 &&& k)) (3 + (d * 6 + 5)) (xg hh d 1 &&& k) j = hh j := fun j a b => by
    unfold hset
    rw [if_neg b, if_neg a]
  constructor
  · intro j q
    rw [ne j (by omega) (by omega)]
    exact m.1 j q
  · intro d' e he
    have m2 := m.2 d' e he
    by_cases z : d' = d
    · subst z
      rw [if_neg (by omega)] at m2
      rw [if_pos (by omega)]
      rcases (show e = 0 ∨ e = 1 by omega) with y | y
      · subst y
        unfold xg hset at *
        rw [if_neg (by omega), if_pos (by omega), m2]
      · subst y
        unfold xg hset at *
        rw [if_pos (by omega), m2]
    · unfold xg at *
      rw [ne _ (by omega) (by omega), m2]
      by_cases y : d' < d
      · rw [if_pos y, if_pos (by omega)]
      · rw [if_neg y, if_neg (by omega)]
theorem r194 {k : Nat} (hk : k < 6) (R : rH 1 h N) (W : xWF h) (hQ : ∀ N', rfa N N' → rH 1 h N' → Q (some (.int (nI (xal h (63 - 2 ^ k) 0 (h 1)) - nI (xal h 63 0 (h 1)) + nI 20000))) N') : xW xSR 194 14 [.ref 0, .int (nI k), .null, .null] [] N Q := by
  have h8 := W.1.2.2.1
  have key : ∀ (n d : Nat) (hh : Nat → Nat) (N1 : xM), d + n = h 1 → rfa N N1 → rH 1 hh N1 → xWF hh → xmsk h hh (63 - 2 ^ k) d → (∀ j, j < 156 → N1 8 j = N 1 j) → xW xSR 194 25 [.ref 0, .int (nI k), .int (nI (xal h 63 0 (h 1))), .int (nI d)] [] N1 Q := by
    intro n
    induction n with
    | zero =>
      intro d hh N1 hd f R1 W1 m f8
      have e1 : hh 1 = h 1 := m.1 1 (by omega)
      have m1 : N1 1 1 = nI (hh 1) := R1.at _ rfl (by omega) (by omega)
      have m' : xmsk h hh (63 - 2 ^ k) (h 1) := by rw [show h 1 = d by omega]; exact m
      rw [h194_25]
      simp (disch := first | decide | omega) only [s194, m1, nI_lt_f, if_false]
      refine r189 R1 W1 (fun N2 g => ?_)
      rw [e1, xal_msk W1 m' _ _ (by omega)]
      simp (disch := first | decide | omega) only [s194, xpush_s]
      refine r181 (fun N3 q1 q2 => ?_)
      simp (disch := first | decide | omega) only [s194, xpush_n]
      refine hQ N3 (f.tr (g.fa.tr (rfa.k1 q1))) (R.vals (fun j hj => ?_))
      rw [q2 j hj, g.1 8 (by decide) (by decide) (by decide) (by decide), f8 j hj]
    | succ n ih =>
      intro d hh N1 hd f R1 W1 m f8
      have e1 : hh 1 = h 1 := m.1 1 (by omega)
      have m1 : N1 1 1 = nI (hh 1) := R1.at _ rfl (by omega) (by omega)
      have l0 := W1.g (show d < hh 1 by omega) (show 0 < 2 by decide)
      have l1 := W1.g (show d < hh 1 by omega) (show 1 < 2 by decide)
      have y0 : N1 1 (3 + 6 * d + 4) = nI (xg hh d 0) := R1.at _ (by omega) (by omega) (by omega)
      have y1 : N1 1 (3 + 6 * d + 5) = nI (xg hh d 1) := R1.at _ (by omega) (by omega) (by omega)
      have i4 : 3 + 6 * d + 4 = 3 + (d * 6 + 4) := by omega
      have i5 : 3 + 6 * d + 5 = 3 + (d * 6 + 5) := by omega
      have R2 : rH 1 (hset (hset hh (3 + (d * 6 + 4)) (xg hh d 0 &&& (63 - 2 ^ k))) (3 + (d * 6 + 5)) (xg hh d 1 &&& (63 - 2 ^ k))) (xup (xup N1 1 (3 + 6 * d + 4) (nI (xg hh d 0 &&& (63 - 2 ^ k)))) 1 (3 + 6 * d + 5) (nI (xg hh d 1 &&& (63 - 2 ^ k)))) := by
        rw [i4, i5]
        exact (R1.up (by unfold rla; omega)).up (by unfold rla; omega)
      have W2 := (W1.sign (d := d) (Or.inl rfl) (xand_lt (b := 63 - 2 ^ k) l0) (by omega)).sign (d := d) (Or.inr rfl) (xand_lt (b := 63 - 2 ^ k) l1) (by omega)
      rw [h194_25]
      simp (disch := first | decide | omega) only [s194, m1, nI_lt_t, if_true, pk_mul, nI_add, y0, y1, xup_r, xclb _ l0 _ hk, xclb _ l1 _ hk]
      refine ih (d + 1) _ _ (by omega) (f.tr (rfa.k1 (fun a q => by rw [xup_other q, xup_other q]))) R2 W2 (xmsk_step (by omega) m) (fun j hj => ?_)
      rw [xup_other (by decide), xup_other (by decide)]
      exact f8 j hj
  simp (disch := first | decide | omega) only [s194]
  refine r189 R W (fun N1 g => ?_)
  simp (disch := first | decide | omega) only [s194, xpush_s]
  refine r180 (fun N2 q1 q2 => ?_)
  simp (disch := first | decide | omega) only [s194, xpush_n]
  have e1 : N2 1 = N 1 := by rw [q1 1 (by decide), g.1 1 (by decide) (by decide) (by decide) (by decide)]
  refine key (h 1) 0 h N2 (by omega) (g.fa.tr ⟨fun a z => q1 a (by omega), fun j _ => by rw [q1 0 (by decide)]⟩) (R.mono e1) W ⟨fun _ _ => rfl, fun d e _ => by rw [if_neg (by omega)]⟩ (fun j hj => ?_)
  rw [q2 j hj, g.1 1 (by decide) (by decide) (by decide) (by decide)]
theorem A_worth (C : RC S M) (R : RR S N) (W : WA S) (x : Int32) : Agr S M N 122 [.ref 0, .int x, .null] 194 [.ref 0, .int x, .null, .null] := by
  have h8 := W.2.1.1.2.2.1
  have h8 := W.2.1.1.2.2.1
  have h5 := W.2.1.1.2.2.2
  obtain ⟨cn0, cn1, cn2⟩ := C.n
  obtain ⟨rn0, rn1, rn2⟩ := R.n
  have l0 : S 0 0 < 2 ^ 31 := by have := W.2.1.1.2.1; omega
  have l1 : S 0 1 < 2 ^ 31 := by omega
  have l2 : S 0 2 < 2 ^ 31 := by omega
  cases hx : xbw x 0 (5 + 1)
  all_goals try (refine Agr.same W (-1) ?_ ?_ <;> (simp (disch := first | decide | omega) only [s122, j122, cWi, s194, j194, r135w, hx, xpush_s, Bool.false_eq_true, if_true, if_false, i12, i00, Bool.and_true, Bool.and_false, Bool.true_and, Bool.false_and]; exact ⟨trivial, by first | exact C | exact R⟩))
  obtain ⟨k, -, hk, rfl⟩ := xbw_nI hx (by decide)
  refine Agr.same W (nI (xal (S 0) (63 - 2 ^ k) 0 (S 0 1)) - nI (xal (S 0) 63 0 (S 0 1)) + nI 20000) ?_ ?_
  · simp (disch := first | decide | omega) only [s122, cWi, hx, xpush_s, if_true, if_false, i12, xclb63 k hk]
    refine c65 C.2.1 W.2.1 (Nat.lt_of_le_of_lt (Nat.sub_le 63 (2 ^ k)) (by decide)) (fun M1 f => ?_)
    simp (disch := first | decide | omega) only [s122, xpush_s]
    refine c65 (C.2.1.fr f (by omega)) W.2.1 (by omega) (fun M2 g => ?_)
    simp (disch := first | decide | omega) only [s122, xpush_s]
    exact ⟨by rw [add_sw], C.fr (cfr.x (f.tr g) (by decide))⟩
  · simp (disch := first | decide | omega) only [s194, r135w, hx, xpush_s, if_true, if_false, i12]
    have := r194 (N := N) (Q := fun r N' => r = some (.int (nI (xal (S 0) (63 - 2 ^ k) 0 (S 0 1)) - nI (xal (S 0) 63 0 (S 0 1)) + nI 20000)) ∧ RR S N') (by omega) R.2.1 W.2.1 (fun N' f H => ⟨rfl, R.fra f H⟩)
    simpa (disch := first | decide | omega) only [s194] using this
end C37
