/-! who goes, undone, kept -/
def xsd (h : Nat → Nat) (d rm : Nat) : Int32 := if nI (xdr h d 0) = nI rm then nI 0 else if nI (xdr h d 1) = nI rm then nI 1 else -1
theorem xsd_or {h : Nat → Nat} {d rm : Nat} (h0 : xdr h d 0 < 2 ^ 31) (h1 : xdr h d 1 < 2 ^ 31) (h2 : rm < 2 ^ 31) : (xsd h d rm = -1 ∧ xdr h d 0 ≠ rm ∧ xdr h d 1 ≠ rm) ∨ ∃ e, e < 2 ∧ xsd h d rm = nI e ∧ xdr h d e = rm := by
  unfold xsd
  simp only [nI_eq h0 h2, nI_eq h1 h2]
  by_cases q0 : xdr h d 0 = rm
  · exact Or.inr ⟨0, by omega, by rw [if_pos q0], q0⟩
  · by_cases q1 : xdr h d 1 = rm
    · exact Or.inr ⟨1, by omega, by rw [if_neg q0, if_pos q1], q1⟩
    · exact Or.inl ⟨by rw [if_neg q0, if_neg q1], q0, q1⟩
theorem cK.fr {rm tr la lo hi : Nat} {T : Nat → Nat} {M M' : xM} (K : cK rm tr la T M) (f : xfr lo hi M M') (q : 32 < lo ∨ hi < 31) : cK rm tr la T M' := by
  obtain ⟨k0, k1, k2, k3⟩ := K
  have e1 := f 31 (by omega)
  have e2 := f 32 (by omega)
  exact ⟨by rw [e1]; exact k0, by rw [e1]; exact k1, by rw [e1]; exact k2, fun j hj => by rw [e2]; exact k3 j hj⟩
theorem RCu.fr {S : xA} {lo hi : Nat} {M M' : xM} (U : RCu S M) (f : xfr lo hi M M') (q : 25 < lo ∨ hi < 24) : RCu S M' := by
  obtain ⟨nx, u0, u1, u2, u3⟩ := U
  have e1 := f 24 (by omega)
  have e2 := f 25 (by omega)
  exact ⟨nx, u0, by rw [e1]; exact u1, by rw [e1]; exact u2, fun i hi' f' hf => by rw [e2]; exact u3 i hi' f' hf⟩
theorem xpT_99 {T : Nat → Nat} {s : Nat} (hT : ∀ j, j < 16 → T j ≤ 99) : ∀ j, j < 16 → xpT T s j ≤ 99 := fun j hj => by
  unfold xpT
  split
  · exact Nat.min_le_right _ _
  · exact hT j hj
theorem xleave_o {h : Nat → Nat} {i rm la : Nat} {T : Nat → Nat} {j : Nat} (q : j < 51 ∨ 146 ≤ j) (hi : i < 5) : xleave h i rm la T j = h j := by
  unfold xleave
  rw [if_neg (by omega), if_neg (by omega), if_neg (by omega)]
theorem xWF.leave {h : Nat → Nat} (W : xWF h) {i rm la : Nat} {T : Nat → Nat} (hi : i < 5) (hr : rm < h 0) (hl : la ≤ 3) (hT : ∀ j, j < 16 → T j ≤ 99) : xWF (xleave h i rm la T) := by
  obtain ⟨⟨a1, a2, a3, a4⟩, b, c1, c2, c3⟩ := W
  refine ⟨⟨by rw [xleave_o (by omega) hi]; exact a1, by rw [xleave_o (by omega) hi]; exact a2, by rw [xleave_o (by omega) hi]; exact a3, by rw [xleave_o (by omega) hi]; exact a4⟩, fun d hd => ?_, fun k hk => ?_, fun j hj => ?_, fun j hj => by rw [xleave_o (by omega) hi]; exact c3 j hj⟩
  · rw [xleave_o (by omega) hi] at hd
    rw [xleave_o (j := 3 + (d * 6 + 0)) (by omega) hi, xleave_o (j := 3 + (d * 6 + 1)) (by omega) hi, xleave_o (j := 3 + (d * 6 + 2)) (by omega) hi, xleave_o (j := 3 + (d * 6 + 3)) (by omega) hi, xleave_o (j := 3 + (d * 6 + (4 + 0))) (by omega) hi, xleave_o (j := 3 + (d * 6 + (4 + 1))) (by omega) hi, xleave_o (j := 0) (by omega) hi]
    exact b d hd
  · rw [xleave_o (by omega) hi] at hk
    obtain ⟨p1, p2, p3⟩ := c1 k hk
    rw [xleave_o (j := 0) (by omega) hi]
    refine ⟨?_, ?_, ?_⟩
    · unfold xleave
      by_cases z : k = i
      · rw [if_pos (by omega)]; exact hr
      · rw [if_neg (by omega), if_neg (by omega), if_neg (by omega)]; exact p1
    · unfold xleave
      rw [if_neg (by omega), if_neg (by omega), if_neg (by omega)]; exact p2
    · unfold xleave
      by_cases z : k = i
      · rw [if_neg (by omega), if_pos (by omega)]; exact hl
      · rw [if_neg (by omega), if_neg (by omega), if_neg (by omega)]; exact p3
  · unfold xleave
    rw [if_neg (by omega), if_neg (by omega)]
    by_cases z : 66 + i * 16 ≤ 66 + j ∧ 66 + j < 66 + (i * 16 + 16)
    · rw [if_pos z]
      exact hT _ (by omega)
    · rw [if_neg z]
      exact c2 j hj
section C28
variable {M N : xM} {Q : Option Value → xM → Prop} {S S1 : xA} {h : Nat → Nat}
/-- the reference's goer -/
theorem r173 {i d e : Nat} (R : rH 1 h N) (W : xWF h) (hd : d < h 1) (he : e < 2) (hi : i < h 2) (hQ : ∀ N', (∀ k, k ≠ 1 → N' k = N k) → rH 1 (xleave h i (xdr h d (1 - e)) (xw h d e) (xpT (xTi h i) (2 * d + e))) N' → Q none N') : xW xSR 173 0 [.ref 0, .int (nI i), .int (nI d), .int (nI e), .null, .null] [] N Q := by
  have h8 := W.1.2.2.1
  have h5 := W.1.2.2.2
  have hT := xTi_99 W (show i < 5 by omega)
  have t99 := hT (2 * d + e) (by omega)
  obtain ⟨x1, x2, -, -, -, -, -, -⟩ := W.2.1 d hd
  have m1 : N 1 (3 + 6 * d + 1 - e) = nI (xdr h d (1 - e)) := R.at _ (by omega) (by omega) (by omega)
  have mt : N 1 (66 + 16 * i + 2 * d + e) = nI (xTi h i (2 * d + e)) := R.at _ (by omega) (by omega) (by omega)
  have hu : xw h d e < 3 := xwt_lt _ _
  have fin : ∀ N', (∀ k, k ≠ 1 → N' k = N k) → N' 1 = (xup (xup (xup N 1 (51 + 3 * i) (nI (xdr h d (1 - e)))) 1 (66 + 16 * i + 2 * d + e) (nI (min (xTi h i (2 * d + e) + 1) 99))) 1 (51 + 3 * i + 2) (nI (xw h d e))) 1 → rH 1 (xleave h i (xdr h d (1 - e)) (xw h d e) (xpT (xTi h i) (2 * d + e))) N' := by
    intro N' k1 k2
    constructor
    · intro j a b
      unfold rla at b
      rw [k2]
      by_cases z0 : j = 51 + 3 * i
      · rw [xup_r (by omega), xup_r (by omega), z0, xup_rs]
        unfold xleave
        rw [if_pos (by omega)]
      · by_cases z1 : j = 66 + 16 * i + 2 * d + e
        · rw [xup_r (by omega), z1, xup_rs]
          unfold xleave
          rw [if_neg (by omega), if_neg (by omega), if_pos (by omega)]
          unfold xpT
          rw [if_pos (by omega)]
        · rw [xup_r (by omega), xup_r z1, xup_r z0, R.1 j a (by unfold rla; exact b)]
          congr 1
          unfold xleave
          rw [if_neg (by omega), if_neg (by omega)]
          by_cases z2 : 66 + i * 16 ≤ j ∧ j < 66 + (i * 16 + 16)
          · rw [if_pos z2]
            unfold xpT xTi
            rw [if_neg (by omega)]
            congr 1
            omega
          · rw [if_neg z2]
    · intro j a
      rw [k2]
      by_cases z : j = 51 + 3 * i + 2
      · rw [z, xup_rs]
        have e1 : xleave h i (xdr h d (1 - e)) (xw h d e) (xpT (xTi h i) (2 * d + e)) (51 + 3 * i + 2) = xw h d e := by
          unfold xleave
          rw [if_neg (by omega), if_pos (by omega)]
        rw [e1, if_neg (by omega)]
      · unfold rla at a
        rw [xup_r z, xup_r (by omega), xup_r (by omega), R.2 j (by unfold rla; exact a)]
        have e1 : xleave h i (xdr h d (1 - e)) (xw h d e) (xpT (xTi h i) (2 * d + e)) j = h j := by
          unfold xleave
          rw [if_neg (by omega), if_neg (by omega), if_neg (by omega)]
        rw [e1]
  have wants : ∀ (N1 : xM) (Q' : Option Value → xM → Prop), (∀ j, j ≠ 51 + 3 * i → j ≠ 66 + 16 * i + 2 * d + e → N1 1 j = N 1 j) → xW xSR 161 0 [.ref 0, .int (nI d), .int (nI e), .null] [] N1 Q' = Q' (some (.int (nI (xw h d e)))) N1 := by
    intro N1 Q' k
    obtain ⟨-, -, -, hw, -, -, -, -⟩ := W.2.1 d hd
    have m : N1 1 (3 + 6 * d + 2) = nI (h (3 + (d * 6 + 2))) := by rw [k _ (by omega) (by omega)]; exact R.at _ (by omega) (by omega) (by omega)
    by_cases q : h (3 + (d * 6 + 2)) = 2
    · have e1 : xw h d e = 2 := by unfold xw xwt; rw [if_pos q]
      simp (disch := first | decide | omega) only [s161, j161, pk_mul, nI_add, m, nI_eq_t, if_true, e1]
    · have e1 : xw h d e = (h (3 + (d * 6 + 2)) + e) % 2 := by
        unfold xw xwt
        rw [if_neg q]
        split <;> omega
      simp (disch := first | decide | omega) only [s161, j161, pk_mul, nI_add, m, nI_eq_f, if_false, pk_rem, e1]
  by_cases q : xTi h i (2 * d + e) < 99
  · have e2 : min (xTi h i (2 * d + e) + 1) 99 = xTi h i (2 * d + e) + 1 := Nat.min_eq_left (by omega)
    rw [e2] at fin
    simp (disch := first | decide | omega) only [s173, j173, pk_mul, nI_add, pk_sub, m1, r158, xpush_s, xup_r, mt, nI_lt_t, if_true]
    rw [wants _ _ (fun j z0 z1 => by rw [xup_r z1, xup_r z0])]
    simp (disch := first | decide | omega) only [xpush_s, s173, j173]
    exact hQ _ (fun k hk => by rw [xup_other hk, xup_other hk, xup_other hk]) (fin _ (fun k hk => by rw [xup_other hk, xup_other hk, xup_other hk]) rfl)
  · have e2 : min (xTi h i (2 * d + e) + 1) 99 = 99 := Nat.min_eq_right (by omega)
    rw [e2] at fin
    simp (disch := first | decide | omega) only [s173, j173, pk_mul, nI_add, pk_sub, m1, r158, xpush_s, xup_r, mt, nI_lt_f, if_false]
    rw [wants _ _ (fun j z0 z1 => by rw [xup_r z1, xup_r z0])]
    simp (disch := first | decide | omega) only [xpush_s, s173, j173]
    exact hQ _ (fun k hk => by rw [xup_other hk, xup_other hk, xup_other hk]) (fin _ (fun k hk => by rw [xup_other hk, xup_other hk, xup_other hk]) rfl)
theorem A_go (C : RC S M) (R : RR S N) (W : WA S) (x y : Int32) : Agr S M N 107 [.ref 0, .int x, .int y, .null] 174 [.ref 0, .int x, .int y, .null] := by
  have h8 := W.2.1.1.2.2.1
  have h5 := W.2.1.1.2.2.2
  obtain ⟨cn0, cn1, cn2⟩ := C.n
  obtain ⟨rn0, rn1, rn2⟩ := R.n
  have l0 : S 0 0 < 2 ^ 31 := by have := W.2.1.1.2.1; omega
  have l1 : S 0 1 < 2 ^ 31 := by omega
  have l2 : S 0 2 < 2 ^ 31 := by omega
  cases hx : xok x (S 0 2) <;> cases hy : xok y (S 0 1)
  all_goals try (refine Agr.same W (-1) ?_ ?_ <;> (simp (disch := first | decide | omega) only [s107, j107, c25r l2 cn2, c24r l1 cn1, s174, j174, r141 l2 rn2, r140 l1 rn1, hx, hy, xpush_s, Bool.false_eq_true, if_true, if_false, i12, i00, Bool.and_true, Bool.and_false, Bool.true_and, Bool.false_and]; exact ⟨trivial, by first | exact C | exact R⟩))
  obtain ⟨i, hi, rfl⟩ := xok_nI hx l2
  obtain ⟨d, hd, rfl⟩ := xok_nI hy l1
  have hT := xTi_99 W.2.1 (show i < 5 by omega)
  obtain ⟨w1, w2, w3⟩ := W.2.1.2.2.1 i hi
  have w1 : xRm2 (S 0) i < S 0 0 := w1
  have w3 : xLa (S 0) i ≤ 3 := w3
  have w2 : xTr (S 0) i ≤ 1 := w2
  obtain ⟨x1, x2, -, hw2, -, -, -, -⟩ := W.2.1.2.1 d hd
  have x1 : xdr (S 0) d 0 < S 0 0 := x1
  have x2 : xdr (S 0) d 1 < S 0 0 := x2
  have h00 := W.2.1.1.2.1
  have a0 : M 10 (d * 6 + 0) = nI (xdr (S 0) d 0) := C.2.1.2.1 _ (by omega)
  have a1 : M 10 (d * 6 + 1) = nI (xdr (S 0) d 1) := C.2.1.2.1 _ (by omega)
  have b0 : N 1 (51 + 3 * i) = nI (xRm2 (S 0) i) := R.2.1.at _ (by omega) (by omega) (by omega)
  have sd : (if nI (xdr (S 0) d 0) = nI (xRm2 (S 0) i) then nI 0 else if nI (xdr (S 0) d 1) = nI (xRm2 (S 0) i) then nI 1 else -1) = xsd (S 0) d (xRm2 (S 0) i) := rfl
  have n1 : ((-1 : Int32) < nI 0) = True := by decide
  rcases xsd_or (h := S 0) (d := d) (rm := xRm2 (S 0) i) (by omega) (by omega) (by omega) with ⟨s1, -, -⟩ | ⟨e, he, s1, s2⟩
  · refine Agr.same W (-2) ?_ ?_
    · simp (disch := first | decide | omega) only [s107, j107, c25r l2 cn2, hx, c24r l1 cn1, hy, xpush_s, if_true, if_false, i12]
      refine c85 C.2.1 W.2.1 hi (fun M1 f1 K => ?_)
      have e10 : M1 10 = M 10 := f1 10 (by omega)
      simp (disch := first | decide | omega) only [s107, j107, xpush_n, xpush_s, K.1, c40, e10, a0, a1, sd, s1, n1, if_true]
      exact ⟨trivial, C.fr (cfr.x f1 (by decide))⟩
    · simp (disch := first | decide | omega) only [s174, j174, r141 l2 rn2, hx, r140 l1 rn1, hy, xpush_s, if_true, if_false, i12, pk_mul, nI_add, b0, r171 R.2.1 (show d < 8 by omega), sd, s1, n1]
      exact ⟨trivial, R⟩
  · have m3 : M 10 (d * 6 + 2) = nI (S 0 (3 + (d * 6 + 2))) := C.2.1.2.1 _ (by omega)
    have m4 : xwi (nI (S 0 (3 + (d * 6 + 2)))) (nI e) = nI (xw (S 0) d e) := xwi_nI (by omega) (by omega)
    by_cases q : xTr (S 0) i = 0 ∨ xw (S 0) d e ≠ 1
    · have hr : xdr (S 0) d (1 - e) < S 0 0 := by rcases (show e = 0 ∨ e = 1 by omega) with rfl | rfl <;> assumption
      have hu : xw (S 0) d e < 3 := xwt_lt _ _
      have t99 := hT (2 * d + e) (by omega)
      have hs : xsm (S 0) (xleave (S 0) i (xdr (S 0) d (1 - e)) (xw (S 0) d e) (xpT (xTi (S 0) i) (2 * d + e))) := ⟨xleave_o (by omega) (by omega), xleave_o (by omega) (by omega), xleave_o (by omega) (by omega)⟩
      have hp := xen.push (h' := xleave (S 0) i (xdr (S 0) d (1 - e)) (xw (S 0) d e) (xpT (xTi (S 0) i) (2 * d + e))) (e := xeg i (2 * d + e) (xTi (S 0) i (2 * d + e)) (xRm2 (S 0) i) (xLa (S 0) i)) W hs (fun d' hd' q => by rw [xleave_o (by omega) (by omega)]; exact q) (Or.inl ⟨rfl, by rw [hs.2.2]; exact hi, by rw [hs.2.1]; show 2 * d + e < 2 * S 0 1; omega, t99, by rw [hs.1]; exact w1, w3⟩)
      refine ⟨nI (xdr (S 0) d (1 - e)), sA (xpu S (xeg i (2 * d + e) (xTi (S 0) i (2 * d + e)) (xRm2 (S 0) i) (xLa (S 0) i))) 0 (xleave (S 0) i (xdr (S 0) d (1 - e)) (xw (S 0) d e) (xpT (xTi (S 0) i) (2 * d + e))), W.new (fun a => xpu_o) (fun j => xpu_2) (W.2.1.leave (by omega) hr (by omega) (xpT_99 hT)) hs hp.1 hp.2, ?_, ?_⟩
      · simp (disch := first | decide | omega) only [s107, j107, c25r l2 cn2, hx, c24r l1 cn1, hy, xpush_s, if_true, if_false, i12]
        refine c85 C.2.1 W.2.1 hi (fun M1 f1 K => ?_)
        have e10 : M1 10 = M 10 := f1 10 (by omega)
        have C1 := C.fr (cfr.x f1 (by decide))
        simp (disch := first | decide | omega) only [s107, j107, xpush_n, xpush_s, K.1, c40, e10, a0, a1, sd, s1, nI_nneg, if_false, c37, m3, m4, c87 K w2 hu, q, if_true, i12, pk_mul, nI_add]
        refine c6 C1.2.2.2.2.2 C1.2.1 W.2.1 W.2.2.2.2.2.1 hi (by omega) (fun M2 f2 U => ?_)
        simp (disch := first | decide | omega) only [s107, j107, xpush_n]
        refine c88 (C1.2.1.fr f2 (by omega)) W.2.1 (K.fr f2 (by omega)) hd he hT (fun M3 f3 K3 => ?_)
        simp (disch := first | decide | omega) only [s107, j107, xpush_n]
        refine c86 ((C1.2.1.fr f2 (by omega)).fr f3 (by omega)) W.2.1 K3 hi (fun M4 f4 H4 => ?_)
        have e31 : M4 31 0 = nI (xdr (S 0) d (1 - e)) := by rw [f4 31 (by omega)]; exact K3.1
        simp (disch := first | decide | omega) only [s107, j107, xpush_n, e31]
        exact ⟨trivial, C1.new (fun a => xpu_o) (fun j => xpu_2) H4 ((U.fr f3 (by omega)).fr f4 (by omega)) (fun a q => by rw [f4 a (by omega), f3 a (by omega), f2 a (by omega)]) (by rw [f4 1 (by omega), f3 1 (by omega), f2 1 (by omega)])⟩
      · simp (disch := first | decide | omega) only [s174, j174, r141 l2 rn2, hx, r140 l1 rn1, hy, xpush_s, if_true, if_false, i12, pk_mul, nI_add, b0, r171 R.2.1 (show d < 8 by omega), sd, s1, nI_nneg, r168 R.2.1 W.2.1 hd he hi, q, r158]
        have mt : N 1 (66 + 16 * i + 2 * d + e) = nI (xTi (S 0) i (2 * d + e)) := R.2.1.at _ (by omega) (by omega) (by omega)
        have ml : N 1 (51 + 3 * i + 2) = rli (xLa (S 0) i) := R.2.1.la (by omega)
        have ea : nI (66 + 16 * i + 2 * d + e) = nI (66 + 16 * i + (2 * d + e)) := by rw [Nat.add_assoc (66 + 16 * i)]
        refine r172 (e := xeg i (2 * d + e) (xTi (S 0) i (2 * d + e)) (xRm2 (S 0) i) (xLa (S 0) i)) R.2.2.2.2.2 W.2.2.2.2.2.1 (by omega) (by omega) (by omega) (fun k N' a b c d2 e2 f => ⟨fun _ => ⟨by rw [a]; rfl, by rw [b, b0]; rfl, by rw [c]; rfl, by rw [d2, ml]; rfl, by rw [e2, ea]; rfl, by rw [f, mt]; rfl⟩, fun q => absurd (show (0 : Nat) = 1 from q) (by decide)⟩) (fun N1 k1 k2 U => ?_)
        have e1 : N1 1 = N 1 := k1 1 (by decide) (by decide)
        have R1 : rH 1 (S 0) N1 := R.2.1.mono e1
        simp (disch := first | decide | omega) only [s174, j174, xpush_n]
        refine r173 R1 W.2.1 hd he hi (fun N2 g1 R2 => ?_)
        have b2 : N2 1 (51 + 3 * i) = nI (xdr (S 0) d (1 - e)) := by
          rw [R2.1 (51 + 3 * i) (by omega) (by unfold rla; omega)]
          congr 1
          unfold xleave
          rw [if_pos (by omega)]
        simp (disch := first | decide | omega) only [s174, j174, xpush_n, pk_mul, nI_add, b2]
        refine ⟨trivial, R.new (fun a => xpu_o) (fun j => xpu_2) R2 ?_ (fun a q => by rw [g1 a (by omega)]; exact k1 a (by omega) (by omega)) (fun j q => by rw [g1 0 (by decide)]; exact k2 j (by omega))⟩
        obtain ⟨u1, u2⟩ := U
        exact ⟨by rw [g1 0 (by decide)]; exact u1, fun k hk => by
          have := u2 k hk
          unfold rE at this ⊢
          rw [g1 6 (by decide)]
          exact this⟩
    · refine Agr.same W (-2) ?_ ?_
      · simp (disch := first | decide | omega) only [s107, j107, c25r l2 cn2, hx, c24r l1 cn1, hy, xpush_s, if_true, if_false, i12]
        refine c85 C.2.1 W.2.1 hi (fun M1 f1 K => ?_)
        have e10 : M1 10 = M 10 := f1 10 (by omega)
        simp (disch := first | decide | omega) only [s107, j107, xpush_n, xpush_s, K.1, c40, e10, a0, a1, sd, s1, nI_nneg, if_false, c37, m3, m4, c87 K w2 (show xw (S 0) d e < 3 from xwt_lt _ _), q, i00, if_true]
        exact ⟨trivial, C.fr (cfr.x f1 (by decide))⟩
      · simp (disch := first | decide | omega) only [s174, j174, r141 l2 rn2, hx, r140 l1 rn1, hy, xpush_s, if_true, if_false, i12, pk_mul, nI_add, b0, r171 R.2.1 (show d < 8 by omega), sd, s1, nI_nneg, r168 R.2.1 W.2.1 hd he hi, q, i00]
        exact ⟨trivial, R⟩
end C28
