/-! the walker's calls -/
theorem xmin_nI {a b : Nat} (ha : a < 2 ^ 31) (hb : b < 2 ^ 31) : xmin (nI a) (nI b) = nI (min a b) := by
  unfold xmin
  simp only [nI_ltI hb ha]
  split
  · rw [Nat.min_eq_right (by omega)]
  · rw [Nat.min_eq_left (by omega)]
theorem xmax_nI {a b : Nat} (ha : a < 2 ^ 31) (hb : b < 2 ^ 31) : xmax (nI a) (nI b) = nI (max a b) := by
  unfold xmax
  simp only [nI_ltI ha hb]
  split
  · rw [Nat.max_eq_right (by omega)]
  · rw [Nat.max_eq_left (by omega)]
/-- the times of a person by the sides -/
def xTi (h : Nat → Nat) (i : Nat) : Nat → Nat := fun j => h (66 + (i * 16 + j))
def xRm2 (h : Nat → Nat) (i : Nat) : Nat := h (51 + (i * 3 + 0))
def xTr (h : Nat → Nat) (i : Nat) : Nat := h (51 + (i * 3 + 1))
def xLa (h : Nat → Nat) (i : Nat) : Nat := h (51 + (i * 3 + 2))
def xdr (h : Nat → Nat) (d e : Nat) : Nat := h (3 + (d * 6 + e))
def xlv2 (h : Nat → Nat) (d : Nat) : Nat := h (3 + (d * 6 + 3))
def xpT (T : Nat → Nat) (s : Nat) : Nat → Nat := fun j => if j = s then min (T s + 1) 99 else T j
def xleave (h : Nat → Nat) (i rm la : Nat) (T : Nat → Nat) : Nat → Nat := fun k => if k = 51 + (i * 3 + 0) then rm else if k = 51 + (i * 3 + 2) then la else if 66 + i * 16 ≤ k ∧ k < 66 + (i * 16 + 16) then T (k - (66 + i * 16)) else h k
theorem xTi_99 {h : Nat → Nat} (W : xWF h) {i : Nat} (hi : i < 5) : ∀ j, j < 16 → xTi h i j ≤ 99 := fun j hj => W.2.2.2.1 (i * 16 + j) (by omega)
section C18
variable {M : xM} {Q : Option Value → xM → Prop} {h : Nat → Nat}
theorem c85 {i : Nat} (H : cH 9 h M) (W : xWF h) (hi : i < h 2) (hQ : ∀ M', xfr 31 32 M M' → cK (xRm2 h i) (xTr h i) (xLa h i) (xTi h i) M' → Q none M') : xW xSC 85 0 [.ref 31, .ref 9, .int (nI i), .null] [] M Q := by
  have h5 := W.1.2.2.2
  obtain ⟨w1, w2, w3⟩ := W.2.2.1 i hi
  have m0 : M 11 (i * 3 + 0) = nI (xRm2 h i) := H.2.2.1 _ (by omega)
  have m1 : M 11 (i * 3 + 1) = nI (xTr h i) := H.2.2.1 _ (by omega)
  have m2 : M 11 (i * 3 + 2) = nI (xLa h i) := H.2.2.1 _ (by omega)
  have ht : xTr h i ≤ 1 := w2
  have key : ∀ (n k : Nat) (M1 : xM), k + n = 16 → xfr 31 32 M M1 → M1 31 0 = nI (xRm2 h i) → M1 31 1 = nI (xTr h i) → M1 31 2 = nI (xLa h i) → (∀ j, j < k → M1 32 j = nI (xTi h i j)) → xW xSC 85 41 [.ref 31, .ref 9, .int (nI i), .int (nI k)] [] M1 Q := by
    intro n
    induction n with
    | zero =>
      intro k M1 hk f1 a0 a1 a2 a3
      rw [h85_41]
      simp (disch := omega) only [s85, j85, nI_lt_f, if_false]
      exact hQ M1 f1 ⟨a0, a1, a2, fun j hj => a3 j (by omega)⟩
    | succ n ih =>
      intro k M1 hk f1 a0 a1 a2 a3
      rw [h85_41]
      have e : M1 12 (i * 16 + k) = nI (xTi h i k) := by
        rw [f1 12 (by omega)]
        exact H.2.2.2.1 (i * 16 + k) (by omega)
      simp (disch := omega) only [s85, nI_lt_t, if_true, c32, xpush_s, xpush_n, cS, nI_add, e]
      refine ih (k + 1) _ (by omega) (f1.tr (xfr.up (by decide) (by decide))) ?_ ?_ ?_ (fun j hj => ?_)
      · rw [xup_o (by decide)]; exact a0
      · rw [xup_o (by decide)]; exact a1
      · rw [xup_o (by decide)]; exact a2
      · by_cases q : j = k
        · subst q
          rw [xup_rs]
        · rw [xup_r q]
          exact a3 j (by omega)
  have o11 : ∀ j x, xup M 31 j x 11 = M 11 := fun j x => xup_other (by decide)
  have o11b : ∀ j x j2 y, xup (xup M 31 j x) 31 j2 y 11 = M 11 := fun j x j2 y => by rw [xup_other (by decide), xup_other (by decide)]
  rcases (show xTr h i = 0 ∨ xTr h i = 1 by omega) with q | q
  · rw [q] at m1 key
    simp (disch := first | decide | omega) only [s85, j85, c30, xpush_s, m0, o11, m1, m2, nI_eq_f, if_false, o11b]
    refine key 16 0 _ rfl ((xfr.up (by decide) (by decide)).tr ((xfr.up (by decide) (by decide)).tr (xfr.up (by decide) (by decide)))) ?_ ?_ ?_ (fun j hj => by omega)
    · rw [xup_r (by decide), xup_r (by decide), xup_rs]
    · rw [xup_r (by decide), xup_rs]
    · rw [xup_rs]
  · rw [q] at m1 key
    simp (disch := first | decide | omega) only [s85, j85, c30, xpush_s, m0, o11, m1, m2, nI_eq_t, if_true, o11b]
    refine key 16 0 _ rfl ((xfr.up (by decide) (by decide)).tr ((xfr.up (by decide) (by decide)).tr (xfr.up (by decide) (by decide)))) ?_ ?_ ?_ (fun j hj => by omega)
    · rw [xup_r (by decide), xup_r (by decide), xup_rs]
    · rw [xup_r (by decide), xup_rs]
    · rw [xup_rs]
theorem c87 {rm tr la w : Nat} {T : Nat → Nat} (K : cK rm tr la T M) (ht : tr ≤ 1) (hw : w < 3) : xW xSC 87 0 [.ref 31, .int (nI w)] [] M Q = Q (some (.int (if tr = 0 ∨ w ≠ 1 then nI 1 else nI 0))) M := by
  obtain ⟨-, k1, -, -⟩ := K
  rcases (show tr = 0 ∨ tr = 1 by omega) with rfl | rfl
  · simp (disch := decide) only [s87, j87, k1, i00, if_true]
    simp
  · by_cases q : w = 1
    · subst q
      simp (disch := decide) only [s87, j87, k1, i12, if_false, nI_eq_t, if_true]
      simp
    · simp (disch := first | decide | omega) only [s87, j87, k1, i12, if_false, nI_eq_f]
      simp [q]
theorem c88 {rm tr la d e : Nat} {T : Nat → Nat} (H : cH 9 h M) (W : xWF h) (K : cK rm tr la T M) (hd : d < h 1) (he : e < 2) (hT : ∀ j, j < 16 → T j ≤ 99) (hQ : ∀ M', xfr 31 32 M M' → cK (xdr h d (1 - e)) tr (xw h d e) (xpT T (2 * d + e)) M' → Q none M') : xW xSC 88 0 [.ref 31, .ref 9, .int (nI d), .int (nI e), .null] [] M Q := by
  have h8 := W.1.2.2.1
  obtain ⟨k0, k1, k2, k3⟩ := K
  obtain ⟨-, -, -, hw, -, -, -, -⟩ := W.2.1 d hd
  have m3 : M 10 (d * 6 + 2) = nI (h (3 + (d * 6 + 2))) := H.2.1 _ (by omega)
  have m4 : xwi (nI (h (3 + (d * 6 + 2)))) (nI e) = nI (xw h d e) := xwi_nI (by omega) (by omega)
  have m5 : M 10 (d * 6 + (1 - e)) = nI (xdr h d (1 - e)) := H.2.1 _ (by omega)
  have t1 := hT (2 * d + e) (by omega)
  have mt := k3 (2 * d + e) (by omega)
  have o10 : ∀ b j x, b ≠ 10 → xup M b j x 10 = M 10 := fun b j x q => xup_other (by omega)
  have o10b : ∀ b j x b2 j2 y, b ≠ 10 → b2 ≠ 10 → xup (xup M b j x) b2 j2 y 10 = M 10 := fun b j x b2 j2 y q q2 => by rw [xup_other (by omega), xup_other (by omega)]
  simp (disch := omega) only [s88, j88, pk_mul, nI_add, cG, xpush_s, mt, xmin_nI, cS, xpush_n, c37, o10, m3, m4, pk_sub, c39, o10b, m5]
  refine hQ _ ((xfr.up (by decide) (by decide)).tr ((xfr.up (by decide) (by decide)).tr (xfr.up (by decide) (by decide)))) ⟨?_, ?_, ?_, fun j hj => ?_⟩
  · rw [xup_rs]
  · rw [xup_r (by decide), xup_r (by decide), xup_o (by decide)]
    exact k1
  · rw [xup_r (by decide), xup_rs]
  · rw [xup_o (by decide), xup_o (by decide)]
    unfold xpT
    by_cases q : j = 2 * d + e
    · rw [if_pos q, q, xup_rs]
    · rw [if_neg q, xup_r q]
      exact k3 j hj
theorem c86 {rm tr la i : Nat} {T : Nat → Nat} (H : cH 9 h M) (W : xWF h) (K : cK rm tr la T M) (hi : i < h 2) (hQ : ∀ M', xfr 11 12 M M' → cH 9 (xleave h i rm la T) M' → Q none M') : xW xSC 86 0 [.ref 31, .ref 9, .int (nI i), .null] [] M Q := by
  have h5 := W.1.2.2.2
  obtain ⟨k0, k1, k2, k3⟩ := K
  have key : ∀ (n k : Nat) (M1 : xM), k + n = 16 → xfr 11 12 M M1 → (∀ j, j < 3 * h 2 → M1 11 j = nI (xleave h i rm la T (51 + j))) → (∀ j, j < 80 → M1 12 j = if i * 16 + k ≤ j ∧ j < i * 16 + 16 then M 12 j else nI (xleave h i rm la T (66 + j))) → xW xSC 86 22 [.ref 31, .ref 9, .int (nI i), .int (nI k)] [] M1 Q := by
    intro n
    induction n with
    | zero =>
      intro k M1 hk f1 a1 a2
      rw [h86_22]
      simp (disch := omega) only [s86, j86, nI_lt_f, if_false]
      have b0 : ∀ j, (j < 51 ∨ 146 ≤ j) → xleave h i rm la T j = h j := fun j hj => by
        unfold xleave
        rw [if_neg (by omega), if_neg (by omega), if_neg (by omega)]
      obtain ⟨⟨h1, h2, h3⟩, h4, -, -, h7⟩ := H
      refine hQ M1 f1 ⟨⟨?_, ?_, ?_⟩, fun j hj => ?_, fun j hj => ?_, fun j hj => ?_, fun j hj => ?_⟩
      · rw [f1 9 (by omega), b0 0 (by omega)]; exact h1
      · rw [f1 9 (by omega), b0 1 (by omega)]; exact h2
      · rw [f1 9 (by omega), b0 2 (by omega)]; exact h3
      · rw [f1 (9 + 1) (by omega), b0 _ (by omega)]; exact h4 j hj
      · rw [b0 2 (by omega)] at hj
        exact a1 j hj
      · have := a2 j hj
        rw [if_neg (by omega)] at this
        exact this
      · rw [f1 (9 + 4) (by omega), b0 _ (by omega)]; exact h7 j hj
    | succ n ih =>
      intro k M1 hk f1 a1 a2
      rw [h86_22]
      have e : M1 32 k = nI (T k) := by
        rw [f1 32 (by omega)]
        exact k3 k (by omega)
      simp (disch := omega) only [s86, nI_lt_t, if_true, cG, xpush_s, e, c33, xpush_n, nI_add]
      refine ih (k + 1) _ (by omega) (f1.tr (xfr.up (by decide) (by decide))) (fun j hj => ?_) (fun j hj => ?_)
      · rw [xup_o (by decide)]
        exact a1 j hj
      · by_cases q : j = i * 16 + k
        · rw [if_neg (by omega), q, xup_rs]
          unfold xleave
          rw [if_neg (by omega), if_neg (by omega), if_pos (by omega)]
          congr 2
          omega
        · rw [xup_r q, a2 j hj]
          by_cases q2 : i * 16 + (k + 1) ≤ j ∧ j < i * 16 + 16
          · rw [if_pos (by omega), if_pos q2]
          · rw [if_neg (by omega), if_neg q2]
  have o31 : ∀ j x, xup M 11 j x 31 = M 31 := fun j x => xup_other (by decide)
  simp (disch := omega) only [s86, k0, c31, xpush_n, o31, k2]
  refine key 16 0 _ rfl ((xfr.up (by decide) (by decide)).tr (xfr.up (by decide) (by decide))) (fun j hj => ?_) (fun j hj => ?_)
  · unfold xleave
    by_cases q0 : j = i * 3 + 0
    · rw [q0, xup_r (by omega), xup_rs, if_pos rfl]
    · by_cases q2 : j = i * 3 + 2
      · rw [q2, xup_rs, if_neg (by omega), if_pos rfl]
      · rw [xup_r q2, xup_r q0, if_neg (by omega), if_neg (by omega), if_neg (by omega)]
        exact H.2.2.1 j hj
  · rw [xup_o (by decide), xup_o (by decide)]
    by_cases q : i * 16 + 0 ≤ j ∧ j < i * 16 + 16
    · rw [if_pos q]
    · rw [if_neg q]
      unfold xleave
      rw [if_neg (by omega), if_neg (by omega), if_neg (by omega)]
      exact H.2.2.2.1 j hj
def xAA (h T : Nat → Nat) (la tr d e : Nat) : Nat := xab (xw h d e) tr (xlv2 h d) (T (2 * d) + T (2 * d + 1)) (xPP h T la d e) (xQQ h T la d e)
def xBB (h T : Nat → Nat) (la d e : Nat) : Nat := xbe (xlv2 h d) (T (2 * d) + T (2 * d + 1)) (xPP h T la d e) (xQQ h T la d e)
theorem c50_33 {d e rm tr la : Nat} {T : Nat → Nat} (H : cH 9 h M) (K : cK rm tr la T M) (W : xWF h) (hd : d < h 1) (he : e < 2) (hl : la ≤ 3) (hr : tr ≤ 1) (hT : ∀ j, j < 16 → T j ≤ 99) : xW xSC 50 0 [.ref 33, .ref 9, .ref 31, .int (nI d), .int (nI e), .null, .null] [] M Q = Q none (xsf 33 (xPP h T la d e) (xQQ h T la d e) (xAA h T la tr d e) (xBB h T la d e) M) := by
  have h8 := W.1.2.2.1
  obtain ⟨-, -, -, hw, -, hv, -, -⟩ := W.2.1 d hd
  have K0 := K
  obtain ⟨k0, k1, k2, k3⟩ := K0
  have e10 : ∀ p r, xsc 33 p r M 10 = M 10 := fun p r => xsc_o (by decide)
  have e31 : ∀ p r, xsc 33 p r M 31 = M 31 := fun p r => xsc_o (by decide)
  have e32 : ∀ p r, xsc 33 p r M 32 = M 32 := fun p r => xsc_o (by decide)
  have t0 := k3 (2 * d) (by omega)
  have t1 := k3 (2 * d + 1) (by omega)
  have m3 : M 10 (d * 6 + 2) = nI (h (3 + (d * 6 + 2))) := H.2.1 _ (by omega)
  have m4 : xwi (nI (h (3 + (d * 6 + 2)))) (nI e) = nI (xw h d e) := xwi_nI (by omega) (by omega)
  have m5 : M 10 (d * 6 + 3) = nI (xlv2 h d) := H.2.1 _ (by omega)
  have hv2 : xlv2 h d ≤ 2 := hv
  simp (disch := omega) only [s50, j50, c43_33 H K W hd he hl hT, xpush_n, e32, pk_mul, nI_add, cG, xpush_s, t0, t1, c28, e10, m5, c37, m3, m4, e31, k1, c51_33 (show xw h d e < 3 from xwt_lt _ _) hr hv2]
  rfl
theorem c50_35 {d e rm tr la : Nat} {T : Nat → Nat} (H : cH 9 h M) (K : cK rm tr la T M) (W : xWF h) (hd : d < h 1) (he : e < 2) (hl : la ≤ 3) (hr : tr ≤ 1) (hT : ∀ j, j < 16 → T j ≤ 99) : xW xSC 50 0 [.ref 35, .ref 9, .ref 31, .int (nI d), .int (nI e), .null, .null] [] M Q = Q none (xsf 35 (xPP h T la d e) (xQQ h T la d e) (xAA h T la tr d e) (xBB h T la d e) M) := by
  have h8 := W.1.2.2.1
  obtain ⟨-, -, -, hw, -, hv, -, -⟩ := W.2.1 d hd
  have K0 := K
  obtain ⟨k0, k1, k2, k3⟩ := K0
  have e10 : ∀ p r, xsc 35 p r M 10 = M 10 := fun p r => xsc_o (by decide)
  have e31 : ∀ p r, xsc 35 p r M 31 = M 31 := fun p r => xsc_o (by decide)
  have e32 : ∀ p r, xsc 35 p r M 32 = M 32 := fun p r => xsc_o (by decide)
  have t0 := k3 (2 * d) (by omega)
  have t1 := k3 (2 * d + 1) (by omega)
  have m3 : M 10 (d * 6 + 2) = nI (h (3 + (d * 6 + 2))) := H.2.1 _ (by omega)
  have m4 : xwi (nI (h (3 + (d * 6 + 2)))) (nI e) = nI (xw h d e) := xwi_nI (by omega) (by omega)
  have m5 : M 10 (d * 6 + 3) = nI (xlv2 h d) := H.2.1 _ (by omega)
  have hv2 : xlv2 h d ≤ 2 := hv
  simp (disch := omega) only [s50, j50, c43_35 H K W hd he hl hT, xpush_n, e32, pk_mul, nI_add, cG, xpush_s, t0, t1, c28, e10, m5, c37, m3, m4, e31, k1, c51_35 (show xw h d e < 3 from xwt_lt _ _) hr hv2]
  rfl
end C18
