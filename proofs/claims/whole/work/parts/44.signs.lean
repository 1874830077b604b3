/-! what to put on a door for so much -/
def xcr (h : Nat → Nat) (s : Nat) : Nat → Nat → Nat
  | _, 0 => 0
  | k, n + 1 => xbs s k * h (146 + (6 + k)) + xcr h s (k + 1) n
/-- what a set of signs costs -/
def xcs (h : Nat → Nat) (s : Nat) : Nat := xcr h s 0 4
def xgA (h : Nat → Nat) (d e s : Nat) : Nat := xsA h (xlv2 h d) (xw h d e) (xg h d e / 16 * 16 + s) (xg h d (1 - e))
def xgB (h : Nat → Nat) (d e s : Nat) : Nat := xsB h (xlv2 h d) (xw h d e) (xg h d e / 16 * 16 + s) (xg h d (1 - e))
/-- is set s better than set b? -/
def xbt2 (h : Nat → Nat) (d e s b : Nat) : Bool := decide (xgA h d e s * xgB h d e b < xgA h d e b * xgB h d e s ∨ (xgA h d e s * xgB h d e b = xgA h d e b * xgB h d e s ∧ xcs h s < xcs h b))
def xbst (h : Nat → Nat) (d e c : Nat) : Nat → Nat → Nat → Nat
  | _, 0, b => b
  | s, n + 1, b => xbst h d e c (s + 1) n (if xcs h s ≤ c ∧ xbt2 h d e s b = true then s else b)
theorem m48 : ∀ m, m < 64 → nI m &&& nI 48 = nI (m / 16 * 16) := by decide +kernel
theorem or16 : ∀ m, m < 4 → ∀ s, s < 16 → nI s ||| nI (m * 16) = nI (m * 16 + s) ∧ nI (m * 16) ||| nI s = nI (m * 16 + s) := by decide +kernel
theorem xb16 : ∀ m, m < 4 → ∀ s, s < 16 → ∀ k, k < 4 → xbs (m * 16 + s) k = xbs s k := by decide +kernel
theorem lgc_eq (x y : Int64) : (lg_cmp x y = nI 0) = (x = y) := propext (lg_cmp_eq x y)
theorem pk_lLT' {a b : Nat} (ha : a < 2 ^ 63) (hb : b < 2 ^ 63) : (lN a < lN b) = (a < b) := propext (pk_lLT ha hb)
theorem pk_lEQ' {a b : Nat} (ha : a < 2 ^ 63) (hb : b < 2 ^ 63) : (lN a = lN b) = (a = b) := propext (pk_lEQ ha hb)
theorem xcr_cg {h : Nat → Nat} {s s' : Nat} : ∀ n k, (∀ j, k ≤ j → j < k + n → xbs s' j = xbs s j) → xcr h s' k n = xcr h s k n
  | 0, _, _ => rfl
  | n + 1, k, q => by
    simp only [xcr]
    rw [q k (by omega) (by omega), xcr_cg n (k + 1) (fun j a b => q j (by omega) (by omega))]
theorem xcs_16 {h : Nat → Nat} {m s : Nat} (hm : m < 4) (hs : s < 16) : xcs h (m * 16 + s) = xcs h s := xcr_cg 4 0 (fun j _ b => xb16 m hm s hs j (by omega))
theorem xcr_le {h : Nat → Nat} (W : xWF h) (s : Nat) : ∀ n k, k + n ≤ 4 → xcr h s k n ≤ 20 * n
  | 0, k, _ => Nat.zero_le _
  | n + 1, k, q => by
    have a := xcr_le W s n (k + 1) (by omega)
    have b := xbs_le s k (h (146 + (6 + k)))
    have c := W.2.2.2.2 (6 + k) (by omega)
    simp only [xcr]
    omega
theorem xcs_le {h : Nat → Nat} (W : xWF h) (s : Nat) : xcs h s ≤ 80 := xcr_le W s 4 0 (by omega)
section C44
variable {M N : xM} {Q : Option Value → xM → Prop} {S S1 : xA} {h h' : Nat → Nat}
theorem c41 {s : Nat} (H : cH 9 h M) (hs : s < 64) : xW xSC 41 0 [.ref 9, .int (nI s), .null, .null] [] M Q = Q (some (.int (nI (xcs h s)))) M := by
  have key : ∀ (n k t : Nat), k + n = 4 → xW xSC 41 4 [.ref 9, .int (nI s), .int (nI t), .int (nI k)] [] M Q = Q (some (.int (nI (t + xcr h s k n)))) M := by
    intro n
    induction n with
    | zero =>
      intro k t hk
      rw [h41_4]
      simp (disch := first | decide | omega) only [s41, nI_lt_f, if_false]
      rfl
    | succ n ih =>
      intro k t hk
      have m1 : M 13 (6 + k) = nI (h (146 + (6 + k))) := H.2.2.2.2 _ (by omega)
      rw [h41_4]
      simp only [xcr]
      rcases xbs01 s k with q | q
      · simp (disch := first | decide | omega) only [s41, nI_lt_t, if_true, xsb, q, nI_eq_f, if_false, h41_29, nI_add, ih, Nat.zero_mul, Nat.zero_add]
      · simp (disch := first | decide | omega) only [s41, nI_lt_t, if_true, xsb, q, nI_eq_t, h41_29, nI_add, c34, m1, xpush_s, ih, Nat.one_mul]
        rw [Nat.add_assoc]
  have k0 := key 4 0 0 rfl
  rw [Nat.zero_add] at k0
  simp (disch := first | decide | omega) only [s41, k0]
  rfl
theorem c56 {A B a b : Nat} (m2 : M 40 2 = nI A) (m3 : M 40 3 = nI B) (h1 : A < 2 ^ 31) (h2 : B < 2 ^ 31) (h3 : a < 2 ^ 31) (h4 : b < 2 ^ 31) : xW xSC 56 0 [.ref 40, .int (nI a), .int (nI b)] [] M Q = Q (some (.int (if A * b < a * B then nI 1 else nI 0))) M := by
  have p1 : A * b < 2 ^ 63 := Nat.lt_of_le_of_lt (Nat.mul_le_mul (Nat.le_of_lt h1) (Nat.le_of_lt h4)) (by decide)
  have p2 : a * B < 2 ^ 63 := Nat.lt_of_le_of_lt (Nat.mul_le_mul (Nat.le_of_lt h3) (Nat.le_of_lt h2)) (by decide)
  by_cases q : A * b < a * B
  · simp (disch := first | decide | omega) only [s56, m2, m3, nI_l, lN_mul, lgc_lt, pk_lLT' p1 p2, q, if_true, h56_25]
  · simp (disch := first | decide | omega) only [s56, m2, m3, nI_l, lN_mul, lgc_lt, pk_lLT' p1 p2, q, if_false, h56_25]
theorem c57 {A B a b : Nat} (m2 : M 40 2 = nI A) (m3 : M 40 3 = nI B) (h1 : A < 2 ^ 31) (h2 : B < 2 ^ 31) (h3 : a < 2 ^ 31) (h4 : b < 2 ^ 31) : xW xSC 57 0 [.ref 40, .int (nI a), .int (nI b)] [] M Q = Q (some (.int (if A * b = a * B then nI 1 else nI 0))) M := by
  have p1 : A * b < 2 ^ 63 := Nat.lt_of_le_of_lt (Nat.mul_le_mul (Nat.le_of_lt h1) (Nat.le_of_lt h4)) (by decide)
  have p2 : a * B < 2 ^ 63 := Nat.lt_of_le_of_lt (Nat.mul_le_mul (Nat.le_of_lt h3) (Nat.le_of_lt h2)) (by decide)
  by_cases q : A * b = a * B
  · simp (disch := first | decide | omega) only [s57, m2, m3, nI_l, lN_mul, lgc_eq, pk_lEQ' p1 p2, q, if_true, h57_25]
  · simp (disch := first | decide | omega) only [s57, m2, m3, nI_l, lN_mul, lgc_eq, pk_lEQ' p1 p2, q, if_false, h57_25]
theorem c63i {d w s : Nat} (H : cH 9 h M) (W : xWF h) (hd : d < h 1) (hw : w < 3) (hm : s < 64) {o : Nat} (ho : o < 64) (hQ : ∀ M', xfr 40 40 M M' → M' 40 2 = nI (xsA h (xlv2 h d) w s o) → M' 40 3 = nI (xsB h (xlv2 h d) w s o) → Q none M') : xW xSC 63 0 [.ref 39, .ref 9, .int (nI d), .int (nI w), .int (nI s), .int (nI o)] [] M Q := by
  rw [c63 H W hd hw hm ho]
  exact hQ _ xsf_fr (xsf_2 _ _ _ _ _ _) (xsf_3 _ _ _ _ _ _)
theorem c62 {d e c : Nat} (H : cH 9 h M) (W : xWF h) (hd : d < h 1) (he : e < 2) (hc : c ≤ 99) (hQ : ∀ M', xfr 40 40 M M' → Q (some (.int (nI (xg h d e / 16 * 16 + xbst h d e c 1 15 0)))) M') : xW xSC 62 0 [.ref 39, .ref 9, .int (nI d), .int (nI e), .int (nI c), .null, .null, .null, .null, .null, .null, .null, .null, .null] [] M Q := by
  have h8 := W.1.2.2.1
  obtain ⟨-, -, -, hw2, -, -, -, -⟩ := W.2.1 d hd
  have m3 : M 10 (d * 6 + 2) = nI (h (3 + (d * 6 + 2))) := H.2.1 _ (by omega)
  have m4 : xwi (nI (h (3 + (d * 6 + 2)))) (nI e) = nI (xw h d e) := xwi_nI (by omega) (by omega)
  have g1 : M 10 (d * 6 + (4 + e)) = nI (xg h d e) := H.2.1 _ (by omega)
  have g2 : M 10 (d * 6 + (4 + (1 - e))) = nI (xg h d (1 - e)) := H.2.1 _ (by omega)
  have l1 := W.g hd he
  have l2 := W.g hd (show 1 - e < 2 by omega)
  have lw : xw h d e < 3 := xwt_lt _ _
  have lA : ∀ s, xgA h d e s < 2 ^ 31 := fun s => by
    have := (xsA_le W (xlv2 h d) (xw h d e) (xg h d e / 16 * 16 + s) (xg h d (1 - e))).2.2.2
    unfold xgA
    omega
  have lB : ∀ s, xgB h d e s < 2 ^ 31 := fun s => by
    have := (xsA_le W (xlv2 h d) (xw h d e) (xg h d e / 16 * 16 + s) (xg h d (1 - e))).2.2.1
    unfold xgB
    omega
  have key : ∀ (n s b : Nat) (M1 : xM) (x12 x13 : Value), s + n = 16 → b < 16 → xfr 40 40 M M1 → xbst h d e c s n b = xbst h d e c 1 15 0 → xW xSC 62 66 [.ref 39, .ref 9, .int (nI d), .int (nI e), .int (nI c), .int (nI (xg h d e / 16 * 16)), .int (nI (xw h d e)), .int (nI (xg h d (1 - e))), .int (nI (xg h d e / 16 * 16 + b)), .int (nI (xgA h d e b)), .int (nI (xgB h d e b)), .int (nI s), x12, x13] [] M1 Q := by
    intro n
    induction n with
    | zero =>
      intro s b M1 x12 x13 hs hb f q
      have q : b = xbst h d e c 1 15 0 := q
      rw [← q] at hQ
      rw [h62_66]
      simp (disch := first | decide | omega) only [s62, nI_lt_f, if_false]
      exact hQ M1 f
    | succ n ih =>
      intro s b M1 x12 x13 hs hb f q
      have q : xbst h d e c (s + 1) n (if xcs h s ≤ c ∧ xbt2 h d e s b = true then s else b) = xbst h d e c 1 15 0 := q
      have H1 := H.fr f (by omega)
      have ls := xcs_le W s
      have lb := xcs_le W b
      obtain ⟨o1, -⟩ := or16 (xg h d e / 16) (by omega) s (by omega)
      have e16 : xcs h (xg h d e / 16 * 16 + b) = xcs h b := xcs_16 (by omega) hb
      rw [h62_66]
      by_cases y0 : xcs h s ≤ c
      · simp (disch := first | decide | omega) only [s62, nI_lt_t, if_true, c41 H1 (show s < 64 by omega), xpush_s, nI_lt_f, if_false, o1]
        refine c63i H1 W hd lw (show xg h d e / 16 * 16 + s < 64 by omega) l2 (fun M2 f1 k2 k3 => ?_)
        have f2 := f.tr f1
        have k2 : M2 40 2 = nI (xgA h d e s) := k2
        have k3 : M2 40 3 = nI (xgB h d e s) := k3
        have H2 := H.fr f2 (by omega)
        have E57 := fun (Q : Option Value → xM → Prop) => c57 (Q := Q) k2 k3 (lA s) (lB s) (lA b) (lB b)
        have E56 := fun (Q : Option Value → xM → Prop) => c56 (Q := Q) k2 k3 (lA s) (lB s) (lA b) (lB b)
        have yes : xbt2 h d e s b = true → ∀ x12 x13, xW xSC 62 66 [.ref 39, .ref 9, .int (nI d), .int (nI e), .int (nI c), .int (nI (xg h d e / 16 * 16)), .int (nI (xw h d e)), .int (nI (xg h d (1 - e))), .int (nI (xg h d e / 16 * 16 + s)), .int (nI (xgA h d e s)), .int (nI (xgB h d e s)), .int (nI (s + 1)), x12, x13] [] M2 Q := fun z x12 x13 => by
          rw [if_pos ⟨y0, z⟩] at q
          exact ih (s + 1) s M2 x12 x13 (by omega) (by omega) f2 q
        have no : ¬ xbt2 h d e s b = true → ∀ x12 x13, xW xSC 62 66 [.ref 39, .ref 9, .int (nI d), .int (nI e), .int (nI c), .int (nI (xg h d e / 16 * 16)), .int (nI (xw h d e)), .int (nI (xg h d (1 - e))), .int (nI (xg h d e / 16 * 16 + b)), .int (nI (xgA h d e b)), .int (nI (xgB h d e b)), .int (nI (s + 1)), x12, x13] [] M2 Q := fun z x12 x13 => by
          rw [if_neg (fun w => z w.2)] at q
          exact ih (s + 1) b M2 x12 x13 (by omega) hb f2 q
        unfold xbt2 at yes no
        rw [decide_eq_true_iff] at yes no
        by_cases z1 : xgA h d e s * xgB h d e b = xgA h d e b * xgB h d e s
        · by_cases z2 : xcs h s < xcs h b
          · simp (disch := first | decide | omega) only [xpush_n, s62, E57, xpush_s, z1, if_true, i12, if_false, c41 H2 (show xg h d e / 16 * 16 + b < 64 by omega), e16, nI_lt_t, h62_136, h62_157, o1, k2, k3, h62_182, nI_add]
            exact yes (Or.inr ⟨z1, z2⟩) _ _
          · have z3 : ¬ xgA h d e b * xgB h d e s < xgA h d e b * xgB h d e s := Nat.lt_irrefl _
            simp (disch := first | decide | omega) only [xpush_n, s62, E57, E56, xpush_s, z1, z3, if_true, i12, i00, if_false, c41 H2 (show xg h d e / 16 * 16 + b < 64 by omega), e16, nI_lt_f, h62_135, h62_136, h62_182, nI_add]
            exact no (fun w => w.elim (fun w => by omega) (fun w => z2 w.2)) _ _
        · by_cases z2 : xgA h d e s * xgB h d e b < xgA h d e b * xgB h d e s
          · simp (disch := first | decide | omega) only [xpush_n, s62, E57, E56, xpush_s, z1, z2, if_true, i12, i00, if_false, h62_135, h62_136, h62_157, o1, k2, k3, h62_182, nI_add]
            exact yes (Or.inl z2) _ _
          · simp (disch := first | decide | omega) only [xpush_n, s62, E57, E56, xpush_s, z1, z2, if_true, i12, i00, if_false, h62_135, h62_136, h62_182, nI_add]
            exact no (fun w => w.elim (fun w => z2 w) (fun w => z1 w.1)) _ _
      · rw [if_neg (fun w => y0 w.1)] at q
        simp (disch := first | decide | omega) only [s62, nI_lt_t, if_true, c41 H1 (show s < 64 by omega), xpush_s, h62_182, nI_add]
        exact ih (s + 1) b M1 _ _ (by omega) hb f q
  simp (disch := first | decide | omega) only [s62, c36, g1, g2, xpush_s, c37, m3, m4, pk_sub, m48 _ l1]
  refine c63i H W hd lw (show xg h d e / 16 * 16 < 64 by omega) l2 (fun M2 f1 k2 k3 => ?_)
  have k2 : M2 40 2 = nI (xgA h d e 0) := k2
  have k3 : M2 40 3 = nI (xgB h d e 0) := k3
  simp (disch := first | decide | omega) only [xpush_n, s62, k2, k3]
  exact key 15 1 0 _ _ _ (by omega) (by omega) f1 rfl
end C44
