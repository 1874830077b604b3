/-! numbers of a text: the reference -/
section C53
variable {M N : xM} {Q : Option Value → xM → Prop} {T : Nat → Nat} {n : Nat}
theorem r135n {v a b : Nat} (hv : v < 2 ^ 31) (ha : a < 2 ^ 31) (hb : b < 2 ^ 31) : xW xSR 135 0 [.long (lN v), .null, .long (lN a), .null, .long (lN b), .null] [] N Q = Q (some (.int (if a ≤ v ∧ v ≤ b then nI 1 else nI 0))) N := by
  rw [r135]
  have e : (lN a ≤ lN v ∧ lN v ≤ lN b) = (a ≤ v ∧ v ≤ b) := by
    rw [propext (lN_le ha hv), propext (lN_le hv hb)]
  simp only [e]
theorem r145 {p : Nat} (X : xTx T n) (C : rT T n N) (hp : p < 2 ^ 20) : xW xSR 145 0 [.ref 0, .int (nI p)] [] N Q = Q (some (.int (if xfg T n p = true then nI 1 else nI 0))) N := by
  have n2 := X.1
  have m4 := C.1
  by_cases z : p < n
  · have m2 := C.2 p z
    have := X.2 p z
    by_cases y : 48 ≤ T p ∧ T p ≤ 57
    · have e : xfg T n p = true := decide_eq_true ⟨z, y⟩
      rw [if_pos e]
      simp (disch := first | decide | omega) only [s145, m4, nI_lt_t, if_true, m2, nI_l, r135n, xpush_s, if_pos y, i12, if_false, h145_32]
    · have e : ¬ xfg T n p = true := fun q => y (xfg_t q).2
      rw [if_neg e]
      simp (disch := first | decide | omega) only [s145, m4, nI_lt_t, if_true, m2, nI_l, r135n, xpush_s, if_neg y, i00, h145_31, h145_32]
  · have e : ¬ xfg T n p = true := fun q => z (xfg_t q).1
    rw [if_neg e]
    simp (disch := first | decide | omega) only [s145, m4, nI_lt_f, if_false, h145_31, h145_32]
/-- one figure more -/
theorem r146f {many k b v p : Nat} {is : Int32} (X : xTx T n) (C : rT T n N) (hp : p ≤ n + 3) (at' : N 0 4 = nI p) (hb : b ≤ p) (h3 : p < b + 3) (hv : v ≤ 99) (f : xfg T n p = true) : xW xSR 146 22 [.ref 0, .int (nI many), .int is, .int (nI k), .int (nI b), .int (nI v)] [] N Q = xW xSR 146 22 [.ref 0, .int (nI many), .int is, .int (nI k), .int (nI b), .int (nI (10 * v + (T p - 48)))] [] (xup N 0 4 (nI (p + 1))) Q := by
  have n2 := X.1
  have a := xfg_t f
  have m2 := C.2 p a.1
  have e : 10 * v + T p - 48 = 10 * v + (T p - 48) := by omega
  rw [h146_22]
  simp (disch := first | decide | omega) only [s146, at', r145 X C (show p < 2 ^ 20 by omega), if_pos f, xpush_s, i12, if_false, pk_sub, nI_lt_t, if_true, pk_mul, m2, nI_add, e]
theorem r146s {many k b v p : Nat} {is : Int32} (X : xTx T n) (C : rT T n N) (hp : p ≤ n + 3) (at' : N 0 4 = nI p) (hb : b ≤ p) (f : ¬ xfg T n p = true ∨ b + 3 ≤ p) : xW xSR 146 22 [.ref 0, .int (nI many), .int is, .int (nI k), .int (nI b), .int (nI v)] [] N Q = xW xSR 146 77 [.ref 0, .int (nI many), .int is, .int (nI k), .int (nI b), .int (nI v)] [] N Q := by
  have n2 := X.1
  rw [h146_22]
  by_cases a : xfg T n p = true
  · have f : b + 3 ≤ p := f.resolve_left (fun z => z a)
    have q : (nI (p - b) < nI 3) = False := nI_lt_f (by omega) (by omega)
    simp (disch := first | decide | omega) only [s146, at', r145 X C (show p < 2 ^ 20 by omega), if_pos a, xpush_s, i12, if_false, pk_sub, q]
  · simp (disch := first | decide | omega) only [s146, at', r145 X C (show p < 2 ^ 20 by omega), if_neg a, xpush_s, i00, if_true]
theorem r146 {many : Nat} (X : xTx T n) (C : rT T n N) (hm : many ≤ 6) : ∀ (m k p : Nat) (f : Nat → Nat) (N1 : xM) (x4 x5 : Value), k + m = many → p ≤ n → trf N N1 → N1 0 4 = nI p → (∀ j, j < k → N1 4 j = nI (f j)) → (xns T n m k p f = none → ∀ N', trf N N' → Q (some (.int (nI 0))) N') → (∀ g z, xns T n m k p f = some (g, z) → ∀ N', trf N N' → N' 0 4 = nI z → (∀ j, j < many → N' 4 j = nI (g j)) → Q (some (.int (nI 1))) N') → xW xSR 146 4 [.ref 0, .int (nI many), .int (nI 1), .int (nI k), x4, x5] [] N1 Q := by
  have n2 := X.1
  intro m
  induction m with
  | zero =>
    intro k p f N1 x4 x5 hk hp fr at' nu q0 q1
    have hk : k = many := hk
    rw [h146_4]
    rw [hk] at nu ⊢
    simp (disch := first | decide | omega) only [s146, nI_lt_f, if_false, h146_162]
    exact q1 f p rfl N1 fr at' nu
  | succ m ih =>
    intro k p f N1 x4 x5 hk hp fr at' nu q0 q1
    have C1 := C.fr fr
    have no : ∀ (p' v : Nat) (N2 : xM), p' ≤ n + 3 → p ≤ p' → trf N N2 → N2 0 4 = nI p' → xnm T n p (if m = 0 then 59 else 44) = none → (¬ (p + 1 ≤ p' ∧ p' ≤ p + 2) ∨ ¬ (p' < n ∧ T p' = (if m = 0 then 59 else 44))) → xW xSR 146 77 [.ref 0, .int (nI many), .int (nI 1), .int (nI k), .int (nI p), .int (nI v)] [] N2 Q := by
      intro p' v N2 hp' hb f2 at2 e w
      have C2 := C.fr f2
      have q0 := q0 (by simp only [xns, e]; rfl)
      have done : ∀ (N3 : xM) (x4 x5 : Value), trf N N3 → xW xSR 146 4 [.ref 0, .int (nI many), .int (nI 0), .int (nI (k + 1)), x4, x5] [] N3 Q := fun N3 x4 x5 f3 => by
        rw [h146_4]
        by_cases u : k + 1 < many
        · simp (disch := first | decide | omega) only [s146, nI_lt_t, if_true, i00, h146_162]
          exact q0 N3 f3
        · simp (disch := first | decide | omega) only [s146, nI_lt_f, if_false, h146_162]
          exact q0 N3 f3
      have f3 : trf N (xup (xup N2 4 k (nI v)) 0 4 (nI (p' + 1))) := f2.tr (trf.n.tr trf.a)
      by_cases c1 : p + 1 ≤ p' ∧ p' ≤ p + 2
      · have w := w.resolve_left (fun z => z c1)
        have c3 : 1 ≤ p' - p ∧ p' - p ≤ 2 := by omega
        by_cases c2 : p' < n
        · have tn : T p' ≠ (if m = 0 then 59 else 44) := fun z => w ⟨c2, z⟩
          have m2 := C2.2 p' c2
          have := X.2 p' c2
          rw [h146_77]
          by_cases w0 : m = 0
          · rw [if_pos w0] at tn
            have ek : (nI k = nI (many - 1)) = True := nI_eq_t (by omega)
            simp (disch := first | decide | omega) only [s146, xup_o, at2, pk_sub, nI_l, r135n, if_pos c3, xpush_s, i12, if_false, C2.1, nI_lt_t, if_true, m2, ek, h146_137, nI_eq_f, h146_144, h146_145, nI_add]
            exact done _ _ _ f3
          · rw [if_neg w0] at tn
            have ek : (nI k = nI (many - 1)) = False := nI_eq_f (by omega) (by omega) (by omega)
            simp (disch := first | decide | omega) only [s146, xup_o, at2, pk_sub, nI_l, r135n, if_pos c3, xpush_s, i12, if_false, C2.1, nI_lt_t, if_true, m2, ek, h146_137, nI_eq_f, h146_144, h146_145, nI_add]
            exact done _ _ _ f3
        · rw [h146_77]
          simp (disch := first | decide | omega) only [s146, xup_o, at2, pk_sub, nI_l, r135n, if_pos c3, xpush_s, i12, if_false, C2.1, nI_lt_f, h146_144, h146_145, nI_add]
          exact done _ _ _ f3
      · have c3 : ¬ (1 ≤ p' - p ∧ p' - p ≤ 2) := by omega
        rw [h146_77]
        simp (disch := first | decide | omega) only [s146, xup_o, at2, pk_sub, nI_l, r135n, if_neg c3, xpush_s, i00, if_true, h146_144, h146_145, nI_add]
        exact done _ _ _ f3
    have yes : ∀ (p' v : Nat) (N2 : xM), p + 1 ≤ p' ∧ p' ≤ p + 2 → trf N N2 → N2 0 4 = nI p' → (∀ j, j < k → N2 4 j = nI (f j)) → xnm T n p (if m = 0 then 59 else 44) = some (v, p' + 1) → p' < n ∧ T p' = (if m = 0 then 59 else 44) → xW xSR 146 77 [.ref 0, .int (nI many), .int (nI 1), .int (nI k), .int (nI p), .int (nI v)] [] N2 Q := by
      intro p' v N2 c1 f2 at2 nu2 e c2
      have C2 := C.fr f2
      simp only [xns, e, Option.bind_some] at q0 q1
      have c3 : 1 ≤ p' - p ∧ p' - p ≤ 2 := by omega
      have m2 := C2.2 p' c2.1
      have := X.2 p' c2.1
      have nxt := ih (k + 1) (p' + 1) (fun j => if j = k then v else f j) (xup (xup N2 4 k (nI v)) 0 4 (nI (p' + 1))) (.int (nI p)) (.int (nI v)) (by omega) (by omega) (f2.tr (trf.n.tr trf.a)) (xup_rs _ _ _ _) (fun j hj => by
        by_cases w : j = k
        · rw [w, xup_o (by decide), xup_rs, if_pos rfl]
        · rw [xup_o (by decide), xup_r w, if_neg w]
          exact nu2 j (by omega)) q0 q1
      have tn := c2.2
      rw [h146_77]
      by_cases w0 : m = 0
      · rw [if_pos w0] at tn
        rw [tn] at m2
        have ek : (nI k = nI (many - 1)) = True := nI_eq_t (by omega)
        simp (disch := first | decide | omega) only [s146, xup_o, at2, pk_sub, nI_l, r135n, if_pos c3, xpush_s, i12, if_false, C2.1, nI_lt_t, if_true, m2, ek, h146_137, nI_eq_t, h146_145, nI_add]
        exact nxt
      · rw [if_neg w0] at tn
        rw [tn] at m2
        have ek : (nI k = nI (many - 1)) = False := nI_eq_f (by omega) (by omega) (by omega)
        simp (disch := first | decide | omega) only [s146, xup_o, at2, pk_sub, nI_l, r135n, if_pos c3, xpush_s, i12, if_false, C2.1, nI_lt_t, if_true, m2, ek, h146_137, nI_eq_t, h146_145, nI_add]
        exact nxt
    rw [h146_4]
    simp (disch := first | decide | omega) only [s146, nI_lt_t, if_true, i12, if_false, at']
    by_cases a : xfg T n p = true
    · have a2 := xfg_t a
      have f1 : trf N (xup N1 0 4 (nI (p + 1))) := fr.tr trf.a
      rw [r146f X C1 (by omega) at' (Nat.le_refl p) (by omega) (by omega) a]
      by_cases b : xfg T n (p + 1) = true
      · have b2 := xfg_t b
        have f2 : trf N (xup (xup N1 0 4 (nI (p + 1))) 0 4 (nI (p + 1 + 1))) := f1.tr trf.a
        rw [r146f X (C.fr f1) (by omega) (xup_rs _ _ _ _) (by omega) (by omega) (by omega) b]
        by_cases d : xfg T n (p + 1 + 1) = true
        · have d2 := xfg_t d
          have f3 : trf N (xup (xup (xup N1 0 4 (nI (p + 1))) 0 4 (nI (p + 1 + 1))) 0 4 (nI (p + 1 + 1 + 1))) := f2.tr trf.a
          rw [r146f X (C.fr f2) (by omega) (xup_rs _ _ _ _) (by omega) (by omega) (by omega) d]
          rw [r146s X (C.fr f3) (by omega) (xup_rs _ _ _ _) (by omega) (Or.inr (by omega))]
          refine no (p + 1 + 1 + 1) _ _ (by omega) (by omega) f3 (xup_rs _ _ _ _) ?_ (Or.inl (by omega))
          unfold xnm
          rw [if_pos a, if_pos b, if_neg (fun w => by
            have := w.2
            split at this <;> omega)]
        · rw [r146s X (C.fr f2) (by omega) (xup_rs _ _ _ _) (by omega) (Or.inl d)]
          by_cases w : p + 1 + 1 < n ∧ T (p + 1 + 1) = (if m = 0 then 59 else 44)
          · refine yes (p + 1 + 1) _ _ (by omega) f2 (xup_rs _ _ _ _) (fun j hj => by rw [xup_o (by decide), xup_o (by decide)]; exact nu j hj) ?_ w
            unfold xnm
            rw [if_pos a, if_pos b, if_pos w, Nat.mul_zero, Nat.zero_add]
          · refine no (p + 1 + 1) _ _ (by omega) (by omega) f2 (xup_rs _ _ _ _) ?_ (Or.inr w)
            unfold xnm
            rw [if_pos a, if_pos b, if_neg w]
      · rw [r146s X (C.fr f1) (by omega) (xup_rs _ _ _ _) (by omega) (Or.inl b)]
        by_cases w : p + 1 < n ∧ T (p + 1) = (if m = 0 then 59 else 44)
        · refine yes (p + 1) _ _ (by omega) f1 (xup_rs _ _ _ _) (fun j hj => by rw [xup_o (by decide)]; exact nu j hj) ?_ w
          unfold xnm
          rw [if_pos a, if_neg b, if_pos w, Nat.mul_zero, Nat.zero_add]
        · refine no (p + 1) _ _ (by omega) (by omega) f1 (xup_rs _ _ _ _) ?_ (Or.inr w)
          unfold xnm
          rw [if_pos a, if_neg b, if_neg w]
    · rw [r146s X C1 (by omega) at' (Nat.le_refl p) (Or.inl a)]
      refine no p 0 N1 (by omega) (Nat.le_refl p) fr at' ?_ (Or.inl (by omega))
      unfold xnm
      rw [if_neg a]
end C53
