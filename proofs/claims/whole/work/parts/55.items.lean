/-! items of a text: the class -/
/-- nothing but what a reader works with has changed -/
def pcf (M M' : xM) : Prop := (∀ a, a ≠ 1 → a ≠ 3 → (a < 4 ∨ 8 < a) → M' a = M a) ∧ M' 1 4 = M 1 4
theorem pcf.rf {M : xM} : pcf M M := ⟨fun _ _ _ _ => rfl, rfl⟩
theorem pcf.tr {M M1 M2 : xM} (f : pcf M M1) (g : pcf M1 M2) : pcf M M2 := ⟨fun a b c d => (g.1 a b c d).trans (f.1 a b c d), g.2.trans f.2⟩
theorem tcf.p {M M' : xM} (f : tcf M M') : pcf M M' := ⟨fun a b c _ => f.1 a b c, f.2 4 (by decide)⟩
theorem pcf.d {M M' : xM} (f : xfr 4 8 M M') : pcf M M' := ⟨fun a _ _ d => f a d, by rw [f 1 (by omega)]⟩
theorem pcf.o {M : xM} {x : Int32} : pcf M (xup M 1 3 x) := ⟨fun a b _ _ => xup_other b, xup_r (by decide)⟩
theorem cT.p {T : Nat → Nat} {n : Nat} {M M' : xM} (C : cT T n M) (f : pcf M M') : cT T n M' := ⟨by rw [f.2]; exact C.1, fun j hj => by rw [f.1 2 (by decide) (by decide) (by omega)]; exact C.2 j hj⟩
def xfls (T : Nat → Nat) (n : Nat) : Nat → (Nat → Nat) → Bool → Nat → Int32 × (Nat → Nat)
  | 0, h, _, _ => (-4, h)
  | m + 1, h, o, p => if p < n then (xit T n h o (p + 1) (T p)).elim (nI p, h) (fun r => xfls T n m r.1 (o || decide (T p ≠ 114)) r.2) else (-4, h)
section C55
variable {M N : xM} {Q : Option Value → xM → Prop} {T : Nat → Nat} {n : Nat} {h : Nat → Nat} {o : Bool}
theorem xfls_T : ∀ (m : Nat) (h : Nat → Nat) (o : Bool) (p : Nat), xTl h o → p ≤ n → n ≤ 200 → (xfls T n m h o p).1 = -4 → ∃ o', xTl (xfls T n m h o p).2 o'
  | 0, h, o, p, I, _, _, _ => ⟨o, I⟩
  | m + 1, h, o, p, I, hp, n2, e => by
    simp only [xfls] at e ⊢
    by_cases z : p < n
    · rw [if_pos z] at e ⊢
      cases y : xit T n h o (p + 1) (T p) with
      | none =>
        rw [y] at e
        have e : nI p = -4 := e
        have := nI_ne4 (show p < 2 ^ 31 by omega)
        rw [this] at e
        exact e.elim
      | some r =>
        rw [y] at e
        obtain ⟨h', q⟩ := r
        obtain ⟨a, b, c⟩ := xit_T I (show p + 1 ≤ n by omega) y
        exact xfls_T m h' _ q a c n2 e
    · rw [if_neg z] at e ⊢
      exact ⟨o, I⟩
theorem cH.s0 {k v : Nat} (H : cH k h M) : cH k (hset h 0 v) (xup M k 0 (nI v)) := by
  have e : ∀ j, j ≠ 0 → hset h 0 v j = h j := fun j q => by unfold hset; rw [if_neg q]
  obtain ⟨⟨h1, h2, h3⟩, h4, h5, h6, h7⟩ := H
  refine ⟨⟨by rw [xup_rs]; rfl, by rw [xup_r (by decide), e 1 (by omega)]; exact h2, by rw [xup_r (by decide), e 2 (by omega)]; exact h3⟩, fun j hj => by rw [xup_o (by omega), e _ (by omega)]; exact h4 j hj, fun j hj => ?_, fun j hj => by rw [xup_o (by omega), e _ (by omega)]; exact h6 j hj, fun j hj => by rw [xup_o (by omega), e _ (by omega)]; exact h7 j hj⟩
  rw [e 2 (by omega)] at hj
  rw [xup_o (by omega), e _ (by omega)]
  exact h5 j hj
theorem cH.s1 {k v : Nat} (H : cH k h M) : cH k (hset h 1 v) (xup M k 1 (nI v)) := by
  have e : ∀ j, j ≠ 1 → hset h 1 v j = h j := fun j q => by unfold hset; rw [if_neg q]
  obtain ⟨⟨h1, h2, h3⟩, h4, h5, h6, h7⟩ := H
  refine ⟨⟨by rw [xup_r (by decide), e 0 (by omega)]; exact h1, by rw [xup_rs]; rfl, by rw [xup_r (by decide), e 2 (by omega)]; exact h3⟩, fun j hj => by rw [xup_o (by omega), e _ (by omega)]; exact h4 j hj, fun j hj => ?_, fun j hj => by rw [xup_o (by omega), e _ (by omega)]; exact h6 j hj, fun j hj => by rw [xup_o (by omega), e _ (by omega)]; exact h7 j hj⟩
  rw [e 2 (by omega)] at hj
  rw [xup_o (by omega), e _ (by omega)]
  exact h5 j hj
theorem cH.sd {k j0 v : Nat} (H : cH k h M) (h5' : h 2 ≤ 5) (hj0 : j0 < 10) : cH k (hset h (146 + j0) v) (xup M (k + 4) j0 (nI v)) := by
  have e : ∀ j, j ≠ 146 + j0 → hset h (146 + j0) v j = h j := fun j q => by unfold hset; rw [if_neg q]
  obtain ⟨⟨h1, h2, h3⟩, h4, h5, h6, h7⟩ := H
  refine ⟨⟨by rw [xup_o (by omega), e 0 (by omega)]; exact h1, by rw [xup_o (by omega), e 1 (by omega)]; exact h2, by rw [xup_o (by omega), e 2 (by omega)]; exact h3⟩, fun j hj => by rw [xup_o (by omega), e _ (by omega)]; exact h4 j hj, fun j hj => ?_, fun j hj => by rw [xup_o (by omega), e _ (by omega)]; exact h6 j hj, fun j hj => ?_⟩
  · rw [e 2 (by omega)] at hj
    rw [xup_o (by omega), e _ (by omega)]
    exact h5 j hj
  · by_cases q : j = j0
    · rw [q, xup_rs]
      unfold hset
      rw [if_pos rfl]
    · rw [xup_r q, e _ (by omega)]
      exact h7 j hj
theorem c23n {v k : Nat} (hv : v < 2 ^ 31) (hk : k < 2 ^ 31) (hM : M 4 0 = nI k) : xW xSC 23 0 [.ref 4, .int (nI v)] [] M Q = Q (some (.int (if v < k then nI 1 else nI 0))) M := by
  by_cases q : v < k
  · simp (disch := first | decide | omega) only [c23, hM, nI_nneg, not_false_eq_true, true_and, nI_lt_t, if_true, if_pos q]
  · simp (disch := first | decide | omega) only [c23, hM, nI_nneg, not_false_eq_true, true_and, nI_lt_f, if_false, if_neg q]
theorem c24n {v k : Nat} (hv : v < 2 ^ 31) (hk : k < 2 ^ 31) (hM : M 4 1 = nI k) : xW xSC 24 0 [.ref 4, .int (nI v)] [] M Q = Q (some (.int (if v < k then nI 1 else nI 0))) M := by
  by_cases q : v < k
  · simp (disch := first | decide | omega) only [c24, hM, nI_nneg, not_false_eq_true, true_and, nI_lt_t, if_true, if_pos q]
  · simp (disch := first | decide | omega) only [c24, hM, nI_nneg, not_false_eq_true, true_and, nI_lt_f, if_false, if_neg q]
theorem cWn {v a b : Nat} (hv : v < 2 ^ 31) (ha : a < 2 ^ 31) (hb : b < 2 ^ 30) : xW xSC 132 0 [.int (nI v), .int (nI a), .int (nI b)] [] M Q = Q (some (.int (if a ≤ v ∧ v ≤ b then nI 1 else nI 0))) M := by
  have e : (xbw (nI v) a (b + 1) = true) = (a ≤ v ∧ v ≤ b) := by
    apply propext
    rw [xbw_iff, nI_toInt hv]
    omega
  rw [cWi ha (by omega)]
  simp only [e]
theorem c73 {f : Nat → Nat} (hf : f 0 ≤ 99) (fl : M 1 3 = if o = true then nI 0 else nI 1) (nu : M 3 0 = nI (f 0)) (q0 : ¬ okR o f = true → Q (some (.int (nI 0))) M) (q1 : okR o f = true → Q (some (.int (nI 1))) (xup M 4 0 (nI (f 0)))) : xW xSC 73 0 [.ref 1] [] M Q := by
  cases o with
  | true =>
    rw [if_pos rfl] at fl
    have q0 := q0 (fun z => absurd (of_decide_eq_true z).1 (by decide))
    simp (disch := first | decide | omega) only [s73, fl, i00, if_true, h73_21]
    exact q0
  | false =>
    rw [if_neg (by decide)] at fl
    by_cases a : 2 ≤ f 0 ∧ f 0 ≤ 8
    · have q1 := q1 (decide_eq_true ⟨rfl, a⟩)
      simp (disch := first | decide | omega) only [s73, s79, cG, nu, fl, i12, if_false, xpush_s, cWn, if_pos a]
      exact q1
    · have q0 := q0 (fun z => a (of_decide_eq_true z).2)
      simp (disch := first | decide | omega) only [s73, s79, cG, nu, fl, i12, if_false, xpush_s, cWn, if_neg a, i00, if_true, h73_21]
      exact q0
theorem c74 {f : Nat → Nat} (H : cH 4 h M) (I : xTl h o) (hf : ∀ j, j < 4 → f j ≤ 99) (nu : ∀ j, j < 4 → M 3 j = nI (f j)) (q0 : ¬ okD h f = true → Q (some (.int (nI 0))) M) (q1 : okD h f = true → ∀ M', xfr 4 8 M M' → cH 4 (xad h (f 0) (f 1) (f 2) (f 3)) M' → Q (some (.int (nI 1))) M') : xW xSC 74 0 [.ref 1, .null] [] M Q := by
  have n0 := nu 0 (by decide)
  have n1 := nu 1 (by decide)
  have n2 := nu 2 (by decide)
  have n3 := nu 3 (by decide)
  have f0 := hf 0 (by decide)
  have f1 := hf 1 (by decide)
  have f2 := hf 2 (by decide)
  have f3 := hf 3 (by decide)
  have m0 : M 4 0 = nI (h 0) := H.1.1
  have m1 : M 4 1 = nI (h 1) := H.1.2.1
  have h8 := I.1.1.2.2.1
  have h08 := I.1.1.2.1
  have E0 := fun (Q : Option Value → xM → Prop) => c23n (Q := Q) (v := f 0) (by omega) (show h 0 < 2 ^ 31 by omega) m0
  have E1 := fun (Q : Option Value → xM → Prop) => c23n (Q := Q) (v := f 1) (by omega) (show h 0 < 2 ^ 31 by omega) m0
  by_cases a0 : f 0 < h 0
  · by_cases a1 : f 1 < h 0
    · by_cases a2 : h 1 < 8
      · by_cases a3 : f 0 = f 1
        · have q0 := q0 (fun z => (of_decide_eq_true z).2.2.2.1 a3)
          simp (disch := first | decide | omega) only [s74, s79, cG, n0, n1, xpush_s, E0, E1, if_pos a0, if_pos a1, i12, if_false, h74_35, m1, nI_lt_t, if_true, nI_eq_t, h74_65]
          exact q0
        · by_cases a4 : f 2 ≤ 2
          · by_cases a5 : 1 ≤ f 3 ∧ f 3 ≤ 2
            · have q1 := q1 (decide_eq_true ⟨a2, a0, a1, a3, a4, a5⟩)
              have a4' : 0 ≤ f 2 ∧ f 2 ≤ 2 := ⟨Nat.zero_le _, a4⟩
              have H5 := (((((H.door (j0 := h 1 * 6 + 0) (v := f 0) (by omega)).door (j0 := h 1 * 6 + 1) (v := f 1) (by omega)).door (j0 := h 1 * 6 + 2) (v := f 2) (by omega)).door (j0 := h 1 * 6 + 3) (v := f 3) (by omega)).s1 (v := h 1 + 1))
              have F : xfr 4 8 M (xup (xup (xup (xup (xup M 5 (h 1 * 6 + 0) (nI (f 0))) 5 (h 1 * 6 + 1) (nI (f 1))) 5 (h 1 * 6 + 2) (nI (f 2))) 5 (h 1 * 6 + 3) (nI (f 3))) 4 1 (nI (h 1 + 1))) := fun a q => by
                rw [xup_other (by omega), xup_other (by omega), xup_other (by omega), xup_other (by omega), xup_other (by omega)]
              have q1 := q1 _ F H5
              simp (disch := first | decide | omega) only [s74, s79, cG, n0, n1, n2, n3, xpush_s, E0, E1, if_pos a0, if_pos a1, i12, if_false, h74_35, m1, nI_lt_t, if_true, nI_eq_f, cWn, if_pos a4', if_pos a5, s26, c29, xpush_n, xup_o, nI_add]
              exact q1
            · have q0 := q0 (fun z => a5 (of_decide_eq_true z).2.2.2.2.2)
              have a4' : 0 ≤ f 2 ∧ f 2 ≤ 2 := ⟨Nat.zero_le _, a4⟩
              simp (disch := first | decide | omega) only [s74, s79, cG, n0, n1, n2, n3, xpush_s, E0, E1, if_pos a0, if_pos a1, i12, i00, if_false, h74_35, m1, nI_lt_t, if_true, nI_eq_f, cWn, if_pos a4', if_neg a5, h74_93]
              exact q0
          · have q0 := q0 (fun z => a4 (of_decide_eq_true z).2.2.2.2.1)
            have a4' : ¬ (0 ≤ f 2 ∧ f 2 ≤ 2) := fun w => a4 w.2
            simp (disch := first | decide | omega) only [s74, s79, cG, n0, n1, n2, n3, xpush_s, E0, E1, if_pos a0, if_pos a1, i12, i00, if_false, h74_35, m1, nI_lt_t, if_true, nI_eq_f, cWn, if_neg a4', h74_93]
            exact q0
      · have q0 := q0 (fun z => a2 (of_decide_eq_true z).1)
        simp (disch := first | decide | omega) only [s74, s79, cG, n0, n1, xpush_s, E0, E1, if_pos a0, if_pos a1, i12, if_false, h74_35, m1, nI_lt_f, h74_65]
        exact q0
    · have q0 := q0 (fun z => a1 (of_decide_eq_true z).2.2.1)
      by_cases a2 : h 1 < 8
      · simp (disch := first | decide | omega) only [s74, s79, cG, n0, n1, xpush_s, E0, E1, if_pos a0, if_neg a1, i12, i00, if_true, if_false, h74_34, h74_35, m1, nI_lt_t, h74_65]
        exact q0
      · simp (disch := first | decide | omega) only [s74, s79, cG, n0, n1, xpush_s, E0, E1, if_pos a0, if_neg a1, i12, i00, if_true, if_false, h74_34, h74_35, m1, nI_lt_f, h74_65]
        exact q0
  · have q0 := q0 (fun z => a0 (of_decide_eq_true z).2.1)
    by_cases a2 : h 1 < 8
    · simp (disch := first | decide | omega) only [s74, s79, cG, n0, n1, xpush_s, E0, if_neg a0, i00, if_true, if_false, h74_34, h74_35, m1, nI_lt_t, h74_65]
      exact q0
    · simp (disch := first | decide | omega) only [s74, s79, cG, n0, n1, xpush_s, E0, if_neg a0, i00, if_true, if_false, h74_34, h74_35, m1, nI_lt_f, h74_65]
      exact q0
theorem c75 {f : Nat → Nat} (H : cH 4 h M) (I : xTl h o) (hf : ∀ j, j < 3 → f j ≤ 99) (nu : ∀ j, j < 3 → M 3 j = nI (f j)) (q0 : ¬ okS h f = true → Q (some (.int (nI 0))) M) (q1 : okS h f = true → ∀ M', xfr 4 8 M M' → cH 4 (hset h (3 + (f 0 * 6 + (4 + f 1))) (f 2)) M' → Q (some (.int (nI 1))) M') : xW xSC 75 0 [.ref 1] [] M Q := by
  have n0 := nu 0 (by decide)
  have n1 := nu 1 (by decide)
  have n2 := nu 2 (by decide)
  have f0 := hf 0 (by decide)
  have f1 := hf 1 (by decide)
  have f2 := hf 2 (by decide)
  have m1 : M 4 1 = nI (h 1) := H.1.2.1
  have h8 := I.1.1.2.2.1
  have E0 := fun (Q : Option Value → xM → Prop) => c24n (Q := Q) (v := f 0) (by omega) (show h 1 < 2 ^ 31 by omega) m1
  by_cases a0 : f 0 < h 1
  · by_cases a1 : 0 ≤ f 1 ∧ f 1 ≤ 1
    · by_cases a2 : 0 ≤ f 2 ∧ f 2 ≤ 63
      · have q1 := q1 (decide_eq_true ⟨a0, a1.2, a2.2⟩) _ (xfr.up (by decide) (by decide)) (H.door (j0 := f 0 * 6 + (4 + f 1)) (v := f 2) (by omega))
        simp (disch := first | decide | omega) only [s75, s79, cG, n0, n1, n2, xpush_s, E0, if_pos a0, i12, if_false, cWn, if_pos a1, if_pos a2, nI_add, c29, xpush_n]
        exact q1
      · have q0 := q0 (fun z => a2 ⟨Nat.zero_le _, (of_decide_eq_true z).2.2⟩)
        simp (disch := first | decide | omega) only [s75, s79, cG, n0, n1, n2, xpush_s, E0, if_pos a0, i12, i00, if_true, if_false, cWn, if_pos a1, if_neg a2, h75_42]
        exact q0
    · have q0 := q0 (fun z => a1 ⟨Nat.zero_le _, (of_decide_eq_true z).2.1⟩)
      simp (disch := first | decide | omega) only [s75, s79, cG, n0, n1, n2, xpush_s, E0, if_pos a0, i12, i00, if_true, if_false, cWn, if_neg a1, h75_42]
      exact q0
  · have q0 := q0 (fun z => a0 (of_decide_eq_true z).1)
    simp (disch := first | decide | omega) only [s75, s79, cG, n0, n1, n2, xpush_s, E0, if_neg a0, i00, if_true, h75_42]
    exact q0
theorem c76 {f : Nat → Nat} (H : cH 4 h M) (h5' : h 2 ≤ 5) (hf : ∀ j, j < 6 → f j ≤ 99) (nu : ∀ j, j < 6 → M 3 j = nI (f j)) (q0 : ¬ okW f = true → Q (some (.int (nI 0))) M) (q1 : okW f = true → ∀ M', xfr 4 8 M M' → cH 4 (xds h f) M' → Q (some (.int (nI 1))) M') : xW xSC 76 0 [.ref 1, .null] [] M Q := by
  have put : okW f = true → ∀ (m k : Nat) (M1 : xM), k + m = 6 → xfr 8 8 M M1 → (∀ j, j < 10 → M1 8 j = if j < k then nI (f j) else M 8 j) → xW xSC 76 32 [.ref 1, .int (nI k)] [] M1 Q := by
    intro ok m
    induction m with
    | zero =>
      intro k M1 hk fr d
      have hk : k = 6 := hk
      subst hk
      have q1 := q1 ok M1 (fun a q => fr a (by omega)) (by
        obtain ⟨⟨h1, h2, h3⟩, h4, h5, h6, h7⟩ := H
        have e : ∀ j, j < 146 → xds h f j = h j := fun j q => by unfold xds; rw [if_neg (by omega)]
        refine ⟨⟨by rw [fr 4 (by omega), e 0 (by omega)]; exact h1, by rw [fr 4 (by omega), e 1 (by omega)]; exact h2, by rw [fr 4 (by omega), e 2 (by omega)]; exact h3⟩, fun j hj => by rw [fr _ (by omega), e _ (by omega)]; exact h4 j hj, fun j hj => ?_, fun j hj => by rw [fr _ (by omega), e _ (by omega)]; exact h6 j hj, fun j hj => ?_⟩
        · rw [e 2 (by omega)] at hj
          rw [fr _ (by omega), e _ (by omega)]
          exact h5 j hj
        · rw [d j hj]
          unfold xds
          by_cases w : j < 6
          · rw [if_pos w, if_pos (by omega), show 146 + j - 146 = j by omega]
          · rw [if_neg w, if_neg (by omega)]
            exact h7 j hj)
      rw [h76_32]
      simp (disch := first | decide | omega) only [s76, nI_lt_f, if_false]
      exact q1
    | succ m ih =>
      intro k M1 hk fr d
      have nk : M1 3 k = nI (f k) := by rw [fr 3 (by omega)]; exact nu k (by omega)
      rw [h76_32]
      simp (disch := first | decide | omega) only [s76, nI_lt_t, if_true, s79, cG, nk, xpush_s, c35, xpush_n, nI_add]
      refine ih (k + 1) _ (by omega) (fr.tr (xfr.up (by decide) (by decide))) (fun j hj => ?_)
      by_cases w : j = k
      · rw [w, xup_rs, if_pos (by omega)]
      · rw [xup_r w, d j hj]
        by_cases y : j < k
        · rw [if_pos y, if_pos (by omega)]
        · rw [if_neg y, if_neg (by omega)]
  have chk : ∀ (m k : Nat), k + m = 6 → (∀ j, j < k → f j ≤ 20) → xW xSC 76 2 [.ref 1, .int (nI k)] [] M Q := by
    intro m
    induction m with
    | zero =>
      intro k hk d
      have hk : k = 6 := hk
      subst hk
      have ok : okW f = true := decide_eq_true ⟨d 0 (by decide), d 1 (by decide), d 2 (by decide), d 3 (by decide), d 4 (by decide), d 5 (by decide)⟩
      rw [h76_2]
      simp (disch := first | decide | omega) only [s76, nI_lt_f, if_false]
      exact put ok 6 0 M (by omega) (fun _ _ => rfl) (fun j hj => by rw [if_neg (by omega)])
    | succ m ih =>
      intro k hk d
      have nk := nu k (by omega)
      have fk := hf k (by omega)
      rw [h76_2]
      by_cases a : 0 ≤ f k ∧ f k ≤ 20
      · simp (disch := first | decide | omega) only [s76, nI_lt_t, if_true, s79, cG, nk, xpush_s, cWn, if_pos a, i12, if_false, nI_add]
        refine ih (k + 1) (by omega) (fun j hj => ?_)
        by_cases w : j = k
        · rw [w]; exact a.2
        · exact d j (by omega)
      · have q0 := q0 (fun z => by
          obtain ⟨z0, z1, z2, z3, z4, z5⟩ := of_decide_eq_true z
          rcases (show k = 0 ∨ k = 1 ∨ k = 2 ∨ k = 3 ∨ k = 4 ∨ k = 5 by omega) with y | y | y | y | y | y <;> rw [y] at a <;> omega)
        simp (disch := first | decide | omega) only [s76, nI_lt_t, if_true, s79, cG, nk, xpush_s, cWn, if_neg a, i00]
        exact q0
  simp (disch := first | decide | omega) only [s76]
  exact chk 6 0 (by omega) (fun j hj => absurd hj (by omega))
theorem c77 {f : Nat → Nat} (H : cH 4 h M) (h5' : h 2 ≤ 5) (hf : ∀ j, j < 2 → f j ≤ 99) (nu : ∀ j, j < 2 → M 3 j = nI (f j)) (q0 : ¬ okC f = true → Q (some (.int (nI 0))) M) (q1 : okC f = true → ∀ M', xfr 4 8 M M' → cH 4 (hset h (146 + (6 + f 0)) (f 1)) M' → Q (some (.int (nI 1))) M') : xW xSC 77 0 [.ref 1] [] M Q := by
  have n0 := nu 0 (by decide)
  have n1 := nu 1 (by decide)
  have f0 := hf 0 (by decide)
  have f1 := hf 1 (by decide)
  by_cases a0 : 0 ≤ f 0 ∧ f 0 ≤ 3
  · by_cases a1 : 0 ≤ f 1 ∧ f 1 ≤ 20
    · have q1 := q1 (decide_eq_true ⟨a0.2, a1.2⟩) _ (xfr.up (by decide) (by decide)) (H.sd h5' (j0 := 6 + f 0) (v := f 1) (by omega))
      simp (disch := first | decide | omega) only [s77, s79, cG, n0, n1, xpush_s, cWn, if_pos a0, if_pos a1, i12, if_false, nI_add, c35, xpush_n]
      exact q1
    · have q0 := q0 (fun z => a1 ⟨Nat.zero_le _, (of_decide_eq_true z).2⟩)
      simp (disch := first | decide | omega) only [s77, s79, cG, n0, n1, xpush_s, cWn, if_pos a0, if_neg a1, i12, i00, if_true, if_false, h77_27]
      exact q0
  · have q0 := q0 (fun z => a0 ⟨Nat.zero_le _, (of_decide_eq_true z).1⟩)
    simp (disch := first | decide | omega) only [s77, s79, cG, n0, n1, xpush_s, cWn, if_neg a0, i00, if_true, h77_27]
    exact q0
theorem c78 {f : Nat → Nat} (H : cH 4 h M) (I : xTl h o) (hf : ∀ j, j < 2 → f j ≤ 99) (nu : ∀ j, j < 2 → M 3 j = nI (f j)) (q0 : ¬ okP h f = true → Q (some (.int (nI 0))) M) (q1 : okP h f = true → ∀ M', xfr 4 8 M M' → cH 4 (xap h (f 0) (f 1)) M' → Q (some (.int (nI 1))) M') : xW xSC 78 0 [.ref 1] [] M Q := by
  have n0 := nu 0 (by decide)
  have n1 := nu 1 (by decide)
  have f0 := hf 0 (by decide)
  have f1 := hf 1 (by decide)
  have m0 : M 4 0 = nI (h 0) := H.1.1
  have m2 : M 4 2 = nI (h 2) := H.1.2.2
  have h5 := I.1.1.2.2.2
  have h08 := I.1.1.2.1
  have E0 := fun (Q : Option Value → xM → Prop) => c23n (Q := Q) (v := f 0) (by omega) (show h 0 < 2 ^ 31 by omega) m0
  by_cases a2 : h 2 < 5
  · by_cases a0 : f 0 < h 0
    · by_cases a1 : 0 ≤ f 1 ∧ f 1 ≤ 1
      · have F : xfr 4 8 M (xup (xup (xup (xup M 6 (h 2 * 3 + 0) (nI (f 0))) 6 (h 2 * 3 + 1) (nI (f 1))) 6 (h 2 * 3 + 2) (nI 3)) 4 2 (nI (h 2 + 1))) := fun a q => by
          rw [xup_other (by omega), xup_other (by omega), xup_other (by omega), xup_other (by omega)]
        have HH : cH 4 (xap h (f 0) (f 1)) (xup (xup (xup (xup M 6 (h 2 * 3 + 0) (nI (f 0))) 6 (h 2 * 3 + 1) (nI (f 1))) 6 (h 2 * 3 + 2) (nI 3)) 4 2 (nI (h 2 + 1))) := by
          obtain ⟨e, e1, v0, v1⟩ := xap_v h (f 0) (f 1) a2
          have l2 := I.2.2.1 (h 2) a2
          obtain ⟨⟨g1, g2, g3⟩, g4, g5, g6, g7⟩ := H
          refine ⟨⟨?_, ?_, ?_⟩, fun j hj => ?_, fun j hj => ?_, fun j hj => ?_, fun j hj => ?_⟩
          · rw [xup_r (by decide), xup_o (by decide), xup_o (by decide), xup_o (by decide), e 0 (by omega) (by omega) (by omega)]; exact g1
          · rw [xup_r (by decide), xup_o (by decide), xup_o (by decide), xup_o (by decide), e 1 (by omega) (by omega) (by omega)]; exact g2
          · rw [xup_rs, e1]
          · rw [xup_o (by omega), xup_o (by omega), xup_o (by omega), xup_o (by omega), e _ (by omega) (by omega) (by omega)]; exact g4 j hj
          · rw [e1] at hj
            rw [xup_o (by omega)]
            by_cases y0 : j = h 2 * 3 + 0
            · rw [y0, v0, xup_r (by omega), xup_r (by omega), xup_rs]
            · by_cases y1 : j = h 2 * 3 + 1
              · rw [y1, v1, xup_r (by omega), xup_rs]
              · rw [e _ (by omega) (by omega) (by omega)]
                by_cases y2 : j = h 2 * 3 + 2
                · rw [y2, l2, xup_rs]
                · rw [xup_r (by omega), xup_r (by omega), xup_r (by omega)]
                  exact g5 j (by omega)
          · rw [xup_o (by omega), xup_o (by omega), xup_o (by omega), xup_o (by omega), e _ (by omega) (by omega) (by omega)]; exact g6 j hj
          · rw [xup_o (by omega), xup_o (by omega), xup_o (by omega), xup_o (by omega), e _ (by omega) (by omega) (by omega)]; exact g7 j hj
        have q1 := q1 (decide_eq_true ⟨a2, a0, a1.2⟩) _ F HH
        simp (disch := first | decide | omega) only [s78, s79, cG, n0, n1, m2, nI_lt_t, if_true, xpush_s, E0, if_pos a0, i12, if_false, cWn, if_pos a1, s27, c31, xpush_n, xup_o, nI_add]
        exact q1
      · have q0 := q0 (fun z => a1 ⟨Nat.zero_le _, (of_decide_eq_true z).2.2⟩)
        simp (disch := first | decide | omega) only [s78, s79, cG, n0, n1, m2, nI_lt_t, if_true, xpush_s, E0, if_pos a0, i12, i00, if_false, cWn, if_neg a1, h78_39]
        exact q0
    · have q0 := q0 (fun z => a0 (of_decide_eq_true z).2.1)
      simp (disch := first | decide | omega) only [s78, s79, cG, n0, n1, m2, nI_lt_t, if_true, xpush_s, E0, if_neg a0, i00, h78_39]
      exact q0
  · have q0 := q0 (fun z => a2 (of_decide_eq_true z).1)
    simp (disch := first | decide | omega) only [s78, m2, nI_lt_f, if_false, h78_39]
    exact q0
end C55
