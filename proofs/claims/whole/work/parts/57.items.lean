/-! items of a text: the reference -/
def prf (N N' : xM) : Prop := (∀ a, a ≠ 0 → a ≠ 3 → a ≠ 4 → N' a = N a) ∧ ∀ j, j ≠ 4 → N' 0 j = N 0 j
theorem prf.rf {N : xM} : prf N N := ⟨fun _ _ _ _ => rfl, fun _ _ => rfl⟩
theorem prf.tr {M M1 M2 : xM} (f : prf M M1) (g : prf M1 M2) : prf M M2 := ⟨fun a b c d => (g.1 a b c d).trans (f.1 a b c d), fun j q => (g.2 j q).trans (f.2 j q)⟩
theorem trf.p {N N' : xM} (f : trf N N') : prf N N' := ⟨fun a b _ d => f.1 a b d, f.2⟩
theorem prf.d {N N' : xM} (f : ∀ a, a ≠ 3 → N' a = N a) : prf N N' := ⟨fun a _ c _ => f a c, fun j _ => by rw [f 0 (by decide)]⟩
theorem prf.r {N N' : xM} (f : prf N N') : rfr N N' := ⟨fun a b c d _ => f.1 a b c d, fun j q _ _ => f.2 j q⟩
theorem rT.p {T : Nat → Nat} {n : Nat} {N N' : xM} (C : rT T n N) (f : prf N N') : rT T n N' := ⟨by rw [f.2 2 (by decide)]; exact C.1, fun j hj => by rw [f.1 2 (by decide) (by decide) (by decide)]; exact C.2 j hj⟩
theorem bind_no {α β : Type} {x : Option α} {F : α → Option β} (h : ∀ r, F r = none) : x.bind F = none := by
  cases x with
  | none => rfl
  | some r => exact h r
section C57
variable {M N : xM} {Q : Option Value → xM → Prop} {T : Nat → Nat} {n : Nat} {h : Nat → Nat} {o : Bool}
theorem r137 (hQ : ∀ N', (∀ a, a ≠ 3 → N' a = N a) → rH 3 xpl N' → Q none N') : xW xSR 137 0 [.ref 3, .null] [] N Q := by
  have fill : ∀ (m k : Nat) (N1 : xM), k + m = 156 → (∀ a, a ≠ 3 → N1 a = N a) → (∀ j, j < k → N1 3 j = nI 0) → xW xSR 137 2 [.ref 3, .int (nI k)] [] N1 Q := by
    intro m
    induction m with
    | zero =>
      intro k N1 hk f z
      have hk : k = 156 := hk
      subst hk
      rw [h137_2]
      simp (disch := first | decide | omega) only [s137, nI_lt_f, if_false]
      rw [h137_25]
      simp (disch := first | decide | omega) only [s137, nI_lt_t, nI_lt_f, if_true, if_false, pk_mul, nI_add]
      rw [h137_25]
      simp (disch := first | decide | omega) only [s137, nI_lt_t, nI_lt_f, if_true, if_false, pk_mul, nI_add]
      rw [h137_25]
      simp (disch := first | decide | omega) only [s137, nI_lt_t, nI_lt_f, if_true, if_false, pk_mul, nI_add]
      rw [h137_25]
      simp (disch := first | decide | omega) only [s137, nI_lt_t, nI_lt_f, if_true, if_false, pk_mul, nI_add]
      rw [h137_25]
      simp (disch := first | decide | omega) only [s137, nI_lt_t, nI_lt_f, if_true, if_false, pk_mul, nI_add]
      rw [h137_25]
      simp (disch := first | decide | omega) only [s137, nI_lt_t, nI_lt_f, if_true, if_false, pk_mul, nI_add]
      rw [h137_88]
      simp (disch := first | decide | omega) only [s137, nI_lt_t, nI_lt_f, if_true, if_false, nI_add]
      rw [h137_88]
      simp (disch := first | decide | omega) only [s137, nI_lt_t, nI_lt_f, if_true, if_false, nI_add]
      rw [h137_88]
      simp (disch := first | decide | omega) only [s137, nI_lt_t, nI_lt_f, if_true, if_false, nI_add]
      rw [h137_88]
      simp (disch := first | decide | omega) only [s137, nI_lt_t, nI_lt_f, if_true, if_false, nI_add]
      rw [h137_88]
      simp (disch := first | decide | omega) only [s137, nI_lt_t, nI_lt_f, if_true, if_false, nI_add]
      refine hQ _ (fun a q => ?_) ⟨fun j hj nr => ?_, fun j r => ?_⟩
      · simp (disch := first | decide | omega) only [xup_other]
        exact f a q
      · by_cases s : j = 0 ∨ j = 146 ∨ j = 147 ∨ j = 148 ∨ j = 149 ∨ j = 150 ∨ j = 151 ∨ j = 152 ∨ j = 153 ∨ j = 154 ∨ j = 155
        · rcases s with s | s | s | s | s | s | s | s | s | s | s <;> subst s <;> simp (disch := decide) only [xup_rs, xup_r] <;> rfl
        · have e : xpl j = 0 := by
            unfold xpl rla at *
            rw [if_neg (by omega), if_neg (by omega), if_neg (by omega), if_neg (by omega), if_neg (by omega), if_neg (by omega), if_neg (by omega)]
          rw [e]
          unfold rla at nr
          simp (disch := omega) only [xup_r]
          exact z j hj
      · have s : j = 53 ∨ j = 56 ∨ j = 59 ∨ j = 62 ∨ j = 65 := by unfold rla at r; omega
        rcases s with s | s | s | s | s <;> subst s <;> simp (disch := decide) only [xup_rs, xup_r] <;> rfl
    | succ m ih =>
      intro k N1 hk f z
      rw [h137_2]
      simp (disch := first | decide | omega) only [s137, nI_lt_t, if_true, nI_add]
      refine ih (k + 1) _ (by omega) (fun a q => by rw [xup_other q]; exact f a q) (fun j hj => ?_)
      by_cases w : j = k
      · rw [w, xup_rs]
      · rw [xup_r w]
        exact z j (by omega)
  simp (disch := first | decide | omega) only [s137]
  exact fill 156 0 N (by omega) (fun _ _ => rfl) (fun j hj => absurd hj (by omega))
theorem r146t {m q : Nat} (X : xTx T n) (C : rT T n N) (hm : 1 ≤ m) (hm6 : m ≤ 6) (hq : q ≤ n) (at' : N 0 4 = nI q) (q0 : xns T n m 0 q xz0 = none → ∀ N', trf N N' → Q (some (.int (nI 0))) N') (q1 : ∀ g z, xns T n m 0 q xz0 = some (g, z) → ∀ N', trf N N' → N' 0 4 = nI z → (∀ j, j < m → N' 4 j = nI (g j)) → Q (some (.int (nI 1))) N') : xW xSR 146 0 [.ref 0, .int (nI m), .null, .null, .null, .null] [] N Q := by
  simp (disch := first | decide | omega) only [s146]
  exact r146 X C hm6 m 0 q xz0 N _ _ (by omega) hq trf.rf at' (fun j hj => absurd hj (by omega)) q0 q1
theorem r147 {q : Nat} (X : xTx T n) (C : rT T n N) (R : rH 3 h N) (I : xTl h false) (hq : q ≤ n) (at' : N 0 4 = nI q) (q0 : xit T n h false q 114 = none → ∀ N', prf N N' → Q (some (.int (nI 0))) N') (q1 : ∀ h' z, xit T n h false q 114 = some (h', z) → ∀ N', prf N N' → N' 0 4 = nI z → rH 3 h' N' → Q (some (.int (nI 1))) N') : xW xSR 147 0 [.ref 0, .null] [] N Q := by
  have ex : xit T n h false q 114 = (xns T n 1 0 q xz0).bind (fun r => if okR false r.1 = true then some (hset h 0 (r.1 0), r.2) else none) := by
    unfold xit
    rw [if_pos rfl]
  simp (disch := first | decide | omega) only [s147]
  refine r146t X C (by omega) (by omega) hq at' (fun e N2 f2 => ?_) (fun g z e N2 f2 a2 nu => ?_)
  · simp (disch := first | decide | omega) only [s147, xpush_s, i00, if_true, h147_31, h147_32, h147_57]
    exact q0 (by rw [ex, e]; rfl) _ (f2.p.tr (prf.d (fun a w => xup_other w)))
  · obtain ⟨gb, -, -, -⟩ := xns_b 1 0 q xz0 g z e hq (fun j hj => absurd hj (by omega))
    have n0 := nu 0 (by decide)
    have g0 := gb 0 (by decide)
    rw [e] at ex
    simp only [Option.bind_some] at ex
    have R2 : rH 3 h N2 := R.mono (f2.1 3 (by decide) (by decide))
    by_cases y : 2 ≤ g 0 ∧ g 0 ≤ 8
    · have ok : okR false g = true := decide_eq_true ⟨rfl, y⟩
      have q1 := q1 _ z (by rw [ex, if_pos ok]) (xup N2 3 0 (nI (g 0))) (f2.p.tr (prf.d (fun a w => xup_other w))) (by rw [xup_o (by decide)]; exact a2) (R2.up (by unfold rla; omega))
      simp (disch := first | decide | omega) only [s147, xpush_s, i12, if_false, n0, nI_l, r135n, if_pos y, h147_32, h147_57]
      exact q1
    · have ok : ¬ okR false g = true := fun w => y (of_decide_eq_true w).2
      have q0 := q0 (by rw [ex, if_neg ok])
      simp (disch := first | decide | omega) only [s147, xpush_s, i12, i00, if_true, if_false, n0, nI_l, r135n, if_neg y, h147_31, h147_32, h147_57]
      exact q0 _ (f2.p.tr (prf.d (fun a w => xup_other w)))
theorem r148 {q : Nat} (X : xTx T n) (C : rT T n N) (R : rH 3 h N) (I : xTl h o) (hq : q ≤ n) (at' : N 0 4 = nI q) (q0 : xit T n h o q 100 = none → ∀ N', prf N N' → Q (some (.int (nI 0))) N') (q1 : ∀ h' z, xit T n h o q 100 = some (h', z) → ∀ N', prf N N' → N' 0 4 = nI z → rH 3 h' N' → Q (some (.int (nI 1))) N') : xW xSR 148 0 [.ref 0, .null] [] N Q := by
  have ex : xit T n h o q 100 = (xns T n 4 0 q xz0).bind (fun r => if okD h r.1 = true then some (xad h (r.1 0) (r.1 1) (r.1 2) (r.1 3), r.2) else none) := by
    unfold xit
    rw [if_neg (by decide), if_pos rfl]
  have h8 := I.1.1.2.2.1
  have h08 := I.1.1.2.1
  have m1 : N 3 1 = nI (h 1) := R.at _ rfl (by omega) (by omega)
  by_cases b8 : h 1 < 8
  · simp (disch := first | decide | omega) only [s148, m1, nI_lt_t, if_true]
    refine r146t X C (by omega) (by omega) hq at' (fun e N2 f2 => ?_) (fun g z e N2 f2 a2 nu => ?_)
    · simp (disch := first | decide | omega) only [s148, xpush_s, i00, if_true, h148_95, h148_96, h148_148]
      exact q0 (by rw [ex, e]; rfl) _ f2.p
    · obtain ⟨gb, -, -, -⟩ := xns_b 4 0 q xz0 g z e hq (fun j hj => absurd hj (by omega))
      have n0 := nu 0 (by decide)
      have n1 := nu 1 (by decide)
      have n2 := nu 2 (by decide)
      have n3 := nu 3 (by decide)
      have g0 := gb 0 (by decide)
      have g1 := gb 1 (by decide)
      have g2 := gb 2 (by decide)
      have g3 := gb 3 (by decide)
      rw [e] at ex
      simp only [Option.bind_some] at ex
      have R2 : rH 3 h N2 := R.mono (f2.1 3 (by decide) (by decide))
      have k0 : N2 3 0 = nI (h 0) := R2.at _ rfl (by omega) (by omega)
      have k1 : N2 3 1 = nI (h 1) := R2.at _ rfl (by omega) (by omega)
      have q0 := fun (no : ¬ okD h g = true) => q0 (by rw [ex, if_neg no]) N2 f2.p
      by_cases a0 : g 0 < h 0
      · by_cases a1 : g 1 < h 0
        · by_cases a3 : g 0 = g 1
          · have q0 := q0 (fun w => (of_decide_eq_true w).2.2.2.1 a3)
            simp (disch := first | decide | omega) only [s148, xpush_s, i12, i00, if_false, if_true, n0, n1, k0, nI_lt_t, nI_eq_t, h148_95, h148_96, h148_148]
            exact q0
          · by_cases a4 : g 2 < 3
            · by_cases a5 : 1 ≤ g 3 ∧ g 3 ≤ 2
              · have ok : okD h g = true := decide_eq_true ⟨b8, a0, a1, a3, by omega, a5⟩
                have i0 : 3 + 6 * h 1 = 3 + (h 1 * 6 + 0) := by omega
                have i1 : 3 + 6 * h 1 + 1 = 3 + (h 1 * 6 + 1) := by omega
                have i2 : 3 + 6 * h 1 + 2 = 3 + (h 1 * 6 + 2) := by omega
                have i3 : 3 + 6 * h 1 + 3 = 3 + (h 1 * 6 + 3) := by omega
                have u4 := (((R2.up (j0 := 3 + (h 1 * 6 + 0)) (v := g 0) (by unfold rla; omega)).up (j0 := 3 + (h 1 * 6 + 1)) (v := g 1) (by unfold rla; omega)).up (j0 := 3 + (h 1 * 6 + 2)) (v := g 2) (by unfold rla; omega)).up (j0 := 3 + (h 1 * 6 + 3)) (v := g 3) (by unfold rla; omega)
                have u5 := u4.up (j0 := 3 + 6 * h 1 + 4) (v := 0) (by unfold rla; omega)
                have u6 := u5.up (j0 := 3 + 6 * h 1 + 5) (v := 0) (by unfold rla; omega)
                have u7 := u6.up (j0 := 1) (v := h 1 + 1) (by unfold rla; omega)
                have z4 := I.2.1 (h 1 * 6 + 4) (by omega) (by omega)
                have z5 := I.2.1 (h 1 * 6 + 5) (by omega) (by omega)
                have e4 : ∀ (F : Nat → Nat) (j : Nat), F j = 0 → hset F j 0 = F := fun F j w => by
                  have := hset_self F j
                  rw [w] at this
                  exact this
                have v4 : hset (hset (hset (hset h (3 + (h 1 * 6 + 0)) (g 0)) (3 + (h 1 * 6 + 1)) (g 1)) (3 + (h 1 * 6 + 2)) (g 2)) (3 + (h 1 * 6 + 3)) (g 3) (3 + 6 * h 1 + 4) = 0 := by
                  unfold hset
                  rw [if_neg (by omega), if_neg (by omega), if_neg (by omega), if_neg (by omega), show 3 + 6 * h 1 + 4 = 3 + (h 1 * 6 + 4) by omega]
                  exact z4
                have v5 : hset (hset (hset (hset h (3 + (h 1 * 6 + 0)) (g 0)) (3 + (h 1 * 6 + 1)) (g 1)) (3 + (h 1 * 6 + 2)) (g 2)) (3 + (h 1 * 6 + 3)) (g 3) (3 + 6 * h 1 + 5) = 0 := by
                  unfold hset
                  rw [if_neg (by omega), if_neg (by omega), if_neg (by omega), if_neg (by omega), show 3 + 6 * h 1 + 5 = 3 + (h 1 * 6 + 5) by omega]
                  exact z5
                rw [e4 _ _ v4, e4 _ _ v5] at u7
                rw [← i0, ← i1, ← i2, ← i3] at u7
                have q1 := q1 _ z (by rw [ex, if_pos ok]) (xup (xup (xup (xup (xup (xup (xup N2 3 (3 + 6 * h 1) (nI (g 0))) 3 (3 + 6 * h 1 + 1) (nI (g 1))) 3 (3 + 6 * h 1 + 2) (nI (g 2))) 3 (3 + 6 * h 1 + 3) (nI (g 3))) 3 (3 + 6 * h 1 + 4) (nI 0)) 3 (3 + 6 * h 1 + 5) (nI 0)) 3 1 (nI (h 1 + 1))) (f2.p.tr (prf.d (fun a w => by rw [xup_other w, xup_other w, xup_other w, xup_other w, xup_other w, xup_other w, xup_other w]))) (by rw [xup_o (by decide), xup_o (by decide), xup_o (by decide), xup_o (by decide), xup_o (by decide), xup_o (by decide), xup_o (by decide)]; exact a2) (by
                  unfold xad
                  rw [← i0, ← i1, ← i2, ← i3]
                  exact u7)
                simp (disch := first | decide | omega) only [s148, xpush_s, i12, if_false, if_true, n0, n1, n2, n3, k0, k1, nI_lt_t, nI_eq_f, nI_l, r135n, if_pos a5, h148_96, s138, pk_mul, nI_add, xpush_n, xup_r, h148_148]
                exact q1
              · have q0 := q0 (fun w => a5 (of_decide_eq_true w).2.2.2.2.2)
                simp (disch := first | decide | omega) only [s148, xpush_s, i12, i00, if_false, if_true, n0, n1, n2, n3, k0, nI_lt_t, nI_eq_f, nI_l, r135n, if_neg a5, h148_95, h148_96, h148_148]
                exact q0
            · have q0 := q0 (fun w => by have := (of_decide_eq_true w).2.2.2.2.1; omega)
              simp (disch := first | decide | omega) only [s148, xpush_s, i12, i00, if_false, if_true, n0, n1, n2, k0, nI_lt_t, nI_lt_f, nI_eq_f, h148_95, h148_96, h148_148]
              exact q0
        · have q0 := q0 (fun w => a1 (of_decide_eq_true w).2.2.1)
          simp (disch := first | decide | omega) only [s148, xpush_s, i12, i00, if_false, if_true, n0, n1, k0, nI_lt_t, nI_lt_f, h148_95, h148_96, h148_148]
          exact q0
      · have q0 := q0 (fun w => a0 (of_decide_eq_true w).2.1)
        simp (disch := first | decide | omega) only [s148, xpush_s, i12, i00, if_false, if_true, n0, k0, nI_lt_f, h148_95, h148_96, h148_148]
        exact q0
  · have q0 := q0 (by
      rw [ex]
      exact bind_no (fun r => if_neg (fun w => b8 (of_decide_eq_true w).1))) N prf.rf
    simp (disch := first | decide | omega) only [s148, m1, nI_lt_f, if_false, i00, if_true, h148_95, h148_96, h148_148]
    exact q0
theorem r149 {q : Nat} (X : xTx T n) (C : rT T n N) (R : rH 3 h N) (I : xTl h o) (hq : q ≤ n) (at' : N 0 4 = nI q) (q0 : xit T n h o q 115 = none → ∀ N', prf N N' → Q (some (.int (nI 0))) N') (q1 : ∀ h' z, xit T n h o q 115 = some (h', z) → ∀ N', prf N N' → N' 0 4 = nI z → rH 3 h' N' → Q (some (.int (nI 1))) N') : xW xSR 149 0 [.ref 0, .null] [] N Q := by
  have ex : xit T n h o q 115 = (xns T n 3 0 q xz0).bind (fun r => if okS h r.1 = true then some (hset h (3 + (r.1 0 * 6 + (4 + r.1 1))) (r.1 2), r.2) else none) := by
    unfold xit
    rw [if_neg (by decide), if_neg (by decide), if_pos rfl]
  have h8 := I.1.1.2.2.1
  simp (disch := first | decide | omega) only [s149]
  refine r146t X C (by omega) (by omega) hq at' (fun e N2 f2 => ?_) (fun g z e N2 f2 a2 nu => ?_)
  · simp (disch := first | decide | omega) only [s149, xpush_s, i00, if_true, h149_48, h149_49, h149_85]
    exact q0 (by rw [ex, e]; rfl) _ f2.p
  · obtain ⟨gb, -, -, -⟩ := xns_b 3 0 q xz0 g z e hq (fun j hj => absurd hj (by omega))
    have n0 := nu 0 (by decide)
    have n1 := nu 1 (by decide)
    have n2 := nu 2 (by decide)
    have g0 := gb 0 (by decide)
    have g1 := gb 1 (by decide)
    have g2 := gb 2 (by decide)
    rw [e] at ex
    simp only [Option.bind_some] at ex
    have R2 : rH 3 h N2 := R.mono (f2.1 3 (by decide) (by decide))
    have k1 : N2 3 1 = nI (h 1) := R2.at _ rfl (by omega) (by omega)
    have q0 := fun (no : ¬ okS h g = true) => q0 (by rw [ex, if_neg no]) N2 f2.p
    by_cases a0 : g 0 < h 1
    · by_cases a1 : g 1 < 2
      · by_cases a3 : g 2 < 64
        · have ok : okS h g = true := decide_eq_true ⟨a0, by omega, by omega⟩
          have u := R2.up (j0 := 3 + (g 0 * 6 + (4 + g 1))) (v := g 2) (by unfold rla; omega)
          have ei : 3 + (g 0 * 6 + (4 + g 1)) = 3 + 6 * g 0 + 4 + g 1 := by omega
          rw [ei] at u
          have q1 := q1 _ z (by rw [ex, if_pos ok]) (xup N2 3 (3 + 6 * g 0 + 4 + g 1) (nI (g 2))) (f2.p.tr (prf.d (fun a w => xup_other w))) (by rw [xup_o (by decide)]; exact a2) (by rw [ei]; exact u)
          simp (disch := first | decide | omega) only [s149, xpush_s, i12, if_false, if_true, n0, n1, n2, k1, nI_lt_t, h149_49, pk_mul, nI_add, h149_85]
          exact q1
        · have q0 := q0 (fun w => by have := (of_decide_eq_true w).2.2; omega)
          simp (disch := first | decide | omega) only [s149, xpush_s, i12, i00, if_false, if_true, n0, n1, n2, k1, nI_lt_t, nI_lt_f, h149_48, h149_49, h149_85]
          exact q0
      · have q0 := q0 (fun w => by have := (of_decide_eq_true w).2.1; omega)
        simp (disch := first | decide | omega) only [s149, xpush_s, i12, i00, if_false, if_true, n0, n1, k1, nI_lt_t, nI_lt_f, h149_48, h149_49, h149_85]
        exact q0
    · have q0 := q0 (fun w => a0 (of_decide_eq_true w).1)
      simp (disch := first | decide | omega) only [s149, xpush_s, i12, i00, if_false, if_true, n0, k1, nI_lt_f, h149_48, h149_49, h149_85]
      exact q0
theorem r150 {q : Nat} (X : xTx T n) (C : rT T n N) (R : rH 3 h N) (I : xTl h o) (hq : q ≤ n) (at' : N 0 4 = nI q) (q0 : xit T n h o q 119 = none → ∀ N', prf N N' → Q (some (.int (nI 0))) N') (q1 : ∀ h' z, xit T n h o q 119 = some (h', z) → ∀ N', prf N N' → N' 0 4 = nI z → rH 3 h' N' → Q (some (.int (nI 1))) N') : xW xSR 150 0 [.ref 0, .null, .null] [] N Q := by
  have ex : xit T n h o q 119 = (xns T n 6 0 q xz0).bind (fun r => if okW r.1 = true then some (xds h r.1, r.2) else none) := by
    unfold xit
    rw [if_neg (by decide), if_neg (by decide), if_neg (by decide), if_pos rfl]
  have no : ∀ (N2 : xM) (k : Nat), k ≤ 6 → Q (some (.int (nI 0))) N2 → xW xSR 150 9 [.ref 0, .int (nI 0), .int (nI k)] [] N2 Q := fun N2 k hk w => by
    have : ∀ (m k : Nat), k + m = 6 → xW xSR 150 9 [.ref 0, .int (nI 0), .int (nI k)] [] N2 Q := by
      intro m
      induction m with
      | zero =>
        intro k hk
        rw [h150_9]
        simp (disch := first | decide | omega) only [s150, nI_lt_f, if_false, h150_44, nI_lt_t, if_true, i00, h150_76]
        exact w
      | succ m ih =>
        intro k hk
        rw [h150_9]
        simp (disch := first | decide | omega) only [s150, nI_lt_t, if_true, i00, h150_34, h150_35, nI_add]
        exact ih (k + 1) (by omega)
    exact this (6 - k) k (by omega)
  simp (disch := first | decide | omega) only [s150]
  refine r146t X C (by omega) (by omega) hq at' (fun e N2 f2 => ?_) (fun g z e N2 f2 a2 nu => ?_)
  · simp (disch := first | decide | omega) only [s150, xpush_s]
    exact no N2 0 (by omega) (q0 (by rw [ex, e]; rfl) _ f2.p)
  · obtain ⟨gb, -, -, -⟩ := xns_b 6 0 q xz0 g z e hq (fun j hj => absurd hj (by omega))
    rw [e] at ex
    simp only [Option.bind_some] at ex
    have R2 : rH 3 h N2 := R.mono (f2.1 3 (by decide) (by decide))
    have q0 := fun (no : ¬ okW g = true) => q0 (by rw [ex, if_neg no]) N2 f2.p
    have put : okW g = true → ∀ (m k : Nat) (N3 : xM) (hh : Nat → Nat), k + m = 6 → (∀ a, a ≠ 3 → N3 a = N2 a) → rH 3 hh N3 → (∀ j, hh j = if 146 ≤ j ∧ j < 146 + k then g (j - 146) else h j) → xW xSR 150 44 [.ref 0, .int (nI 1), .int (nI k)] [] N3 Q := by
      intro ok m
      induction m with
      | zero =>
        intro k N3 hh hk fr R3 d
        have hk : k = 6 := hk
        subst hk
        have eh : hh = xds h g := by
          funext j
          rw [d j]
          unfold xds
          rfl
        rw [eh] at R3
        have q1 := q1 _ z (by rw [ex, if_pos ok]) N3 (f2.p.tr (prf.d fr)) (by rw [fr 0 (by decide)]; exact a2) R3
        rw [h150_44]
        simp (disch := first | decide | omega) only [s150, nI_lt_f, if_false, h150_76]
        exact q1
      | succ m ih =>
        intro k N3 hh hk fr R3 d
        have nk : N3 4 k = nI (g k) := by rw [fr 4 (by decide)]; exact nu k (by omega)
        rw [h150_44]
        simp (disch := first | decide | omega) only [s150, nI_lt_t, if_true, i12, if_false, nI_add, nk]
        refine ih (k + 1) _ (hset hh (146 + k) (g k)) (by omega) (fun a w => by rw [xup_other w]; exact fr a w) (R3.up (by unfold rla; omega)) (fun j => ?_)
        unfold hset
        by_cases w : j = 146 + k
        · rw [if_pos w, if_pos (by omega), w, show 146 + k - 146 = k by omega]
        · rw [if_neg w, d j]
          by_cases y : 146 ≤ j ∧ j < 146 + k
          · rw [if_pos y, if_pos (by omega)]
          · rw [if_neg y, if_neg (by omega)]
    have chk : ∀ (m k : Nat), k + m = 6 → (∀ j, j < k → g j ≤ 20) → xW xSR 150 9 [.ref 0, .int (nI 1), .int (nI k)] [] N2 Q := by
      intro m
      induction m with
      | zero =>
        intro k hk d
        have hk : k = 6 := hk
        subst hk
        have ok : okW g = true := decide_eq_true ⟨d 0 (by decide), d 1 (by decide), d 2 (by decide), d 3 (by decide), d 4 (by decide), d 5 (by decide)⟩
        rw [h150_9]
        simp (disch := first | decide | omega) only [s150, nI_lt_f, if_false]
        exact put ok 6 0 N2 h (by omega) (fun _ _ => rfl) R2 (fun j => by rw [if_neg (by omega)])
      | succ m ih =>
        intro k hk d
        have nk := nu k (by omega)
        have gk := gb k (by omega)
        rw [h150_9]
        by_cases a : g k < 21
        · simp (disch := first | decide | omega) only [s150, nI_lt_t, if_true, i12, if_false, nk, h150_35, nI_add]
          refine ih (k + 1) (by omega) (fun j hj => ?_)
          by_cases w : j = k
          · rw [w]; omega
          · exact d j (by omega)
        · have q0 := q0 (fun w => by
            obtain ⟨z0, z1, z2, z3, z4, z5⟩ := of_decide_eq_true w
            rcases (show k = 0 ∨ k = 1 ∨ k = 2 ∨ k = 3 ∨ k = 4 ∨ k = 5 by omega) with y | y | y | y | y | y <;> rw [y] at a <;> omega)
          simp (disch := first | decide | omega) only [s150, nI_lt_t, nI_lt_f, if_true, i12, if_false, nk, h150_34, h150_35, nI_add]
          exact no N2 (k + 1) (by omega) q0
    simp (disch := first | decide | omega) only [s150, xpush_s]
    exact chk 6 0 (by omega) (fun j hj => absurd hj (by omega))
theorem r151 {q : Nat} (X : xTx T n) (C : rT T n N) (R : rH 3 h N) (I : xTl h o) (hq : q ≤ n) (at' : N 0 4 = nI q) (q0 : xit T n h o q 99 = none → ∀ N', prf N N' → Q (some (.int (nI 0))) N') (q1 : ∀ h' z, xit T n h o q 99 = some (h', z) → ∀ N', prf N N' → N' 0 4 = nI z → rH 3 h' N' → Q (some (.int (nI 1))) N') : xW xSR 151 0 [.ref 0, .null] [] N Q := by
  have ex : xit T n h o q 99 = (xns T n 2 0 q xz0).bind (fun r => if okC r.1 = true then some (hset h (146 + (6 + r.1 0)) (r.1 1), r.2) else none) := by
    unfold xit
    rw [if_neg (by decide), if_neg (by decide), if_neg (by decide), if_neg (by decide), if_pos rfl]
  simp (disch := first | decide | omega) only [s151]
  refine r146t X C (by omega) (by omega) hq at' (fun e N2 f2 => ?_) (fun g z e N2 f2 a2 nu => ?_)
  · simp (disch := first | decide | omega) only [s151, xpush_s, i00, if_true, h151_33, h151_34, h151_60]
    exact q0 (by rw [ex, e]; rfl) _ f2.p
  · obtain ⟨gb, -, -, -⟩ := xns_b 2 0 q xz0 g z e hq (fun j hj => absurd hj (by omega))
    have n0 := nu 0 (by decide)
    have n1 := nu 1 (by decide)
    have g0 := gb 0 (by decide)
    have g1 := gb 1 (by decide)
    rw [e] at ex
    simp only [Option.bind_some] at ex
    have R2 : rH 3 h N2 := R.mono (f2.1 3 (by decide) (by decide))
    have q0 := fun (no : ¬ okC g = true) => q0 (by rw [ex, if_neg no]) N2 f2.p
    by_cases a0 : g 0 < 4
    · by_cases a1 : g 1 < 21
      · have ok : okC g = true := decide_eq_true ⟨by omega, by omega⟩
        have u := R2.up (j0 := 146 + (6 + g 0)) (v := g 1) (by unfold rla; omega)
        have ei : 146 + (6 + g 0) = 152 + g 0 := by omega
        rw [ei] at u
        have q1 := q1 _ z (by rw [ex, if_pos ok]) (xup N2 3 (152 + g 0) (nI (g 1))) (f2.p.tr (prf.d (fun a w => xup_other w))) (by rw [xup_o (by decide)]; exact a2) (by rw [ei]; exact u)
        simp (disch := first | decide | omega) only [s151, xpush_s, i12, if_false, if_true, n0, n1, nI_lt_t, h151_34, nI_add, h151_60]
        exact q1
      · have q0 := q0 (fun w => by have := (of_decide_eq_true w).2; omega)
        simp (disch := first | decide | omega) only [s151, xpush_s, i12, i00, if_false, if_true, n0, n1, nI_lt_t, nI_lt_f, h151_33, h151_34, h151_60]
        exact q0
    · have q0 := q0 (fun w => by have := (of_decide_eq_true w).1; omega)
      simp (disch := first | decide | omega) only [s151, xpush_s, i12, i00, if_false, if_true, n0, nI_lt_f, h151_33, h151_34, h151_60]
      exact q0
theorem r152 {q : Nat} (X : xTx T n) (C : rT T n N) (R : rH 3 h N) (I : xTl h o) (hq : q ≤ n) (at' : N 0 4 = nI q) (q0 : xit T n h o q 112 = none → ∀ N', prf N N' → Q (some (.int (nI 0))) N') (q1 : ∀ h' z, xit T n h o q 112 = some (h', z) → ∀ N', prf N N' → N' 0 4 = nI z → rH 3 h' N' → Q (some (.int (nI 1))) N') : xW xSR 152 0 [.ref 0, .null] [] N Q := by
  have ex : xit T n h o q 112 = (xns T n 2 0 q xz0).bind (fun r => if okP h r.1 = true then some (xap h (r.1 0) (r.1 1), r.2) else none) := by
    unfold xit
    rw [if_neg (by decide), if_neg (by decide), if_neg (by decide), if_neg (by decide), if_neg (by decide), if_pos rfl]
  have h5 := I.1.1.2.2.2
  have h08 := I.1.1.2.1
  have m2 : N 3 2 = nI (h 2) := R.at _ rfl (by omega) (by omega)
  by_cases b5 : h 2 < 5
  · simp (disch := first | decide | omega) only [s152, m2, nI_lt_t, if_true]
    refine r146t X C (by omega) (by omega) hq at' (fun e N2 f2 => ?_) (fun g z e N2 f2 a2 nu => ?_)
    · simp (disch := first | decide | omega) only [s152, xpush_s, i00, if_true, h152_47, h152_48, h152_109]
      exact q0 (by rw [ex, e]; rfl) _ f2.p
    · obtain ⟨gb, -, -, -⟩ := xns_b 2 0 q xz0 g z e hq (fun j hj => absurd hj (by omega))
      have n0 := nu 0 (by decide)
      have n1 := nu 1 (by decide)
      have g0 := gb 0 (by decide)
      have g1 := gb 1 (by decide)
      rw [e] at ex
      simp only [Option.bind_some] at ex
      have R2 : rH 3 h N2 := R.mono (f2.1 3 (by decide) (by decide))
      have k0 : N2 3 0 = nI (h 0) := R2.at _ rfl (by omega) (by omega)
      have k2 : N2 3 2 = nI (h 2) := R2.at _ rfl (by omega) (by omega)
      have q0 := fun (no : ¬ okP h g = true) => q0 (by rw [ex, if_neg no]) N2 f2.p
      by_cases a0 : g 0 < h 0
      · by_cases a1 : g 1 < 2
        · have ok : okP h g = true := decide_eq_true ⟨b5, a0, by omega⟩
          have i0 : 51 + 3 * h 2 = 51 + (h 2 * 3 + 0) := by omega
          have i1 : 51 + 3 * h 2 + 1 = 51 + (h 2 * 3 + 1) := by omega
          have u := ((R2.up (j0 := 51 + (h 2 * 3 + 0)) (v := g 0) (by unfold rla; omega)).up (j0 := 51 + (h 2 * 3 + 1)) (v := g 1) (by unfold rla; omega)).up (j0 := 2) (v := h 2 + 1) (by unfold rla; omega)
          rw [← i0, ← i1] at u
          have q1 := q1 _ z (by rw [ex, if_pos ok]) (xup (xup (xup N2 3 (51 + 3 * h 2) (nI (g 0))) 3 (51 + 3 * h 2 + 1) (nI (g 1))) 3 2 (nI (h 2 + 1))) (f2.p.tr (prf.d (fun a w => by rw [xup_other w, xup_other w, xup_other w]))) (by rw [xup_o (by decide), xup_o (by decide), xup_o (by decide)]; exact a2) (by
            unfold xap
            rw [← i0, ← i1]
            exact u)
          simp (disch := first | decide | omega) only [s152, xpush_s, i12, if_false, if_true, n0, n1, k0, k2, nI_lt_t, h152_48, pk_mul, nI_add, xup_r, xup_o, h152_109]
          exact q1
        · have q0 := q0 (fun w => by have := (of_decide_eq_true w).2.2; omega)
          simp (disch := first | decide | omega) only [s152, xpush_s, i12, i00, if_false, if_true, n0, n1, k0, nI_lt_t, nI_lt_f, h152_47, h152_48, h152_109]
          exact q0
      · have q0 := q0 (fun w => a0 (of_decide_eq_true w).2.1)
        simp (disch := first | decide | omega) only [s152, xpush_s, i12, i00, if_false, if_true, n0, k0, nI_lt_f, h152_47, h152_48, h152_109]
        exact q0
  · have q0 := q0 (by
      rw [ex]
      exact bind_no (fun r => if_neg (fun w => b5 (of_decide_eq_true w).1))) N prf.rf
    simp (disch := first | decide | omega) only [s152, m2, nI_lt_f, if_false, i00, if_true, h152_47, h152_48, h152_109]
    exact q0
end C57
