/-! fault and lay -/
section C58
variable {M N : xM} {Q : Option Value → xM → Prop} {T : Nat → Nat} {n : Nat} {S : xA} {h : Nat → Nat} {o : Bool}
theorem r153 (X : xTx T n) (C : rT T n N) (hQ : ∀ N', prf N N' → ((xfls T n 200 xpl false 0).1 = -4 → rH 3 (xfls T n 200 xpl false 0).2 N') → Q (some (.int (xfls T n 200 xpl false 0).1)) N') : xW xSR 153 0 [.ref 0, .null, .null, .null, .null] [] N Q := by
  have n2 := X.1
  have key : ∀ (m p : Nat) (h : Nat → Nat) (o : Bool) (N1 : xM) (x2 x3 x4 : Value), n ≤ p + m → p ≤ n → prf N N1 → xTl h o → rH 3 h N1 → N1 0 4 = nI p → xfls T n m h o p = xfls T n 200 xpl false 0 → xW xSR 153 14 [.ref 0, .int (if o = true then nI 1 else nI 0), x2, x3, x4] [] N1 Q := by
    intro m
    induction m with
    | zero =>
      intro p h o N1 x2 x3 x4 hm hp f I R a e
      rw [← e] at hQ
      have hQ := hQ N1 f (fun _ => R)
      have a4 := (C.p f).1
      rw [h153_14]
      cases o <;> simp (disch := first | decide | omega) only [s153, a, a4, nI_lt_f, if_false, if_true, Bool.false_eq_true] <;> exact hQ
    | succ m ih =>
      intro p h o N1 x2 x3 x4 hm hp f I R a e
      have C1 := C.p f
      have a4 := C1.1
      have e : (if p < n then (xit T n h o (p + 1) (T p)).elim (nI p, h) (fun r => xfls T n m r.1 (o || decide (T p ≠ 114)) r.2) else (-4, h)) = xfls T n 200 xpl false 0 := e
      generalize xfls T n 200 xpl false 0 = R0 at *
      by_cases z : p < n
      · rw [if_pos z] at e
        have tp := X.2 p z
        have mt := C1.2 p z
        have fa : prf N1 (xup N1 0 4 (nI (p + 1))) := trf.a.p
        have f1 := f.tr fa
        have C2 := C1.p fa
        have R2 : rH 3 h (xup N1 0 4 (nI (p + 1))) := R.mono (xup_other (by decide))
        have at2 : xup N1 0 4 (nI (p + 1)) 0 4 = nI (p + 1) := xup_rs _ _ _ _
        have bad : xit T n h o (p + 1) (T p) = none → ∀ (N' : xM) (o' : Int32) (x4 : Value), prf (xup N1 0 4 (nI (p + 1))) N' → (o' = nI 0 ∨ o' = nI 1) → xW xSR 153 145 [.ref 0, .int o', .int (nI p), .int (nI (T p)), x4] [.int (nI 0)] N' Q := by
          intro w N' o' x4 g ho
          rw [w] at e
          have e : (nI p, h) = R0 := e
          rw [← e] at hQ
          have hQ := hQ N' (f1.tr g) (fun v => by
            have v : nI p = -4 := v
            rw [nI_ne4 (show p < 2 ^ 31 by omega)] at v
            exact v.elim)
          rw [h153_145]
          rcases ho with ho | ho
          · subst ho
            by_cases c : T p = 114
            · simp (disch := first | decide | omega) only [s153, i00, if_true, nI_eq_t, h153_162]
              exact hQ
            · simp (disch := first | decide | omega) only [s153, i00, if_true, nI_eq_f, if_false, h153_157, h153_162]
              exact hQ
          · subst ho
            simp (disch := first | decide | omega) only [s153, i12, i00, if_true, if_false, h153_157, h153_162]
            exact hQ
        have ot : (if o = true then nI 1 else nI 0) = nI 0 ∨ (if o = true then nI 1 else nI 0) = nI 1 := by cases o <;> simp
        have good : ∀ (h' : Nat → Nat) (q : Nat), xit T n h o (p + 1) (T p) = some (h', q) → ∀ (N' : xM) (x4 : Value), prf (xup N1 0 4 (nI (p + 1))) N' → N' 0 4 = nI q → rH 3 h' N' → xW xSR 153 145 [.ref 0, .int (if o = true then nI 1 else nI 0), .int (nI p), .int (nI (T p)), x4] [.int (nI 1)] N' Q := by
          intro h' q w N' x4 g aq Rq
          obtain ⟨I2, b1, b2⟩ := xit_T I (show p + 1 ≤ n by omega) w
          rw [w] at e
          have nxt := ih q h' (o || decide (T p ≠ 114)) N' (.int (nI p)) (.int (nI (T p))) (.int (nI 1)) (by omega) b2 (f1.tr g) I2 Rq aq e
          rw [h153_145]
          cases o with
          | true =>
            rw [show (true || decide (T p ≠ 114)) = true from rfl] at nxt
            simp (disch := first | decide | omega) only [if_true] at nxt ⊢
            simp (disch := first | decide | omega) only [s153, i12, if_false, h153_157, h153_162]
            exact nxt
          | false =>
            by_cases c : T p = 114
            · rw [show (false || decide (T p ≠ 114)) = false by rw [Bool.false_or]; exact decide_eq_false (fun k => k c)] at nxt
              simp (disch := first | decide | omega) only [Bool.false_eq_true, if_false] at nxt ⊢
              simp (disch := first | decide | omega) only [s153, i00, i12, if_true, if_false, nI_eq_t, h153_162]
              exact nxt
            · rw [show (false || decide (T p ≠ 114)) = true by rw [Bool.false_or]; exact decide_eq_true c] at nxt
              simp (disch := first | decide | omega) only [Bool.false_eq_true, if_false, if_true] at nxt ⊢
              simp (disch := first | decide | omega) only [s153, i00, i12, if_true, if_false, nI_eq_f, h153_157, h153_162]
              exact nxt
        by_cases w1 : T p = 114
        · rw [w1] at bad good mt
          cases o with
          | true =>
            have bad := bad (by
              unfold xit
              rw [if_pos rfl]
              exact bind_no (fun r => if_neg (fun w => absurd (of_decide_eq_true w).1 (by decide)))) (xup N1 0 4 (nI (p + 1))) (nI 1) x4 prf.rf (Or.inr rfl)
            rw [h153_14]
            simp (disch := first | decide | omega) only [if_true, s153, a, a4, nI_lt_t, mt, nI_eq_t, i12, if_false, nI_add, h153_71]
            exact bad
          | false =>
            simp (disch := first | decide | omega) only [Bool.false_eq_true, if_false] at bad good ⊢
            rw [h153_14]
            simp (disch := first | decide | omega) only [s153, a, a4, nI_lt_t, if_true, mt, nI_eq_t, i00, nI_add]
            refine r147 X C2 R2 I (by omega) at2 (fun w N' g => ?_) (fun h' q w N' g aq Rq => ?_)
            · simp (disch := first | decide | omega) only [s153, xpush_s, i00, if_true, h153_71]
              exact bad w N' _ _ g (Or.inl rfl)
            · simp (disch := first | decide | omega) only [s153, xpush_s, i12, if_false]
              exact good h' q w N' _ g aq Rq
        · by_cases w2 : T p = 100
          · rw [w2] at bad good mt
            rw [h153_14]
            cases o <;>
            · simp (disch := first | decide | omega) only [Bool.false_eq_true, if_false, if_true] at bad good ot ⊢
              simp (disch := first | decide | omega) only [s153, a, a4, nI_lt_t, if_true, mt, nI_eq_t, nI_eq_f, if_false, nI_add]
              refine r148 X C2 R2 I (by omega) at2 (fun w N' g => ?_) (fun h' q w N' g aq Rq => ?_)
              · simp (disch := first | decide | omega) only [s153, xpush_s]
                exact bad w N' _ _ g (by first | exact Or.inl rfl | exact Or.inr rfl)
              · simp (disch := first | decide | omega) only [s153, xpush_s]
                exact good h' q w N' _ g aq Rq
          · by_cases w3 : T p = 115
            · rw [w3] at bad good mt
              rw [h153_14]
              cases o <;>
              · simp (disch := first | decide | omega) only [Bool.false_eq_true, if_false, if_true] at bad good ot ⊢
                simp (disch := first | decide | omega) only [s153, a, a4, nI_lt_t, if_true, mt, nI_eq_t, nI_eq_f, if_false, nI_add]
                refine r149 X C2 R2 I (by omega) at2 (fun w N' g => ?_) (fun h' q w N' g aq Rq => ?_)
                · simp (disch := first | decide | omega) only [s153, xpush_s]
                  exact bad w N' _ _ g (by first | exact Or.inl rfl | exact Or.inr rfl)
                · simp (disch := first | decide | omega) only [s153, xpush_s]
                  exact good h' q w N' _ g aq Rq
            · by_cases w4 : T p = 119
              · rw [w4] at bad good mt
                rw [h153_14]
                cases o <;>
                · simp (disch := first | decide | omega) only [Bool.false_eq_true, if_false, if_true] at bad good ot ⊢
                  simp (disch := first | decide | omega) only [s153, a, a4, nI_lt_t, if_true, mt, nI_eq_t, nI_eq_f, if_false, nI_add]
                  refine r150 X C2 R2 I (by omega) at2 (fun w N' g => ?_) (fun h' q w N' g aq Rq => ?_)
                  · simp (disch := first | decide | omega) only [s153, xpush_s]
                    exact bad w N' _ _ g (by first | exact Or.inl rfl | exact Or.inr rfl)
                  · simp (disch := first | decide | omega) only [s153, xpush_s]
                    exact good h' q w N' _ g aq Rq
              · by_cases w5 : T p = 99
                · rw [w5] at bad good mt
                  rw [h153_14]
                  cases o <;>
                  · simp (disch := first | decide | omega) only [Bool.false_eq_true, if_false, if_true] at bad good ot ⊢
                    simp (disch := first | decide | omega) only [s153, a, a4, nI_lt_t, if_true, mt, nI_eq_t, nI_eq_f, if_false, nI_add]
                    refine r151 X C2 R2 I (by omega) at2 (fun w N' g => ?_) (fun h' q w N' g aq Rq => ?_)
                    · simp (disch := first | decide | omega) only [s153, xpush_s]
                      exact bad w N' _ _ g (by first | exact Or.inl rfl | exact Or.inr rfl)
                    · simp (disch := first | decide | omega) only [s153, xpush_s]
                      exact good h' q w N' _ g aq Rq
                · by_cases w6 : T p = 112
                  · rw [w6] at bad good mt
                    rw [h153_14]
                    cases o <;>
                    · simp (disch := first | decide | omega) only [Bool.false_eq_true, if_false, if_true] at bad good ot ⊢
                      simp (disch := first | decide | omega) only [s153, a, a4, nI_lt_t, if_true, mt, nI_eq_t, nI_eq_f, if_false, nI_add]
                      refine r152 X C2 R2 I (by omega) at2 (fun w N' g => ?_) (fun h' q w N' g aq Rq => ?_)
                      · simp (disch := first | decide | omega) only [s153, xpush_s, i00, if_true, h153_144]
                        exact bad w N' _ _ g (by first | exact Or.inl rfl | exact Or.inr rfl)
                      · simp (disch := first | decide | omega) only [s153, xpush_s, i12, if_false]
                        exact good h' q w N' _ g aq Rq
                  · have bad := bad (by
                      unfold xit
                      rw [if_neg w1, if_neg w2, if_neg w3, if_neg w4, if_neg w5, if_neg w6]) (xup N1 0 4 (nI (p + 1))) (if o = true then nI 1 else nI 0) x4 prf.rf ot
                    rw [h153_14]
                    cases o <;>
                    · simp (disch := first | decide | omega) only [Bool.false_eq_true, if_false, if_true] at bad ⊢
                      simp (disch := first | decide | omega) only [s153, a, a4, nI_lt_t, if_true, mt, nI_eq_f, if_false, nI_add, h153_144]
                      exact bad
      · rw [if_neg z] at e
        rw [← e] at hQ
        have hQ := hQ N1 f (fun _ => R)
        rw [h153_14]
        cases o <;> simp (disch := first | decide | omega) only [s153, a, a4, nI_lt_f, if_false, if_true, Bool.false_eq_true] <;> exact hQ
  simp (disch := first | decide | omega) only [s153]
  refine r137 (fun N1 f1 R1 => ?_)
  simp (disch := first | decide | omega) only [s153, xpush_n]
  have K := key 200 0 xpl false (xup N1 0 4 (nI 0)) .null .null .null (by omega) (by omega) ((prf.d f1).tr trf.a.p) xpl_T (R1.mono (xup_other (by decide))) (xup_rs _ _ _ _) rfl
  simp (disch := first | decide | omega) only [Bool.false_eq_true, if_false] at K
  exact K
theorem A_fault (C : RC S M) (R : RR S N) (W : WA S) : Agr S M N 99 [.ref 0] 154 [.ref 0] := by
  refine Agr.same W (xfls (S 1) (S 2 0) 200 xpl false 0).1 ?_ ?_
  · simp (disch := first | decide | omega) only [s99]
    refine c71 W.1 C.1 (fun M1 f _ => ?_)
    simp (disch := first | decide | omega) only [s99, xpush_s]
    exact ⟨trivial, C.fr ⟨fun a q => f.1 a (by omega) (by omega) (by omega), f.2⟩⟩
  · simp (disch := first | decide | omega) only [s154]
    refine r153 W.1 R.1 (fun N1 f _ => ?_)
    simp (disch := first | decide | omega) only [s154, xpush_s]
    exact ⟨trivial, R.fr f.r⟩
/-- the state behind a lay -/
def xly (S : xA) (h : Nat → Nat) : xA := fun a => if a = 0 then h else if a = 2 then (fun j => if j = 0 then S 2 0 else 0) else S a
theorem RC.lay {M' : xM} {nx : Nat} (C : RC S M) (H : cH 9 h M') (h04 : M' 0 4 = nI 0) (h07 : M' 0 7 = nI 0) (h27 : M' 27 3 = nI 0) (h24 : M' 24 2 = nI 0) (hx : nx < 8) (hn : M' 24 1 = nI nx) (h14 : M' 1 4 = M 1 4) (h2 : M' 2 = M 2) : RC (xly S h) M' := by
  obtain ⟨⟨a1, a2⟩, -⟩ := C
  refine ⟨⟨by rw [h14]; exact a1, fun j hj => by rw [h2]; exact a2 j hj⟩, H, ⟨h07, fun j hj => absurd hj (Nat.not_lt_zero _)⟩, ⟨h27, fun j hj => absurd hj (Nat.not_lt_zero _)⟩, ⟨h04, fun q => absurd q (show ¬ 1 ≤ 0 by decide), fun q => absurd q (show ¬ 2 ≤ 0 by decide)⟩, nx, hx, hn, h24, fun i hi => absurd hi (Nat.not_lt_zero _)⟩
theorem RR.lay {N' : xM} (R : RR S N) (H : rH 1 h N') (g11 : N' 0 11 = nI 0) (g16 : N' 0 16 = nI 0) (g10 : N' 0 10 = nI 0) (g18 : N' 0 18 = nI 0) (g2 : N' 0 2 = N 0 2) (h2 : N' 2 = N 2) : RR (xly S h) N' := by
  obtain ⟨⟨a1, a2⟩, -⟩ := R
  refine ⟨⟨by rw [g2]; exact a1, fun j hj => by rw [h2]; exact a2 j hj⟩, H, ⟨g11, fun j hj => absurd hj (Nat.not_lt_zero _)⟩, ⟨g16, fun j hj => absurd hj (Nat.not_lt_zero _)⟩, ⟨g18, fun q => absurd q (show ¬ 1 ≤ 0 by decide), fun q => absurd q (show ¬ 2 ≤ 0 by decide)⟩, g10, fun i hi => absurd hi (Nat.not_lt_zero _)⟩
theorem WA.lay (W : WA S) (w : xWF h) : WA (xly S h) := ⟨W.1, w, ⟨Nat.zero_le _, fun j hj => absurd hj (Nat.not_lt_zero _)⟩, ⟨Nat.zero_le _, fun j hj => absurd hj (Nat.not_lt_zero _)⟩, ⟨Nat.zero_le _, fun q => absurd q (show ¬ 1 ≤ 0 by decide), fun q => absurd q (show ¬ 2 ≤ 0 by decide)⟩, Nat.zero_le _, fun i hi => absurd hi (Nat.not_lt_zero _)⟩
theorem r155c (R : rH 3 h N) (hQ : ∀ N', (∀ a, a ≠ 1 → N' a = N a) → rH 1 h N' → xW xSR 155 57 [.ref 0, .int (nI 156)] [] N' Q) : ∀ (m k : Nat) (N1 : xM), k + m = 156 → (∀ a, a ≠ 1 → N1 a = N a) → (∀ j, j < k → N1 1 j = N 3 j) → xW xSR 155 32 [.ref 0, .int (nI k)] [] N1 Q := by
  intro m
  induction m with
  | zero =>
    intro k N1 hk f d
    have hk : k = 156 := hk
    subst hk
    have hQ := hQ N1 f ⟨fun j a b => by rw [d j a]; exact R.1 j a b, fun j a => by rw [d j (by unfold rla at a; omega)]; exact R.2 j a⟩
    rw [h155_32]
    simp (disch := first | decide | omega) only [s155, nI_lt_f, if_false] at hQ ⊢
    exact hQ
  | succ m ih =>
    intro k N1 hk f d
    have m3 : N1 3 = N 3 := f 3 (by decide)
    rw [h155_32]
    simp (disch := first | decide | omega) only [s155, nI_lt_t, if_true, m3, nI_add]
    refine ih (k + 1) _ (by omega) (fun a w => by rw [xup_other w]; exact f a w) (fun j hj => ?_)
    by_cases w : j = k
    · rw [w, xup_rs]
    · rw [xup_r w]
      exact d j (by omega)
theorem A_lay (C : RC S M) (R : RR S N) (W : WA S) : Agr S M N 100 [.ref 0] 155 [.ref 0, .null] := by
  have n2 := W.1.1
  have T := fun e => xfls_T (T := S 1) (n := S 2 0) 200 xpl false 0 xpl_T (Nat.zero_le _) n2 e
  have c71' := fun (Q : Option Value → xM → Prop) hQ => c71 (M := M) (Q := Q) (T := S 1) (n := S 2 0) W.1 C.1 hQ
  have r153' := fun (Q : Option Value → xM → Prop) hQ => r153 (N := N) (Q := Q) (T := S 1) (n := S 2 0) W.1 R.1 hQ
  generalize xfls (S 1) (S 2 0) 200 xpl false 0 = r at *
  have frC : ∀ M1, pcf M M1 → RC S M1 := fun M1 f => C.fr ⟨fun a q => f.1 a (by omega) (by omega) (by omega), f.2⟩
  by_cases e : r.1 = -4
  · obtain ⟨o', I⟩ := T e
    obtain ⟨h, hh⟩ : ∃ h, r.2 = h := ⟨_, rfl⟩
    rw [hh] at I
    have h8 := I.1.1.2.2.1
    have h5 := I.1.1.2.2.2
    have h00 := I.1.1.2.1
    by_cases g : 1 ≤ h 1 ∧ 1 ≤ h 2
    · refine ⟨nI (h 0), xly S h, W.lay I.1, ?_, ?_⟩
      · simp (disch := first | decide | omega) only [s100]
        refine c71' _ (fun M1 f H => ?_)
        have H1 := H e
        rw [hh] at H1
        have m1 : M1 4 1 = nI (h 1) := H1.1.2.1
        have m2 : M1 4 2 = nI (h 2) := H1.1.2.2
        simp (disch := first | decide | omega) only [s100, xpush_s, e, eq_self, if_true, m1, m2, nI_lt_f, if_false]
        refine c22_9_4 (fun M2 t => ?_)
        have H2 := t.cH H1 h5
        have q0 : M2 9 0 = nI (h 0) := H2.1.1
        obtain ⟨nx, hx, hn, -, -⟩ := (frC M1 f).2.2.2.2.2
        have hn2 : M2 24 1 = nI nx := by rw [t.1 24 (by omega)]; exact hn
        simp (disch := first | decide | omega) only [s100, xpush_n, s16, s5, xup_o, q0]
        refine ⟨trivial, RC.lay (nx := nx) C (H2.mono (fun a u v => by rw [xup_other (by omega), xup_other (by omega), xup_other (by omega), xup_other (by omega)])) ?_ ?_ ?_ ?_ hx ?_ ?_ ?_⟩
        · rw [xup_o (by decide), xup_o (by decide), xup_rs]
        · rw [xup_o (by decide), xup_o (by decide), xup_r (by decide), xup_rs]
        · rw [xup_o (by decide), xup_rs]
        · rw [xup_rs]
        · rw [xup_r (by decide), xup_o (by decide), xup_o (by decide), xup_o (by decide)]; exact hn2
        · rw [xup_o (by decide), xup_o (by decide), xup_o (by decide), xup_o (by decide), t.1 1 (by omega), f.2]
        · rw [xup_other (by decide), xup_other (by decide), xup_other (by decide), xup_other (by decide), t.1 2 (by omega), f.1 2 (by decide) (by decide) (by omega)]
      · simp (disch := first | decide | omega) only [s155]
        refine r153' _ (fun N1 f H => ?_)
        have H1 := H e
        rw [hh] at H1
        have m1 : N1 3 1 = nI (h 1) := H1.at _ rfl (by omega) (by omega)
        have m2 : N1 3 2 = nI (h 2) := H1.at _ rfl (by omega) (by omega)
        simp (disch := first | decide | omega) only [s155, xpush_s, e, eq_self, if_true, m1, m2, nI_eq_f, if_false]
        refine r155c H1 (fun N2 f2 H2 => ?_) 156 0 N1 (by omega) (fun _ _ => rfl) (fun j hj => absurd hj (by omega))
        have q0 : N2 1 0 = nI (h 0) := H2.at _ rfl (by omega) (by omega)
        simp (disch := first | decide | omega) only [s155, xup_o, q0]
        refine ⟨trivial, RR.lay R (H2.mono (by rw [xup_other (by decide), xup_other (by decide), xup_other (by decide), xup_other (by decide)])) ?_ ?_ ?_ ?_ ?_ ?_⟩
        · rw [xup_r (by decide), xup_r (by decide), xup_r (by decide), xup_rs]
        · rw [xup_r (by decide), xup_r (by decide), xup_rs]
        · rw [xup_r (by decide), xup_rs]
        · rw [xup_rs]
        · rw [xup_r (by decide), xup_r (by decide), xup_r (by decide), xup_r (by decide), f2 0 (by decide), f.2 2 (by decide)]
        · rw [xup_other (by decide), xup_other (by decide), xup_other (by decide), xup_other (by decide), f2 2 (by decide), f.1 2 (by decide) (by decide) (by decide)]
    · refine Agr.same W (-2) ?_ ?_
      · simp (disch := first | decide | omega) only [s100]
        refine c71' _ (fun M1 f H => ?_)
        have H1 := H e
        rw [hh] at H1
        have m1 : M1 4 1 = nI (h 1) := H1.1.2.1
        have m2 : M1 4 2 = nI (h 2) := H1.1.2.2
        by_cases g1 : 1 ≤ h 1
        · simp (disch := first | decide | omega) only [s100, xpush_s, e, eq_self, if_true, m1, m2, nI_lt_f, nI_lt_t, if_false, h100_43]
          exact ⟨trivial, frC M1 f⟩
        · simp (disch := first | decide | omega) only [s100, xpush_s, e, eq_self, if_true, m1, nI_lt_t, h100_43]
          exact ⟨trivial, frC M1 f⟩
      · simp (disch := first | decide | omega) only [s155]
        refine r153' _ (fun N1 f H => ?_)
        have H1 := H e
        rw [hh] at H1
        have m1 : N1 3 1 = nI (h 1) := H1.at _ rfl (by omega) (by omega)
        have m2 : N1 3 2 = nI (h 2) := H1.at _ rfl (by omega) (by omega)
        by_cases g1 : 1 ≤ h 1
        · simp (disch := first | decide | omega) only [s155, xpush_s, e, eq_self, if_true, m1, m2, nI_eq_f, nI_eq_t, if_false, h155_27]
          exact ⟨trivial, R.fr f.r⟩
        · simp (disch := first | decide | omega) only [s155, xpush_s, e, eq_self, if_true, m1, nI_eq_t, h155_27]
          exact ⟨trivial, R.fr f.r⟩
  · have e' : (r.1 = -4) = False := eq_false e
    refine Agr.same W (-2) ?_ ?_
    · simp (disch := first | decide | omega) only [s100]
      refine c71' _ (fun M1 f _ => ?_)
      simp (disch := first | decide | omega) only [s100, xpush_s, e', if_false]
      exact ⟨trivial, frC M1 f⟩
    · simp (disch := first | decide | omega) only [s155]
      refine r153' _ (fun N1 f _ => ?_)
      simp (disch := first | decide | omega) only [s155, xpush_s, e', if_false, h155_27]
      exact ⟨trivial, R.fr f.r⟩
end C58
