/-! items of a text: the class reads them -/
section C56
variable {M N : xM} {Q : Option Value → xM → Prop} {T : Nat → Nat} {n : Nat} {h : Nat → Nat} {o : Bool}
theorem c80t {m p : Nat} (X : xTx T n) (C : cT T n M) (hm : 1 ≤ m) (hm6 : m ≤ 6) (hp : p + 1 ≤ n) (at' : M 1 2 = nI p) (q0 : xns T n m 0 (p + 1) xz0 = none → ∀ M', tcf M M' → Q (some (.int (nI 0))) M') (q1 : ∀ g z, xns T n m 0 (p + 1) xz0 = some (g, z) → ∀ M', tcf M M' → M' 1 2 = nI z → (∀ j, j < m → M' 3 j = nI (g j)) → Q (some (.int (nI 1))) M') : xW xSC 80 0 [.ref 1, .int (nI m), .null, .null, .null] [] M Q := by
  have n2 := X.1
  simp (disch := first | decide | omega) only [s80, at', nI_add]
  exact c80 (M := M) X C hm6 m 0 (p + 1) xz0 (xup M 1 2 (nI (p + 1))) _ _ (by omega) hp tcf.a (xup_rs _ _ _ _) (fun j hj => absurd hj (by omega)) q0 q1
theorem c72 {p c : Nat} (X : xTx T n) (C : cT T n M) (I : xTl h o) (H : cH 4 h M) (hp : p + 1 ≤ n) (at' : M 1 2 = nI p) (fl : M 1 3 = if o = true then nI 0 else nI 1) (hc : c ≤ 126)
    (q0 : xit T n h o (p + 1) c = none → ∀ M', pcf M M' → Q (some (.int (nI 0))) M')
    (q1 : ∀ h' z, xit T n h o (p + 1) c = some (h', z) → ∀ M', pcf M M' → M' 1 2 = nI z → (M' 1 3 = if (o || decide (c ≠ 114)) = true then nI 0 else nI 1) → cH 4 h' M' → Q (some (.int (nI 1))) M') : xW xSC 72 0 [.ref 1, .int (nI c)] [] M Q := by
  have h5 := I.1.1.2.2.2
  have n2 := X.1
  have fl' : ∀ (M2 : xM) (c : Nat), M2 1 3 = nI 0 → c ≠ 114 → M2 1 3 = if (o || decide (c ≠ 114)) = true then nI 0 else nI 1 := fun M2 c e w => by
    rw [decide_eq_true w, Bool.or_true, if_pos rfl]
    exact e
  have ff : pcf M (xup M 1 3 (nI 0)) := pcf.o
  have at2 : xup M 1 3 (nI 0) 1 2 = nI p := by rw [xup_r (by decide)]; exact at'
  have Hf : cH 4 h (xup M 1 3 (nI 0)) := H.mono (fun a u v => xup_other (by omega))
  by_cases w1 : c = 114
  · subst w1
    have ex : xit T n h o (p + 1) 114 = (xns T n 1 0 (p + 1) xz0).bind (fun r => if okR o r.1 = true then some (hset h 0 (r.1 0), r.2) else none) := by
      unfold xit
      rw [if_pos rfl]
    simp (disch := first | decide | omega) only [s72, nI_eq_t, if_true]
    refine c80t X (C.p pcf.rf) (by omega) (by omega) hp at' (fun e M2 f2 => ?_) (fun g z e M2 f2 a2 nu => ?_)
    · simp (disch := first | decide | omega) only [s72, xpush_s, i00, if_true, h72_25, h72_26]
      exact q0 (by rw [ex, e]; rfl) M2 (pcf.rf.tr f2.p)
    · obtain ⟨gb, -, -, -⟩ := xns_b 1 0 (p + 1) xz0 g z e hp (fun j hj => absurd hj (by omega))
      rw [e] at ex
      simp only [Option.bind_some] at ex
      have H2 : cH 4 h M2 := H.mono (fun a u v => f2.1 a (by omega) (by omega))
      have e3 : M2 1 3 = M 1 3 := f2.2 3 (by decide)
      simp (disch := first | decide | omega) only [s72, xpush_s, i12, if_false]
      refine c73 (f := g) (o := o) (gb 0 (by decide)) (e3.trans fl) (nu 0 (by decide)) (fun no => ?_) (fun ok => ?_)
      · simp (disch := first | decide | omega) only [s72, xpush_s, i00, if_true, h72_25, h72_26]
        exact q0 (by rw [ex, if_neg no]) M2 (pcf.rf.tr f2.p)
      · simp (disch := first | decide | omega) only [s72, xpush_s, i12, if_false, h72_26]
        exact q1 _ z (by rw [ex, if_pos ok]) _ (pcf.rf.tr (f2.p.tr (pcf.d (xfr.up (by decide) (by decide))))) (by rw [xup_o (by decide)]; exact a2) (by rw [xup_o (by decide), e3, fl]; cases o <;> rfl) H2.s0
  · by_cases w2 : c = 100
    · subst w2
      have ex : xit T n h o (p + 1) 100 = (xns T n 4 0 (p + 1) xz0).bind (fun r => if okD h r.1 = true then some (xad h (r.1 0) (r.1 1) (r.1 2) (r.1 3), r.2) else none) := by
        unfold xit
        rw [if_neg (by decide), if_pos rfl]
      simp (disch := first | decide | omega) only [s72, nI_eq_f, if_false]
      refine c80t X (C.p ff) (by omega) (by omega) hp at2 (fun e M2 f2 => ?_) (fun g z e M2 f2 a2 nu => ?_)
      · simp (disch := first | decide | omega) only [s72, xpush_s, i00, if_true, h72_103, h72_104]
        exact q0 (by rw [ex, e]; rfl) M2 (ff.tr f2.p)
      · obtain ⟨gb, -, -, -⟩ := xns_b 4 0 (p + 1) xz0 g z e hp (fun j hj => absurd hj (by omega))
        rw [e] at ex
        simp only [Option.bind_some] at ex
        have H2 : cH 4 h M2 := Hf.mono (fun a u v => f2.1 a (by omega) (by omega))
        have e3 : M2 1 3 = (xup M 1 3 (nI 0)) 1 3 := f2.2 3 (by decide)
        simp (disch := first | decide | omega) only [s72, xpush_s, i12, if_false]
        refine c74 (f := g) H2 I (fun j hj => gb j (by omega)) nu (fun no => ?_) (fun ok M3 f3 H3 => ?_)
        · simp (disch := first | decide | omega) only [s72, xpush_s, i00, if_true, h72_103, h72_104]
          exact q0 (by rw [ex, if_neg no]) M2 (ff.tr f2.p)
        · simp (disch := first | decide | omega) only [s72, xpush_s, i12, if_false, h72_104]
          exact q1 _ z (by rw [ex, if_pos ok]) _ (ff.tr (f2.p.tr (pcf.d f3))) (by rw [f3 1 (by omega)]; exact a2) (fl' M3 100 (by rw [f3 1 (by omega), e3, xup_rs]) (by decide)) H3
    · by_cases w3 : c = 115
      · subst w3
        have ex : xit T n h o (p + 1) 115 = (xns T n 3 0 (p + 1) xz0).bind (fun r => if okS h r.1 = true then some (hset h (3 + (r.1 0 * 6 + (4 + r.1 1))) (r.1 2), r.2) else none) := by
          unfold xit
          rw [if_neg (by decide), if_neg (by decide), if_pos rfl]
        simp (disch := first | decide | omega) only [s72, nI_eq_f, if_false]
        refine c80t X (C.p ff) (by omega) (by omega) hp at2 (fun e M2 f2 => ?_) (fun g z e M2 f2 a2 nu => ?_)
        · simp (disch := first | decide | omega) only [s72, xpush_s, i00, if_true, h72_124, h72_125]
          exact q0 (by rw [ex, e]; rfl) M2 (ff.tr f2.p)
        · obtain ⟨gb, -, -, -⟩ := xns_b 3 0 (p + 1) xz0 g z e hp (fun j hj => absurd hj (by omega))
          rw [e] at ex
          simp only [Option.bind_some] at ex
          have H2 : cH 4 h M2 := Hf.mono (fun a u v => f2.1 a (by omega) (by omega))
          have e3 : M2 1 3 = (xup M 1 3 (nI 0)) 1 3 := f2.2 3 (by decide)
          simp (disch := first | decide | omega) only [s72, xpush_s, i12, if_false]
          refine c75 (f := g) H2 I (fun j hj => gb j (by omega)) nu (fun no => ?_) (fun ok M3 f3 H3 => ?_)
          · simp (disch := first | decide | omega) only [s72, xpush_s, i00, if_true, h72_124, h72_125]
            exact q0 (by rw [ex, if_neg no]) M2 (ff.tr f2.p)
          · simp (disch := first | decide | omega) only [s72, xpush_s, i12, if_false, h72_125]
            exact q1 _ z (by rw [ex, if_pos ok]) _ (ff.tr (f2.p.tr (pcf.d f3))) (by rw [f3 1 (by omega)]; exact a2) (fl' M3 115 (by rw [f3 1 (by omega), e3, xup_rs]) (by decide)) H3
      · by_cases w4 : c = 119
        · subst w4
          have ex : xit T n h o (p + 1) 119 = (xns T n 6 0 (p + 1) xz0).bind (fun r => if okW r.1 = true then some (xds h r.1, r.2) else none) := by
            unfold xit
            rw [if_neg (by decide), if_neg (by decide), if_neg (by decide), if_pos rfl]
          simp (disch := first | decide | omega) only [s72, nI_eq_f, if_false]
          refine c80t X (C.p ff) (by omega) (by omega) hp at2 (fun e M2 f2 => ?_) (fun g z e M2 f2 a2 nu => ?_)
          · simp (disch := first | decide | omega) only [s72, xpush_s, i00, if_true, h72_146, h72_147]
            exact q0 (by rw [ex, e]; rfl) M2 (ff.tr f2.p)
          · obtain ⟨gb, -, -, -⟩ := xns_b 6 0 (p + 1) xz0 g z e hp (fun j hj => absurd hj (by omega))
            rw [e] at ex
            simp only [Option.bind_some] at ex
            have H2 : cH 4 h M2 := Hf.mono (fun a u v => f2.1 a (by omega) (by omega))
            have e3 : M2 1 3 = (xup M 1 3 (nI 0)) 1 3 := f2.2 3 (by decide)
            simp (disch := first | decide | omega) only [s72, xpush_s, i12, if_false]
            refine c76 (f := g) H2 h5 (fun j hj => gb j (by omega)) nu (fun no => ?_) (fun ok M3 f3 H3 => ?_)
            · simp (disch := first | decide | omega) only [s72, xpush_s, i00, if_true, h72_146, h72_147]
              exact q0 (by rw [ex, if_neg no]) M2 (ff.tr f2.p)
            · simp (disch := first | decide | omega) only [s72, xpush_s, i12, if_false, h72_147]
              exact q1 _ z (by rw [ex, if_pos ok]) _ (ff.tr (f2.p.tr (pcf.d f3))) (by rw [f3 1 (by omega)]; exact a2) (fl' M3 119 (by rw [f3 1 (by omega), e3, xup_rs]) (by decide)) H3
        · by_cases w5 : c = 99
          · subst w5
            have ex : xit T n h o (p + 1) 99 = (xns T n 2 0 (p + 1) xz0).bind (fun r => if okC r.1 = true then some (hset h (146 + (6 + r.1 0)) (r.1 1), r.2) else none) := by
              unfold xit
              rw [if_neg (by decide), if_neg (by decide), if_neg (by decide), if_neg (by decide), if_pos rfl]
            simp (disch := first | decide | omega) only [s72, nI_eq_f, if_false]
            refine c80t X (C.p ff) (by omega) (by omega) hp at2 (fun e M2 f2 => ?_) (fun g z e M2 f2 a2 nu => ?_)
            · simp (disch := first | decide | omega) only [s72, xpush_s, i00, if_true, h72_167, h72_168]
              exact q0 (by rw [ex, e]; rfl) M2 (ff.tr f2.p)
            · obtain ⟨gb, -, -, -⟩ := xns_b 2 0 (p + 1) xz0 g z e hp (fun j hj => absurd hj (by omega))
              rw [e] at ex
              simp only [Option.bind_some] at ex
              have H2 : cH 4 h M2 := Hf.mono (fun a u v => f2.1 a (by omega) (by omega))
              have e3 : M2 1 3 = (xup M 1 3 (nI 0)) 1 3 := f2.2 3 (by decide)
              simp (disch := first | decide | omega) only [s72, xpush_s, i12, if_false]
              refine c77 (f := g) H2 h5 (fun j hj => gb j (by omega)) nu (fun no => ?_) (fun ok M3 f3 H3 => ?_)
              · simp (disch := first | decide | omega) only [s72, xpush_s, i00, if_true, h72_167, h72_168]
                exact q0 (by rw [ex, if_neg no]) M2 (ff.tr f2.p)
              · simp (disch := first | decide | omega) only [s72, xpush_s, i12, if_false, h72_168]
                exact q1 _ z (by rw [ex, if_pos ok]) _ (ff.tr (f2.p.tr (pcf.d f3))) (by rw [f3 1 (by omega)]; exact a2) (fl' M3 99 (by rw [f3 1 (by omega), e3, xup_rs]) (by decide)) H3
          · by_cases w6 : c = 112
            · subst w6
              have ex : xit T n h o (p + 1) 112 = (xns T n 2 0 (p + 1) xz0).bind (fun r => if okP h r.1 = true then some (xap h (r.1 0) (r.1 1), r.2) else none) := by
                unfold xit
                rw [if_neg (by decide), if_neg (by decide), if_neg (by decide), if_neg (by decide), if_neg (by decide), if_pos rfl]
              simp (disch := first | decide | omega) only [s72, nI_eq_f, if_false]
              refine c80t X (C.p ff) (by omega) (by omega) hp at2 (fun e M2 f2 => ?_) (fun g z e M2 f2 a2 nu => ?_)
              · simp (disch := first | decide | omega) only [s72, xpush_s, i00, if_true, h72_188, h72_189]
                exact q0 (by rw [ex, e]; rfl) M2 (ff.tr f2.p)
              · obtain ⟨gb, -, -, -⟩ := xns_b 2 0 (p + 1) xz0 g z e hp (fun j hj => absurd hj (by omega))
                rw [e] at ex
                simp only [Option.bind_some] at ex
                have H2 : cH 4 h M2 := Hf.mono (fun a u v => f2.1 a (by omega) (by omega))
                have e3 : M2 1 3 = (xup M 1 3 (nI 0)) 1 3 := f2.2 3 (by decide)
                simp (disch := first | decide | omega) only [s72, xpush_s, i12, if_false]
                refine c78 (f := g) H2 I (fun j hj => gb j (by omega)) nu (fun no => ?_) (fun ok M3 f3 H3 => ?_)
                · simp (disch := first | decide | omega) only [s72, xpush_s, i00, if_true, h72_188, h72_189]
                  exact q0 (by rw [ex, if_neg no]) M2 (ff.tr f2.p)
                · simp (disch := first | decide | omega) only [s72, xpush_s, i12, if_false, h72_189]
                  exact q1 _ z (by rw [ex, if_pos ok]) _ (ff.tr (f2.p.tr (pcf.d f3))) (by rw [f3 1 (by omega)]; exact a2) (fl' M3 112 (by rw [f3 1 (by omega), e3, xup_rs]) (by decide)) H3
            · have ex : xit T n h o (p + 1) c = none := by
                unfold xit
                rw [if_neg w1, if_neg w2, if_neg w3, if_neg w4, if_neg w5, if_neg w6]
              have hn : ¬ (nI c = nI 99 ∨ nI c = nI 100 ∨ nI c = nI 112 ∨ nI c = nI 115 ∨ nI c = nI 119) := by
                rw [nI_eq (by omega) (by omega), nI_eq (by omega) (by omega), nI_eq (by omega) (by omega), nI_eq (by omega) (by omega), nI_eq (by omega) (by omega)]
                omega
              have off : lookupswitch.offset [(99, 115), (100, 51), (112, 136), (115, 72), (119, 93)] 157 (nI c).toInt = 157 := by
                rw [nI_toInt (by omega), lookupswitch.offset_cons, if_neg (by omega), lookupswitch.offset_cons, if_neg (by omega), lookupswitch.offset_cons, if_neg (by omega), lookupswitch.offset_cons, if_neg (by omega), lookupswitch.offset_cons, if_neg (by omega), lookupswitch.offset_nil]
              have sw : ∀ (M1 : xM), xW xSC 72 33 [.ref 1, .int (nI c)] [.int (nI c)] M1 Q = xW xSC 72 190 [.ref 1, .int (nI c)] [] M1 Q := fun M1 => xw_s rfl (by simp only [xdo, off]; rfl)
              simp (disch := first | decide | omega) only [s72, nI_eq_f, if_false, sw]
              exact q0 ex _ ff
/-- the class reads its text -/
theorem c71 (X : xTx T n) (C : cT T n M) (hQ : ∀ M', pcf M M' → ((xfls T n 200 xpl false 0).1 = -4 → cH 4 (xfls T n 200 xpl false 0).2 M') → Q (some (.int (xfls T n 200 xpl false 0).1)) M') : xW xSC 71 0 [.ref 1, .null, .null] [] M Q := by
  have n2 := X.1
  have key : ∀ (m k p : Nat) (h : Nat → Nat) (o : Bool) (M1 : xM) (x2 : Value), k + m = 200 → p ≤ n → pcf M M1 → xTl h o → cH 4 h M1 → M1 1 2 = nI p → (M1 1 3 = if o = true then nI 0 else nI 1) → xfls T n m h o p = xfls T n 200 xpl false 0 → xW xSC 71 19 [.ref 1, .int (nI k), x2] [] M1 Q := by
    intro m
    induction m with
    | zero =>
      intro k p h o M1 x2 hk hp f I H a fl e
      rw [← e] at hQ
      have hQ := hQ M1 f (fun _ => H)
      rw [h71_19]
      simp (disch := first | decide | omega) only [s71, nI_lt_f, if_false, h71_62]
      exact hQ
    | succ m ih =>
      intro k p h o M1 x2 hk hp f I H a fl e
      have C1 := C.p f
      have a4 := C1.1
      have e : (if p < n then (xit T n h o (p + 1) (T p)).elim (nI p, h) (fun r => xfls T n m r.1 (o || decide (T p ≠ 114)) r.2) else (-4, h)) = xfls T n 200 xpl false 0 := e
      generalize xfls T n 200 xpl false 0 = R0 at *
      rw [h71_19]
      by_cases z : p < n
      · rw [if_pos z] at e
        have c83p := fun (Q : Option Value → xM → Prop) => c83 (Q := Q) (p := p) X C1 (by omega)
        have tp := X.2 p z
        simp (disch := first | decide | omega) only [s71, nI_lt_t, if_true, a, a4, c83p, if_pos z, xpush_s]
        refine c72 X C1 I H (by omega) a fl (by omega) (fun w M2 f2 => ?_) (fun h' q w M2 f2 a2 l2 H2 => ?_)
        · rw [w] at e
          have e : (nI p, h) = R0 := e
          rw [← e] at hQ
          have hQ := hQ M2 (f.tr f2) (fun v => by
            have v : nI p = -4 := v
            rw [nI_ne4 (show p < 2 ^ 31 by omega)] at v
            exact v.elim)
          simp (disch := first | decide | omega) only [s71, xpush_s, i00, if_true]
          exact hQ
        · rw [w] at e
          obtain ⟨I2, b1, b2⟩ := xit_T I (show p + 1 ≤ n by omega) w
          simp (disch := first | decide | omega) only [s71, xpush_s, i12, if_false, nI_add]
          exact ih (k + 1) q h' _ M2 _ (by omega) b2 (f.tr f2) I2 H2 a2 l2 e
      · rw [if_neg z] at e
        rw [← e] at hQ
        have hQ := hQ M1 f (fun _ => H)
        simp (disch := first | decide | omega) only [s71, nI_lt_t, nI_lt_f, if_true, if_false, a, a4, h71_62]
        exact hQ
  simp (disch := first | decide | omega) only [s71]
  refine c21 (fun M1 f1 H1 => ?_)
  simp (disch := first | decide | omega) only [s71, xpush_n]
  refine key 200 0 0 xpl false _ _ (by omega) (by omega) ((pcf.d f1).tr (tcf.a.p.tr pcf.o)) xpl_T (H1.mono (fun a u v => by rw [xup_other (by omega), xup_other (by omega)])) (by rw [xup_r (by decide), xup_rs]) (by rw [xup_rs]; rfl) rfl
end C56
