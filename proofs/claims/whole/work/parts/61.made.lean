/-! a run of the machine that makes is a run of the real one -/
def zPre (D : va_G) (ad : Nat → Nat) (cA : Nat → ClassId) (G : zG) (sz : Nat) : State → Prop := fun U =>
  U.heap.size = sz ∧ va_P D xCl (zws ad cA G 0) U.heap ∧ va_K D xCl (xtys cA) U ∧ va_D (fun _ => True) (zws ad cA G 0) ∧ zN U
def zPost (D : va_G) (cA : Nat → ClassId) (G : zG) (A : Nat → Prop) (ad : Nat → Nat) : State → Prop := fun t =>
  va_P D xCl (zws ad cA G 0) t.heap ∧ va_K D xCl (xtys cA) t ∧ va_D A (zws ad cA G 0)
def zRm (d mc ms : Nat) : Room := { frames := d + 1, cells := mc, slots := ms, locals := 20 * (d + 1) }
theorem zpre_blind {D : va_G} {ad : Nat → Nat} {cA : Nat → ClassId} {G : zG} {sz : Nat} {as : List Value} : FrameBlind (va_Pc as (zPre D ad cA G sz)) := by
  intro a U g mk q
  obtain ⟨q0, q1, qP, qK, qD, qN⟩ := q
  exact ⟨q0, q1, qP, va_K.moved (u := U) (U := U.calling g mk a) (Vm.Alike.refl U.vm) qK, qD, qN.same (U := U.calling g mk a) rfl⟩
theorem zmk_spec {mid : Nat} (h : zMk.any (fun z => Nat.beq z.1 mid) = true) : Jvm.Cond.code (xY mid) (xB mid) (xL mid) (xRt mid) ∈ xT ∧ Jvm.Cond.instanceMethod (xY mid) ∈ xT ∧ Jvm.Cond.initialized (xY mid).cls ∈ xT ∧ plainName (xY mid).cls = true ∧ (xY mid).name = "<init>" ∧ (parseMethodDescriptor (xY mid).desc).map (fun d => d.parameters.length) = some 0 ∧
    (xY mid).cls ≠ "java/lang/invoke/MethodHandle" ∧ (xY mid).cls ≠ "java/lang/invoke/VarHandle" ∧ xRt mid = none := by
  obtain ⟨z, h1, h2⟩ := List.any_eq_true.mp h
  obtain rfl := xbeq h2
  have h3 := List.all_eq_true.mp zMk_ok z h1
  simp only [zMkOk, Bool.and_eq_true, decide_eq_true_eq] at h3
  obtain ⟨⟨⟨⟨⟨⟨⟨⟨⟨⟨k1, k2⟩, k3⟩, k4⟩, k5⟩, k6⟩, k7⟩, k8⟩, k9⟩, k10⟩, -⟩ := h3
  exact ⟨xis_T k1, xis_T k2, xis_T k3, k4, k5, k6, k7, k8, k10⟩
theorem zCalls_1 : zCalls.all (fun q => Nat.beq q.2.2.1 0 || Nat.beq (xL q.2.2.1) 1) = true := by decide +kernel
theorem zcall_spec {mid pc mid' x : Nat} {st s : List Value} (h : zcall mid pc st = some (mid', x, s)) : ∃ ix t, xget (xCode mid) pc = some (.invokespecial ix, t) ∧ st = .ref x :: s ∧ s.length ≤ 4 ∧ ((mid' = 0 ∧ Jvm.Cond.methodLink (xO mid) ix objectInit ∈ xT) ∨
    (mid' ≠ 0 ∧ mid' < 204 ∧ (xO mid, ix, xY mid') ∈ zNK ∧ zMk.any (fun z => Nat.beq z.1 mid') = true ∧ xL mid' = 1)) := by
  unfold zcall at h
  split at h
  · rename_i ix t he
    split at h
    · rename_i q x0 s0 hq
      obtain ⟨q1, q2⟩ := zfind_mem hq
      simp only [Bool.and_eq_true] at q2
      have e1 := xbeq q2.1
      have e2 := xbeq q2.2
      cases hb : Nat.ble s0.length 4 with
      | false => rw [hb] at h; cases h
      | true =>
        rw [hb] at h
        cases h
        refine ⟨ix, t, he, rfl, Nat.le_of_ble_eq_true hb, ?_⟩
        have e3 := List.all_eq_true.mp zCalls_ok q q1
        have e4 := List.all_eq_true.mp zCalls_1 q q1
        simp only [zCallOk] at e3
        cases hz : Nat.beq q.2.2.1 0 with
        | true =>
          rw [hz] at e3
          simp only [cond_true, e1, e2] at e3
          exact Or.inl ⟨xbeq hz, xis_T e3⟩
        | false =>
          rw [hz] at e3 e4
          simp only [cond_false, Bool.and_eq_true, Bool.false_or, e1, e2] at e3 e4
          obtain ⟨⟨g1, g2⟩, g3⟩ := e3
          obtain ⟨z, z1, z2⟩ := List.any_eq_true.mp g2
          have z3 := of_decide_eq_true z2
          subst z3
          exact Or.inr ⟨fun w => (by rw [w] at hz; exact absurd hz (by decide)), xblt g1, z1, g3, xbeq e4⟩
    · cases h
  · cases h
def zIH (n : Nat) : Prop := ∀ (d mid r pc : Nat) (G : zG) (st : List Value), mid < 204 → zok G.length G → zoks G.length st → r < G.length → ∀ (l : Launch) (ad : Nat → Nat) (cA : Nat → ClassId) (D : va_G) (A : Nat → Prop) (p : Program) (e : Env) (R : Room) (s : State) (m : MethodId) (args : Array Value) (below : List Frame) (meth : Method) (c : Code) (H : Heap) (locs : List Loc) (nL g0 z0 : Nat) (ls : Array Slot) (Q : State → Prop),
  zCtx p R s m args meth c mid nL d D cA → va_P D xCl (zws ad cA G 0) H → va_D A (zws ad cA G 0) → va_S A s.heap H locs → (∀ q, s.heap.size ≤ q → A q) → ls.size = nL → ls[0]? = some (.val (.ref (ad r))) → g0 ≤ G.length → z0 ≤ zsz G → (zrun n d mid r pc G st).2.1.length - g0 ≤ R.cells → zsz (zrun n d mid r pc G st).2.1 - z0 ≤ R.slots →
  (∀ (ad' : Nat → Nat) (H1 : Heap) (locs1 : List Loc), (∀ i, i < G.length → ad' i = ad i) → zok (zrun n d mid r pc G st).2.1.length (zrun n d mid r pc G st).2.1 → zoks (zrun n d mid r pc G st).2.1.length (zrun n d mid r pc G st).2.2 → va_P D xCl (zws ad' cA (zrun n d mid r pc G st).2.1 0) H1 → va_D A (zws ad' cA (zrun n d mid r pc G st).2.1 0) → va_S A s.heap H1 locs1 → W p l e R s m args below meth c H1 locs1 ((zrun n d mid r pc G st).2.1.length - g0) (zsz (zrun n d mid r pc G st).2.1 - z0) Q (F0 m (zrun n d mid r pc G st).1 ls ((zrun n d mid r pc G st).2.2.map (xv ad')))) →
  W p l e R s m args below meth c H locs (G.length - g0) (zsz G - z0) Q (F0 m pc ls (st.map (xv ad)))
theorem zmet {n : Nat} (ih : zIH n) {d mid r pc1 : Nat} {G G1 : zG} (h : zrun n d mid r 0 G [] = (pc1, G1, [])) (hret : zret mid pc1 = true) (hk : zMk.any (fun z => Nat.beq z.1 mid) = true) (hm : mid < 204) (h1L : xL mid = 1) (hok : zok G.length G) (hr : r < G.length) (l : Launch) (ad : Nat → Nat) (cA : Nat → ClassId) (D : va_G) (sz : Nat) :
    Met l (xY mid) (xWs mid) (zRm d (G1.length - G.length) (zsz G1 - zsz G)) (va_Pc [.ref (ad r)] (zPre D ad cA G sz)) (va_Qv (fun ad' : Nat → Nat => (∀ i, i < G.length → ad' i = ad i) ∧ zok G1.length G1) (zPost D cA G1 (va_A (zws ad cA G 0) sz)) (va_A (zws ad cA G 0) sz)) (G1.length - G.length) (zsz G1 - zsz G) (va_A (zws ad cA G 0) sz) := by
  obtain ⟨h1, h2, h3, h4, h5, h6, h7, h8, h9⟩ := zmk_spec hk
  refine Met.ofW (cc := xB mid) (maxL := xL mid) (ret := xRt mid) h4 rfl ?_
  intro p e s m args below meth c s₁ B hml hv
  obtain ⟨rfl, rfl, hP, hK, hD0, hN⟩ := hv
  have hts0 := atoms_spec (ws := xWs mid) B.pre
  have hown : s.vm.findClass (xY mid).cls = some m.cls := findClass_of_methodNamed B.named
  have hin : meth.name = "<init>" := (name_of_methodNamed B.named B.method).1.trans h5
  have hr0 := B.returns
  rw [h9] at hr0
  have hl := lv_entry ([.ref (ad r)]) (n := xL mid) (by rw [h1L]; exact Nat.le_refl 1)
  rw [lg_entry_eq]
  generalize (lg_sl ([.ref (ad r)]) ++ List.replicate (xL mid - (lg_sl ([.ref (ad r)])).length) Slot.unset).toArray = ls at hl ⊢
  have hl0 : ls[0]? = some (.val (.ref (ad r))) := hl.2.2 _ List.mem_cons_self
  have key := ih d mid r 0 G [] hm hok (fun v w => by cases w) hr l ad cA D (va_A (zws ad cA G 0) s.heap.size) p e (zRm d (G1.length - G.length) (zsz G1 - zsz G)) s m #[.ref (ad r)] below meth c s.heap [] (xL mid) G.length (zsz G) ls
    (MQ below (va_Qv (fun ad' : Nat → Nat => (∀ i, i < G.length → ad' i = ad i) ∧ zok G1.length G1) (zPost D cA G1 (va_A (zws ad cA G 0) s.heap.size)) (va_A (zws ad cA G 0) s.heap.size)) #[.ref (ad r)] s (G1.length - G.length) (zsz G1 - zsz G) (va_A (zws ad cA G 0) s.heap.size))
    ⟨B.exec, B.bytes, hml, hown, fun w hw => hts0 w (List.mem_cons_of_mem _ hw), hin, Nat.le_refl _, Nat.le_refl _, hK, hN⟩ hP hD0.self va_S.rf (fun q hq => Or.inr hq) hl.1 hl0 (Nat.le_refl _) (Nat.le_refl _)
  rw [h, Nat.sub_self, Nat.sub_self] at key
  refine key (Nat.le_refl _) (Nat.le_refl _) (fun ad' H1 locs1 ha hok1 _ hP1 hD1 hS1 => ?_)
  unfold zret at hret
  split at hret
  · rename_i t he
    obtain ⟨len, a, b, cc, k⟩ := t
    have hlk := xlk_of hm he
    simp only [xlk, Bool.and_eq_true, decide_eq_true_eq, Bool.or_eq_true] at hlk
    obtain ⟨⟨hdg, hlen⟩, -⟩ := hlk
    obtain rfl := xbeq (hlen.resolve_left (by simp [xsw]))
    have hlocks := B.notSynchronized
    exact W.vret B.exec B.bytes hr0 (fun t ht hW => ⟨⟨ad', rfl, ⟨ha, hok1⟩, by rw [ht]; exact hP1, va_K.moved hW.alike hK, hD1⟩, hS1.F ht⟩) (fun q hq => hS1.2.2 q hq) hdg hlocks
  · cases hret
set_option maxHeartbeats 4000000 in
theorem zsound : ∀ n, zIH n := by
  intro n
  induction n with
  | zero =>
    intro d mid r pc G st hm hok hst hr l ad cA D A p e R s m args below meth c H locs nL g0 z0 ls Q C hP hD hS hA hsz hl hg hz hc hs kk
    exact kk ad H locs (fun _ _ => rfl) hok hst hP hD hS
  | succ n ih =>
    intro d mid r pc G st hm hok hst hr l ad cA D A p e R s m args below meth c H locs nL g0 z0 ls Q C hP hD hS hA hsz hl hg hz hc hs kk
    have C0 := C
    obtain ⟨hx, hb, hml, hown, hts, hin, hfr, hlo, hK, hnw⟩ := C0
    cases h1 : zstep mid r pc G st with
    | some q =>
      obtain ⟨pc', G', st'⟩ := q
      have e0 : zrun (n + 1) d mid r pc G st = zrun n d mid r pc' G' st' := by simp only [zrun, h1]
      rw [e0] at hc hs kk
      have hm1 := zstep_mono h1
      have hm2 := zrun_mono n d mid r pc' G' st'
      refine znext C hm h1 hok hst hr hg hz (by omega) (by omega) hP hD hS hA hl (fun ad' H1 locs1 ha hok1 hst1 hP1 hD1 hS1 => ?_)
      exact ih d mid r pc' G' st' hm hok1 hst1 (by omega) l ad' cA D A p e R s m args below meth c H1 locs1 nL g0 z0 ls Q C hP1 hD1 hS1 hA hsz (by rw [ha r hr]; exact hl) (by omega) (by omega) hc hs (fun ad2 H2 locs2 ha2 => kk ad2 H2 locs2 (fun i hi => (ha2 i (by omega)).trans (ha i hi)))
    | none =>
      cases h2 : zcall mid pc st with
      | none =>
        have e0 : zrun (n + 1) d mid r pc G st = (pc, G, st) := by simp only [zrun, h1, h2]
        rw [e0] at kk
        exact kk ad H locs (fun _ _ => rfl) hok hst hP hD hS
      | some q =>
        obtain ⟨mid', x, w⟩ := q
        obtain ⟨ix, t, he, rfl, hw4, hcase⟩ := zcall_spec h2
        obtain ⟨len, a, b, cc, k⟩ := t
        have hlk := xlk_of hm he
        simp only [xlk, Bool.and_eq_true, decide_eq_true_eq, Bool.or_eq_true] at hlk
        obtain ⟨⟨hdg, hlen⟩, -⟩ := hlk
        obtain rfl := xbeq (hlen.resolve_left (by simp [xsw]))
        have hcat := xcat_sum ad w
        have hxl : x < G.length := xblt (hst (.ref x) List.mem_cons_self)
        have hstw : zoks G.length w := fun v q => hst v (List.mem_cons_of_mem _ q)
        rcases hcase with ⟨rfl, hlk⟩ | ⟨hne, hm', hnk, hmk, h1L⟩
        · have e0 : zrun (n + 1) d mid r pc G (.ref x :: w) = zrun n d mid r (pc + 3) G w := by simp only [zrun, h1, h2]
          rw [e0] at hc hs kk
          refine W.objInit hx hb hown (hts _ hlk) (hts _ (xis_T zoi.1)) (hts _ (xis_T zoi.2.1)) rfl (by rw [hml]; exact hsz) rfl hdg (by omega) (by
            show 2 * 0 + _ + 12 ≤ R.locals
            omega) ?_
          refine W.eq (g2 := F0 m (pc + 3) ls (w.map (xv ad))) rfl ?_
          exact ih d mid r (pc + 3) G w hm hok hstw hr l ad cA D A p e R s m args below meth c H locs nL g0 z0 ls Q C hP hD hS hA hsz hl hg hz hc hs kk
        · cases mid' with
          | zero => exact absurd rfl hne
          | succ m' =>
            cases d with
            | zero =>
              have e0 : zrun (n + 1) 0 mid r pc G (.ref x :: w) = (pc, G, .ref x :: w) := by simp only [zrun, h1, h2]
              rw [e0] at kk
              exact kk ad H locs (fun _ _ => rfl) hok hst hP hD hS
            | succ d' =>
              cases h3 : zrun n d' (m' + 1) x 0 G [] with
              | mk pc1 w1 =>
                obtain ⟨G1, st1⟩ := w1
                have hm1 := zrun_mono n d' (m' + 1) x 0 G []
                rw [h3] at hm1
                simp only at hm1
                cases hb1 : (zret (m' + 1) pc1 && st1.isEmpty) with
                | false =>
                  have e0 : zrun (n + 1) (d' + 1) mid r pc G (.ref x :: w) = (pc, G, .ref x :: w) := by simp only [zrun, h1, h2, h3, hb1, cond_false]
                  rw [e0] at kk
                  exact kk ad H locs (fun _ _ => rfl) hok hst hP hD hS
                | true =>
                  have e0 : zrun (n + 1) (d' + 1) mid r pc G (.ref x :: w) = zrun n (d' + 1) mid r (pc + 3) G1 w := by simp only [zrun, h1, h2, h3, hb1, cond_true]
                  rw [e0] at hc hs kk
                  have hm2 := zrun_mono n (d' + 1) mid r (pc + 3) G1 w
                  simp only [Bool.and_eq_true] at hb1
                  obtain ⟨hret, hemp⟩ := hb1
                  obtain rfl : st1 = [] := List.isEmpty_iff.mp hemp
                  have hM := zmet ih h3 hret hmk hm' h1L hok hxl l ad cA D H.size
                  obtain ⟨k1, k2, k3, k4, k5, k6, k7, k8, k9⟩ := zmk_spec hmk
                  have hAf := xA_free hD hS hA
                  have hk : ∀ v ∈ xWs (m' + 1), v ∈ xT := xgoodws k1
                  have cw : va_CN R s args (xO mid) ix (xY (m' + 1)) "PushSaidDoor" (xB (m' + 1)) (xL (m' + 1)) none (xWs (m' + 1)) (zRm d' (G1.length - G.length) (zsz G1 - zsz G)) (G1.length - G.length) (zsz G1 - zsz G) 0 := va_cnB (ws' := xT) 0 hts (xT_goodIn hk) (by unfold xWs; rw [k9]) rfl rfl (hnw _ hnk) (hts _ k3) ⟨k7, k8, k6⟩ ⟨hfr, by
                    show 8 + (xL (m' + 1) + 11) + 20 * (d' + 1) ≤ R.locals
                    omega⟩
                  have hp : PreS s H (va_Pc [.ref (ad x)] (zPre D ad cA G H.size)) (.ref (ad x) :: []) := ⟨zpre_blind, fun U hU hW => ⟨rfl, by rw [hU], by rw [hU]; exact hP, va_K.moved hW.alike hK, hD.weaken (fun _ _ _ _ => trivial), hnw.warm hW⟩⟩
                  have hrun := va_runIN (e := e) (below := below) (meth := meth) (locs := locs) (cells := G.length - g0) (slots := zsz G - z0) (As := []) (rest := w.map (xv ad)) ⟨hx, hb, hml, hown, hts⟩ hM ⟨cw, k5, hts _ k2⟩ hp (g := F0 m pc ls ((Value.ref x :: w).map (xv ad))) rfl rfl hsz rfl (lv_room (by omega)) hdg ⟨by omega, by omega⟩
                  refine va_callv hrun hS (fun q _ z => hAf q z) hAf (fun u t H1 locs1 ht hvm hw hB hz1 hk1 hS1 => ?_)
                  subst ht
                  obtain ⟨ha, hok1⟩ := hw
                  obtain ⟨hP1, -, hD1⟩ := hB
                  rw [← zmap ha hstw, show G.length - g0 + (G1.length - G.length) = G1.length - g0 by omega, show zsz G - z0 + (zsz G1 - zsz G) = zsz G1 - z0 by omega]
                  exact ih (d' + 1) mid r (pc + 3) G1 w hm hok1 (hstw.mono hm1.1) (by omega) l u cA D A p e R s m args below meth c t.heap locs1 nL g0 z0 ls Q C hP1 (hD1.weaken (fun k q _ z => hAf q.1 z)) hS1 hA hsz (by rw [ha r hr]; exact hl) (by omega) (by omega) hc hs (fun ad2 H2 locs2 ha2 => kk ad2 H2 locs2 (fun i hi => (ha2 i (by omega)).trans (ha i hi)))
