/-! a run of the small machine is a run of the real one -/
def xPre (D : va_G) (ad : Nat → Nat) (cA : Nat → ClassId) (S : xSh) (M : xM) (sz : Nat) : State → Prop := fun U =>
  U.heap.size = sz ∧ va_P D xCl (xws ad cA M S 0) U.heap ∧ va_K D xCl (xtys cA) U ∧ va_D (fun _ => True) (xws ad cA M S 0) ∧ va_Nw xNw U
def xPost (D : va_G) (ad : Nat → Nat) (cA : Nat → ClassId) (S : xSh) (M : xM) (A : Nat → Prop) : State → Prop := fun t =>
  va_P D xCl (xws ad cA M S 0) t.heap ∧ va_K D xCl (xtys cA) t ∧ va_D A (xws ad cA M S 0)
def xWs (mid : Nat) : List Jvm.Cond := Jvm.Cond.code (xY mid) (xB mid) (xL mid) (xRt mid) :: xT
def xRm (mid : Nat) : Room := { frames := xF mid, cells := 0, slots := 0, locals := 40 * xF mid }
def xQc (v : Option Value) (B : State → Prop) (A : Nat → Prop) : Array Value → State → Outcome → State → Prop := match v with
  | some (.int r) => va_Qi (S := Unit) (fun r' _ => r' = r) (fun _ t => B t) A
  | _ => va_Qv (S := Unit) (fun _ => True) (fun _ t => B t) A
theorem xpre_blind {D : va_G} {ad : Nat → Nat} {cA : Nat → ClassId} {S : xSh} {M : xM} {sz : Nat} {as : List Value} : FrameBlind (va_Pc as (xPre D ad cA S M sz)) := by
  intro a U g mk q
  obtain ⟨q0, q1, qP, qK, qD, qN⟩ := q
  exact ⟨q0, q1, qP, va_K.moved (u := U) (U := U.calling g mk a) (Vm.Alike.refl U.vm) qK, qD, va_Nw.same (u := U) (U := U.calling g mk a) rfl rfl qN⟩
theorem xmk_of {mid : Nat} (hm : mid < 204) (hi : xmini mid = false) : xmk mid = true := by
  have h1 := xchk_all mid hm
  simp only [xchk, Bool.and_eq_true, hi, Bool.false_or] at h1
  exact h1.2
/-- what the tables say of a method that is called -/
theorem xmk_spec {mid : Nat} (h : xmk mid = true) : Jvm.Cond.code (xY mid) (xB mid) (xL mid) (xRt mid) ∈ xT ∧ Jvm.Cond.initialized (xY mid).cls ∈ xT ∧ plainName (xY mid).cls = true ∧ (parseMethodDescriptor (xY mid).desc).map (fun d => d.parameters.length) = some (xN mid) ∧
    (xY mid).cls ≠ "java/lang/invoke/MethodHandle" ∧ (xY mid).cls ≠ "java/lang/invoke/VarHandle" ∧ xL mid ≤ 21 ∧ (xSt mid = true → Jvm.Cond.static (xY mid) ∈ xT) ∧
    (xSt mid = false → Jvm.Cond.instanceMethod (xY mid) ∈ xT ∧ Jvm.Cond.selects (xY mid).cls (xY mid) (xY mid) ∈ xT ∧ (xCl[xI mid]?).map (fun q => q.1) = some (xY mid).cls) := by
  simp only [xmk] at h
  simp only [Bool.and_eq_true, decide_eq_true_eq, xO] at h
  obtain ⟨⟨⟨⟨⟨⟨⟨h1, h2⟩, h3⟩, h4⟩, h5⟩, h6⟩, h7⟩, h8⟩ := h
  refine ⟨xis_T h1, xis_T h2, h3, h4, of_decide_eq_true h5, of_decide_eq_true h6, Nat.le_of_ble_eq_true h7, fun e => ?_, fun e => ?_⟩
  · rw [e] at h8
    exact xis_T h8
  · rw [e] at h8
    simp only [cond_false, Bool.and_eq_true, decide_eq_true_eq] at h8
    exact ⟨xis_T h8.1.1, xis_T h8.1.2, of_decide_eq_true h8.2⟩
/-- what a run from a method's first instruction says, as its contract -/
def xIH (n : Nat) : Prop := ∀ (S : xSh) (mid pc : Nat) (L st : List Value) (M : xM) (v : Option Value) (M' : xM), xrun S n mid pc L st M = some (v, M') → mid < 204 → ∀ (l : Launch) (ad : Nat → Nat) (cA : Nat → ClassId) (D : va_G) (A : Nat → Prop) (p : Program) (e : Env) (R : Room) (s : State) (m : MethodId) (args : Array Value) (below : List Frame) (meth : Method) (c : Code) (H : Heap) (locs : List Loc) (cells slots : Nat) (ls : Array Slot) (Qc : Array Value → State → Outcome → State → Prop) (free : Addr → Prop),
  xCtx p R s m args meth c mid D cA → va_P D xCl (xws ad cA M S 0) H → va_D A (xws ad cA M S 0) → va_S A s.heap H locs → cells ≤ R.cells → slots ≤ R.slots → xLH ad ls (xL mid) L → (∀ q, s.heap.size ≤ q → A q) → (∀ q, A q → free q) →
  (∀ (t : State) (locs1 : List Loc), s.WarmedH t.vm → va_P D xCl (xws ad cA M' S 0) t.heap → va_D A (xws ad cA M' S 0) → va_S A s.heap t.heap locs1 → Qc args s (.returned (v.map (xv ad))) t) →
  W p l e R s m args below meth c H locs cells slots (MQ below Qc args s cells slots free) (F0 m pc ls (st.map (xv ad)))
theorem xdo_kind {S : xSh} {mid : Nat} {i : Instr} {a b : Nat} {k : Int} {pc : Nat} {L st : List Value} {M : xM} {z : xR} (h : xdo S mid i a b k pc L st M = some z) : (∃ t, z = .inl t) ∨ (∃ ix, i = .invokestatic ix ∧ Nat.beq a 1000 = false ∧ Nat.beq a 1001 = false ∧ Nat.beq a 1002 = false ∧ xcallS a st = some z) ∨ (∃ ix, i = .invokevirtual ix ∧ xcallV S a st = some z) ∨ (i = .ireturn ∧ xret mid st = some z) ∨ (i = .return_ ∧ xretv mid st = some z) := by
  cases i with
  | iadd =>
    obtain ⟨_, _, _, _, hz⟩ := xb2_inv h
    exact Or.inl ⟨_, hz⟩
  | isub =>
    obtain ⟨_, _, _, _, hz⟩ := xb2_inv h
    exact Or.inl ⟨_, hz⟩
  | imul =>
    obtain ⟨_, _, _, _, hz⟩ := xb2_inv h
    exact Or.inl ⟨_, hz⟩
  | iand =>
    obtain ⟨_, _, _, _, hz⟩ := xb2_inv h
    exact Or.inl ⟨_, hz⟩
  | ior =>
    obtain ⟨_, _, _, _, hz⟩ := xb2_inv h
    exact Or.inl ⟨_, hz⟩
  | ixor =>
    obtain ⟨_, _, _, _, hz⟩ := xb2_inv h
    exact Or.inl ⟨_, hz⟩
  | ishl =>
    obtain ⟨_, _, _, _, hz⟩ := xb2_inv h
    exact Or.inl ⟨_, hz⟩
  | ishr =>
    obtain ⟨_, _, _, _, hz⟩ := xb2_inv h
    exact Or.inl ⟨_, hz⟩
  | ladd =>
    obtain ⟨_, _, _, _, hz⟩ := xl2_inv h
    exact Or.inl ⟨_, hz⟩
  | lsub =>
    obtain ⟨_, _, _, _, hz⟩ := xl2_inv h
    exact Or.inl ⟨_, hz⟩
  | lmul =>
    obtain ⟨_, _, _, _, hz⟩ := xl2_inv h
    exact Or.inl ⟨_, hz⟩
  | idiv =>
    obtain ⟨_, _, _, _, _, hz⟩ := xd2_inv h
    exact Or.inl ⟨_, hz⟩
  | irem =>
    obtain ⟨_, _, _, _, _, hz⟩ := xd2_inv h
    exact Or.inl ⟨_, hz⟩
  | ldiv =>
    obtain ⟨_, _, _, _, _, hz⟩ := xdl2_inv h
    exact Or.inl ⟨_, hz⟩
  | lrem =>
    obtain ⟨_, _, _, _, _, hz⟩ := xdl2_inv h
    exact Or.inl ⟨_, hz⟩
  | iload_n n =>
    obtain ⟨_, _, hz⟩ := xld_inv h
    exact Or.inl ⟨_, hz⟩
  | iload n =>
    obtain ⟨_, _, hz⟩ := xld_inv h
    exact Or.inl ⟨_, hz⟩
  | lload_n n =>
    obtain ⟨_, _, hz⟩ := xldl_inv h
    exact Or.inl ⟨_, hz⟩
  | lload n =>
    obtain ⟨_, _, hz⟩ := xldl_inv h
    exact Or.inl ⟨_, hz⟩
  | aload_n n =>
    obtain ⟨_, _, hz⟩ := xlda_inv h
    exact Or.inl ⟨_, hz⟩
  | aload n =>
    obtain ⟨_, _, hz⟩ := xlda_inv h
    exact Or.inl ⟨_, hz⟩
  | istore_n n =>
    obtain ⟨_, _, _, _, hz⟩ := xsti_inv h
    exact Or.inl ⟨_, hz⟩
  | istore n =>
    obtain ⟨_, _, _, _, hz⟩ := xsti_inv h
    exact Or.inl ⟨_, hz⟩
  | lstore_n n =>
    obtain ⟨_, _, _, _, hz⟩ := xstl_inv h
    exact Or.inl ⟨_, hz⟩
  | lstore n =>
    obtain ⟨_, _, _, _, hz⟩ := xstl_inv h
    exact Or.inl ⟨_, hz⟩
  | astore_n n =>
    obtain ⟨_, _, _, _, hz⟩ := xsta_inv h
    exact Or.inl ⟨_, hz⟩
  | astore n =>
    obtain ⟨_, _, _, _, hz⟩ := xsta_inv h
    exact Or.inl ⟨_, hz⟩
  | iconst n =>
    have hz := xgo_inv h
    exact Or.inl ⟨_, hz⟩
  | bipush n =>
    have hz := xgo_inv h
    exact Or.inl ⟨_, hz⟩
  | sipush n =>
    have hz := xgo_inv h
    exact Or.inl ⟨_, hz⟩
  | ldc2_w n =>
    have hz := xgo_inv h
    exact Or.inl ⟨_, hz⟩
  | lconst n =>
    have hz := xgo_inv h
    exact Or.inl ⟨_, hz⟩
  | goto off =>
    have hz := xgo_inv h
    exact Or.inl ⟨_, hz⟩
  | getfield ix =>
    obtain ⟨_, _, _, _, _, _, _, hz⟩ := xgetf_inv h
    exact Or.inl ⟨_, hz⟩
  | putfield ix =>
    obtain ⟨_, _, _, _, _, _, _, _, _, hz⟩ := xputf_inv h
    exact Or.inl ⟨_, hz⟩
  | iaload =>
    obtain ⟨_, _, _, _, _, _, _, _, hz⟩ := xald_inv h
    exact Or.inl ⟨_, hz⟩
  | caload =>
    obtain ⟨_, _, _, _, _, _, _, _, hz⟩ := xald_inv h
    exact Or.inl ⟨_, hz⟩
  | iastore =>
    obtain ⟨_, _, _, _, _, _, _, _, _, hz⟩ := xast_inv h
    exact Or.inl ⟨_, hz⟩
  | castore =>
    obtain ⟨_, _, _, _, _, _, _, _, _, hz⟩ := xast_inv h
    exact Or.inl ⟨_, hz⟩
  | arraylength =>
    obtain ⟨_, _, _, _, _, _, _, _, hz⟩ := xalen_inv h
    exact Or.inl ⟨_, hz⟩
  | ldc ix =>
    simp only [xdo] at h
    (repeat' split at h) <;> first | (cases h; done) | exact Or.inl ⟨_, xgo_inv h⟩
  | iinc n d =>
    simp only [xdo] at h
    (repeat' split at h) <;> first | (cases h; done) | exact Or.inl ⟨_, xgo_inv h⟩
  | ineg =>
    simp only [xdo] at h
    (repeat' split at h) <;> first | (cases h; done) | exact Or.inl ⟨_, xgo_inv h⟩
  | lcmp =>
    simp only [xdo] at h
    (repeat' split at h) <;> first | (cases h; done) | exact Or.inl ⟨_, xgo_inv h⟩
  | i2l =>
    simp only [xdo] at h
    (repeat' split at h) <;> first | (cases h; done) | exact Or.inl ⟨_, xgo_inv h⟩
  | l2i =>
    simp only [xdo] at h
    (repeat' split at h) <;> first | (cases h; done) | exact Or.inl ⟨_, xgo_inv h⟩
  | i2c =>
    simp only [xdo] at h
    (repeat' split at h) <;> first | (cases h; done) | exact Or.inl ⟨_, xgo_inv h⟩
  | dup =>
    simp only [xdo] at h
    (repeat' split at h) <;> first | (cases h; done) | exact Or.inl ⟨_, xgo_inv h⟩
  | dup2 =>
    simp only [xdo] at h
    (repeat' split at h) <;> first | (cases h; done) | exact Or.inl ⟨_, xgo_inv h⟩
  | pop =>
    simp only [xdo] at h
    (repeat' split at h) <;> first | (cases h; done) | exact Or.inl ⟨_, xgo_inv h⟩
  | tableswitch d lo hi offs =>
    simp only [xdo] at h
    (repeat' split at h) <;> first | (cases h; done) | exact Or.inl ⟨_, xgo_inv h⟩
  | lookupswitch d ps =>
    simp only [xdo] at h
    (repeat' split at h) <;> first | (cases h; done) | exact Or.inl ⟨_, xgo_inv h⟩
  | ifCond cd off =>
    obtain ⟨x, r, -, ht, hf⟩ := xif1_inv h
    cases hb : xcond cd x 0 with
    | true => exact Or.inl ⟨_, ht hb⟩
    | false => exact Or.inl ⟨_, hf hb⟩
  | if_icmp cd off =>
    obtain ⟨x, y, r, -, ht, hf⟩ := xif2_inv h
    cases hb : xcond cd x y with
    | true => exact Or.inl ⟨_, ht hb⟩
    | false => exact Or.inl ⟨_, hf hb⟩
  | invokestatic ix =>
    simp only [xdo] at h
    cases hb0 : Nat.beq a 1000 with
    | true =>
      rw [hb0] at h
      obtain ⟨_, _, _, _, _, hz⟩ := xmath_inv h
      exact Or.inl ⟨_, hz⟩
    | false =>
      cases hb1 : Nat.beq a 1001 with
      | true =>
        rw [hb0, hb1] at h
        obtain ⟨_, _, _, _, _, hz⟩ := xmath_inv h
        exact Or.inl ⟨_, hz⟩
      | false =>
        cases hb2 : Nat.beq a 1002 with
        | true =>
          rw [hb0, hb1, hb2] at h
          obtain ⟨_, _, _, _, _, _, _, _, _, _, _, _, _, _, _, _, _, _, _, hz⟩ := xcopy_inv h
          exact Or.inl ⟨_, hz⟩
        | false =>
          rw [hb0, hb1, hb2] at h
          exact Or.inr (Or.inl ⟨ix, rfl, rfl, rfl, rfl, h⟩)
  | invokevirtual ix => exact Or.inr (Or.inr (Or.inl ⟨ix, rfl, h⟩))
  | ireturn => exact Or.inr (Or.inr (Or.inr (Or.inl ⟨rfl, h⟩)))
  | return_ => exact Or.inr (Or.inr (Or.inr (Or.inr ⟨rfl, h⟩)))
  | _ => cases h
theorem xres : ∀ (n : Nat) (S : xSh) (mid pc : Nat) (L st : List Value) (M : xM) (v : Option Value) (M' : xM), xrun S n mid pc L st M = some (v, M') → v = none ∨ ∃ r, v = some (.int r)
  | 0, S, mid, pc, L, st, M, v, M', h => by cases h
  | n + 1, S, mid, pc, L, st, M, v, M', h => by
    simp only [xrun] at h
    split at h
    · cases h
    · exact xres n _ _ _ _ _ _ _ _ h
    · split at h
      · cases h
      · exact xres n _ _ _ _ _ _ _ _ h
    · rename_i w hw
      cases h
      simp only [xstep] at hw
      split at hw
      · rename_i i len a b cc k he
        rcases xdo_kind hw with ⟨t, ht⟩ | ⟨ix, -, -, -, -, hz⟩ | ⟨ix, -, hz⟩ | ⟨-, hz⟩ | ⟨-, hz⟩
        · cases ht
        · obtain ⟨-, -, -, -, hz⟩ := xcallS_inv hz
          cases hz
        · obtain ⟨_, _, _, -, -, -, -, -, -, hz⟩ := xcallV_inv hz
          cases hz
        · obtain ⟨x, ty, -, -, -, hz⟩ := xret_inv hz
          cases hz
          exact Or.inr ⟨x, rfl⟩
        · obtain ⟨-, -, hz⟩ := xretv_inv hz
          cases hz
          exact Or.inl rfl
      · cases hw
theorem xmet {n : Nat} (ih : xIH n) {S : xSh} {mid : Nat} {as : List Value} {M : xM} {v : Option Value} {M' : xM} (h : xrun S n mid 0 (xent (xL mid) as) [] M = some (v, M')) (hm : mid < 204) (hi : xmini mid = false) (hz : xsz as ≤ xL mid) (l : Launch) (ad : Nat → Nat) (cA : Nat → ClassId) (D : va_G) (sz : Nat) :
    Met l (xY mid) (xWs mid) (xRm mid) (va_Pc (as.map (xv ad)) (xPre D ad cA S M sz)) (xQc v (xPost D ad cA S M' (va_A (xws ad cA M S 0) sz)) (va_A (xws ad cA M S 0) sz)) 0 0 (va_A (xws ad cA M S 0) sz) := by
  obtain ⟨h1, h2, h3, h4, h5, h6, h7, h8, h9⟩ := xmk_spec (xmk_of hm hi)
  refine Met.ofW (cc := xB mid) (maxL := xL mid) (ret := xRt mid) h3 rfl ?_
  intro p e s m args below meth c s₁ B hml hv
  obtain ⟨rfl, rfl, hP, hK, hD0, hN⟩ := hv
  have hts0 := atoms_spec (ws := xWs mid) B.pre
  have hown : s.vm.findClass (xY mid).cls = some m.cls := findClass_of_methodNamed B.named
  rw [lg_entry_eq]
  refine ih S mid 0 (xent (xL mid) as) [] M v M' h hm l ad cA D _ p e _ s m _ below meth c s.heap [] 0 0 _ _ _ ⟨B.exec, B.bytes, hml, hown, fun w hw => hts0 w (List.mem_cons_of_mem _ hw), B.returns, B.notSynchronized, Nat.le_refl _, Nat.le_refl _, hK, hN⟩ hP hD0.self va_S.rf (Nat.zero_le _) (Nat.zero_le _) (xentry ad as (xL mid) hz) (fun q hq => Or.inr hq) (fun q hq => hq) (fun t locs1 hW hP1 hD1 hS1 => ?_)
  have hB : xPost D ad cA S M' (va_A (xws ad cA M S 0) s.heap.size) t := ⟨hP1, va_K.moved hW.alike hK, hD1⟩
  rcases xres _ _ _ _ _ _ _ _ _ h with rfl | ⟨r, rfl⟩
  · exact ⟨⟨(), rfl, trivial, hB⟩, hS1.F rfl⟩
  · exact ⟨⟨r, (), rfl, rfl, hB⟩, hS1.F rfl⟩

theorem xgoodws {mid : Nat} (h : Jvm.Cond.code (xY mid) (xB mid) (xL mid) (xRt mid) ∈ xT) : ∀ w ∈ xWs mid, w ∈ xT := fun w hw => (List.mem_cons.mp hw).elim (fun e => e ▸ h) (fun q => q)
theorem xA_free {A : Nat → Prop} {H0 H : Heap} {locs : List Loc} {ws : va_W} (hD : va_D A ws) (hS : va_S A H0 H locs) (hA : ∀ q, H0.size ≤ q → A q) : ∀ q, va_A ws H.size q → A q := by
  intro q h
  rcases h with ⟨k, e, h⟩ | h
  · exact hD.2 k (q, e) h
  · exact hA q (Nat.le_trans hS.1 h)
set_option maxHeartbeats 4000000 in
theorem xsound : ∀ n, xIH n := by
  intro n
  induction n with
  | zero =>
    intro S mid pc L st M v M' h
    cases h
  | succ n ih =>
    intro S mid pc L st M v M' h hm l ad cA D A p e R s m args below meth c H locs cells slots ls Qc free C hP hD hS hc hs hl hA hfree hQ
    have C0 := C
    obtain ⟨hx, hb, hml, hown, hts, hr, hlocks, hfr, hlo, hK, hnw⟩ := C0
    simp only [xrun] at h
    split at h
    · cases h
    · rename_i pc' L' st' M1 hstep
      simp only [xstep] at hstep
      split at hstep
      · rename_i i len a b cc k he
        exact xnext C hm he hstep hP hD hS hc hs hl (fun H1 locs1 ls1 hP1 hD1 hS1 hl1 => ih S mid pc' L' st' M1 v M' h hm l ad cA D A p e R s m args below meth c H1 locs1 cells slots ls1 Qc free C hP1 hD1 hS1 hc hs hl1 hA hfree hQ)
      · cases hstep
    · rename_i mid' as r hstep
      split at h
      · cases h
      · rename_i v1 M1 hcall
        simp only [xstep] at hstep
        split at hstep
        rotate_left
        · cases hstep
        rename_i i len a b cc k he
        have hlk := xlk_of hm he
        simp only [xlk, Bool.and_eq_true, decide_eq_true_eq, Bool.or_eq_true] at hlk
        obtain ⟨⟨hdg, hlen⟩, hlink⟩ := hlk
        have hAf := xA_free hD hS hA
        have hgo : ∀ (t : State) (H1 : Heap) (locs1 : List Loc), t.heap = H1 → s.vm.Alike t.vm → xPost D ad cA S M1 (va_A (xws ad cA M S 0) H.size) t → va_S A s.heap H1 locs1 → W p l e R s m args below meth c H1 locs1 cells slots (MQ below Qc args s cells slots free) (F0 m (pc + 3) ls ((v1.toList ++ r).map (xv ad))) := by
          intro t H1 locs1 ht hvm hB hS1
          subst ht
          obtain ⟨hP1, -, hD1⟩ := hB
          exact ih S mid (pc + 3) L (v1.toList ++ r) M1 v M' h hm l ad cA D A p e R s m args below meth c t.heap locs1 cells slots ls Qc free C hP1 (hD1.weaken (fun k q _ z => hAf q.1 z)) hS1 hc hs hl hA hfree hQ
        rcases xdo_kind hstep with ⟨t, ht⟩ | ⟨ix, rfl, hb0, hb1, hb2, hz⟩ | ⟨ix, rfl, hz⟩ | ⟨-, hz⟩ | ⟨-, hz⟩
        · cases ht
        · obtain ⟨g1, g2, g3, g4, hz⟩ := xcallS_inv hz
          cases hz
          obtain rfl := xbeq (hlen.resolve_left (by simp [xsw]))
          simp only [hb0, hb1, hb2, cond_false, Bool.and_eq_true, Bool.not_eq_true'] at hlink
          obtain ⟨⟨⟨j1, j2⟩, j3⟩, j4⟩ := hlink
          have hma : mid' < 204 := xblt j1
          have hfa := xblt j3
          obtain ⟨k1, k2, k3, k4, k5, k6, k7, k8, k9⟩ := xmk_spec (xmk_of hma j2)
          have hM := xmet ih hcall hma j2 g4 l ad cA D H.size
          have hR : (xRm mid').frames + 1 ≤ R.frames ∧ 8 + (xL mid' + 11) + (xRm mid').locals ≤ R.locals := by
            show xF mid' + 1 ≤ R.frames ∧ 8 + (xL mid' + 11) + 40 * xF mid' ≤ R.locals
            omega
          have hstk : st.map (xv ad) = ((st.take (xN mid')).reverse.map (xv ad)).reverse ++ (st.drop (xN mid')).map (xv ad) := by
            rw [List.map_reverse, List.reverse_reverse, ← List.map_append, List.take_append_drop]
          have hla : ((st.take (xN mid')).reverse.map (xv ad)).length = xN mid' := by simp; omega
          have hcat := xcat_sum ad (st.drop (xN mid'))
          have hp : PreS s H (va_Pc ((st.take (xN mid')).reverse.map (xv ad)) (xPre D ad cA S M H.size)) ((st.take (xN mid')).reverse.map (xv ad)) :=
            ⟨xpre_blind, fun U hU hW => ⟨rfl, by rw [hU], by rw [hU]; exact hP, va_K.moved hW.alike hK, hD.weaken (fun _ _ _ _ => trivial), va_Nw.warmM hW hnw⟩⟩
          cases hbn : Nat.beq b 0 with
          | true =>
            rw [hbn] at j4
            have hT : GoodIn xT (va_wsS (xO mid) ix (xY mid') (xWs mid')) := xT_goodIn (fun w hw => by
              rcases List.mem_append.mp hw with q | q
              · rcases List.mem_cons.mp q with rfl | q
                · exact xis_T j4
                · rcases List.mem_cons.mp q with rfl | q
                  · exact k8 g1
                  · rw [List.mem_singleton.mp q]
                    exact k2
              · exact xgoodws k1 w q)
            have hrun := va_runS (e := e) (below := below) (meth := meth) (locs := locs) (rest := (st.drop (xN mid')).map (xv ad)) ⟨hx, hb, hml, hown, hts⟩ hM (va_cwS (xN mid') hts hT rfl rfl rfl ⟨k5, k6, k4⟩ hR) hp (g := F0 m pc ls (st.map (xv ad))) rfl hla hl.1 hstk (lv_room (by omega)) hdg ⟨hc, hs⟩
            rcases xres _ _ _ _ _ _ _ _ _ hcall with rfl | ⟨r1, rfl⟩
            · exact va_callv (a := ((st.take (xN mid')).reverse.map (xv ad)).toArray) hrun hS (fun q _ z => hAf q z) hAf (fun u t H1 locs1 ht hvm hw hB hz1 hk1 hS1 => hgo t H1 locs1 ht hvm hB hS1)
            · exact va_calli (a := ((st.take (xN mid')).reverse.map (xv ad)).toArray) hrun hS (fun q _ z => hAf q z) hAf (fun r' u t H1 locs1 ht hvm hw hB hz1 hk1 hS1 => by
                cases hw
                exact hgo t H1 locs1 ht hvm hB hS1)
          | false =>
            rw [hbn] at j4
            have hnest : va_Nw (.methodLinkNest (xO mid) ix (xY mid') "PushSaidDoor") s := by
              rw [of_decide_eq_true j4]
              exact hnw
            have hrun := va_runSN (e := e) (below := below) (meth := meth) (locs := locs) (rest := (st.drop (xN mid')).map (xv ad)) ⟨hx, hb, hml, hown, hts⟩ hM ⟨va_cnB (xN mid') hts (xT_goodIn (xgoodws k1)) rfl rfl rfl hnest (hts _ k2) ⟨k5, k6, k4⟩ hR, hts _ (k8 g1), trivial⟩ hp (g := F0 m pc ls (st.map (xv ad))) rfl hla hl.1 hstk (lv_room (by omega)) hdg ⟨hc, hs⟩
            rcases xres _ _ _ _ _ _ _ _ _ hcall with rfl | ⟨r1, rfl⟩
            · exact va_callv (a := ((st.take (xN mid')).reverse.map (xv ad)).toArray) hrun hS (fun q _ z => hAf q z) hAf (fun u t H1 locs1 ht hvm hw hB hz1 hk1 hS1 => hgo t H1 locs1 ht hvm hB hS1)
            · exact va_calli (a := ((st.take (xN mid')).reverse.map (xv ad)).toArray) hrun hS (fun q _ z => hAf q z) hAf (fun r' u t H1 locs1 ht hvm hw hB hz1 hk1 hS1 => by
                cases hw
                exact hgo t H1 locs1 ht hvm hB hS1)
        · obtain ⟨b0, r0, fs, g1, g2, g3, g4, g5, g6, hz⟩ := xcallV_inv hz
          cases hz
          obtain rfl := xbeq (hlen.resolve_left (by simp [xsw]))
          simp only [Bool.and_eq_true, Bool.or_eq_true, Bool.not_eq_true'] at hlink
          have hne : mid' ≠ 2000 := by
            intro q
            subst q
            have e0 : (xget (xCode 2000) 0).isNone = true := by decide +kernel
            cases n with
            | zero => cases hcall
            | succ n =>
              simp only [xrun, xstep] at hcall
              cases e1 : xget (xCode 2000) 0 with
              | none => rw [e1] at hcall; cases hcall
              | some z => rw [e1] at e0; cases e0
          obtain ⟨⟨⟨j1, j2⟩, j3⟩, j4⟩ := hlink.resolve_left (fun q => hne (xbeq q))
          have hma : mid' < 204 := xblt j1
          have hfa := xblt j3
          obtain ⟨k1, k2, k3, k4, k5, k6, k7, k8, k9⟩ := xmk_spec (xmk_of hma j2)
          obtain ⟨k10, k11, k12⟩ := k9 g3
          have hM := xmet ih hcall hma j2 g6 l ad cA D H.size
          have hR : (xRm mid').frames + 1 ≤ R.frames ∧ 8 + (xL mid' + 11) + (xRm mid').locals ≤ R.locals := by
            show xF mid' + 1 ≤ R.frames ∧ 8 + (xL mid' + 11) + 40 * xF mid' ≤ R.locals
            omega
          have hstk : st.map (xv ad) = ((st.take (xN mid')).reverse.map (xv ad)).reverse ++ .ref (ad b0) :: r.map (xv ad) := by
            have e1 : st.map (xv ad) = (st.take (xN mid')).map (xv ad) ++ (st.drop (xN mid')).map (xv ad) := by rw [← List.map_append, List.take_append_drop]
            rw [e1, List.map_reverse, List.reverse_reverse, g1]
            rfl
          have hla : ((st.take (xN mid')).reverse.map (xv ad)).length = xN mid' := by simp; omega
          have hcat := xcat_sum ad r
          cases hq : xCl[xI mid']? with
          | none => rw [hq] at k12; cases k12
          | some q0 =>
            rw [hq] at k12
            have hq1 : q0.1 = (xY mid').cls := Option.some.inj k12
            have hrc := va_recv hK hP hq (xws_at g2)
            rw [hq1] at hrc
            have hp : PreV s H (xY mid').cls (ad b0) (va_Pc ((Value.ref b0 :: (st.take (xN mid')).reverse).map (xv ad)) (xPre D ad cA S M H.size)) ((st.take (xN mid')).reverse.map (xv ad)) :=
              ⟨xpre_blind, hrc, fun U hU hW => ⟨rfl, by rw [hU], by rw [hU]; exact hP, va_K.moved hW.alike hK, hD.weaken (fun _ _ _ _ => trivial), va_Nw.warmM hW hnw⟩⟩
            have hT : GoodIn xT (wsV (xO mid) ix (xY mid').cls (xY mid') (xWs mid')) := xT_goodIn (fun w hw => by
              rcases List.mem_append.mp hw with q | q
              · rcases List.mem_cons.mp q with rfl | q
                · exact xis_T j4
                · rcases List.mem_cons.mp q with rfl | q
                  · exact k10
                  · rcases List.mem_cons.mp q with rfl | q
                    · exact k11
                    · rw [List.mem_singleton.mp q]
                      exact k2
              · exact xgoodws k1 w q)
            have hrun := va_runV (e := e) (below := below) (meth := meth) (locs := locs) (rest := r.map (xv ad)) ⟨hx, hb, hml, hown, hts⟩ hM (cwV (xN mid') hts hT rfl rfl rfl ⟨rfl, k5, k6, k4⟩ hR) hp (g := F0 m pc ls (st.map (xv ad))) rfl hla hl.1 hstk (lv_room (by omega)) hdg ⟨hc, hs⟩
            rcases xres _ _ _ _ _ _ _ _ _ hcall with rfl | ⟨r1, rfl⟩
            · exact va_callv (a := (Value.ref (ad b0) :: (st.take (xN mid')).reverse.map (xv ad)).toArray) hrun hS (fun q _ z => hAf q z) hAf (fun u t H1 locs1 ht hvm hw hB hz1 hk1 hS1 => hgo t H1 locs1 ht hvm hB hS1)
            · exact va_calli (a := (Value.ref (ad b0) :: (st.take (xN mid')).reverse.map (xv ad)).toArray) hrun hS (fun q _ z => hAf q z) hAf (fun r' u t H1 locs1 ht hvm hw hB hz1 hk1 hS1 => by
                cases hw
                exact hgo t H1 locs1 ht hvm hB hS1)
        · obtain ⟨x, ty, -, -, -, hz⟩ := xret_inv hz
          cases hz
        · obtain ⟨-, -, hz⟩ := xretv_inv hz
          cases hz
    · rename_i w hstep
      cases h
      simp only [xstep] at hstep
      split at hstep
      rotate_left
      · cases hstep
      rename_i i len a b cc k he
      have hlk := xlk_of hm he
      simp only [xlk, Bool.and_eq_true, decide_eq_true_eq, Bool.or_eq_true] at hlk
      obtain ⟨⟨hdg, hlen⟩, hlink⟩ := hlk
      rcases xdo_kind hstep with ⟨t, ht⟩ | ⟨ix, rfl, hb0, hb1, hb2, hz⟩ | ⟨ix, rfl, hz⟩ | ⟨rfl, hz⟩ | ⟨rfl, hz⟩
      · cases ht
      · obtain ⟨-, -, -, -, hz⟩ := xcallS_inv hz
        cases hz
      · obtain ⟨_, _, _, -, -, -, -, -, -, hz⟩ := xcallV_inv hz
        cases hz
      · obtain ⟨x, ty, rfl, hty, hfit, hz⟩ := xret_inv hz
        cases hz
        obtain rfl := xbeq (hlen.resolve_left (by simp [xsw]))
        obtain ⟨hn, -⟩ := xfits_ok hfit
        exact W.zret (ty := ty) hx hb (hr.trans hty) hn (fun t ht hW => hQ t locs hW (by rw [ht]; exact hP) hD (by rw [ht]; exact hS)) (fun q hq => hfree _ (hS.2.2 q hq)) hdg hlocks
      · obtain ⟨rfl, hty, hz⟩ := xretv_inv hz
        cases hz
        obtain rfl := xbeq (hlen.resolve_left (by simp [xsw]))
        exact W.vret hx hb (hr.trans hty) (fun t ht hW => hQ t locs hW (by rw [ht]; exact hP) hD (by rw [ht]; exact hS)) (fun q hq => hfree _ (hS.2.2 q hq)) hdg hlocks
