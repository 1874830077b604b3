/-! every step of the small machine is a step of the real one -/
def xCtx (p : Program) (R : Room) (s : State) (m : MethodId) (args : Array Value) (meth : Method) (c : Code) (mid : Nat) (D : va_G) (cA : Nat → ClassId) : Prop :=
  p.tables.exec = Jvm.exec ∧ c.code = xB mid ∧ c.maxLocals = xL mid ∧ s.vm.findClass (xO mid) = some m.cls ∧ (∀ w ∈ xT, w.before args s = true) ∧ meth.sig.returnType = xRt mid ∧ meth.locks = false ∧ xF mid ≤ R.frames ∧ 40 * xF mid ≤ R.locals ∧ va_K D xCl (xtys cA) s ∧ va_Nw xNw s
theorem xm_min : xis (xnth xMath 0 0) (.static Lib.Math.min.name) = true ∧ xis (xnth xMath 1 0) (.code Lib.Math.min.name Lib.Math.min.code 2 (some .int)) = true ∧ xis (xnth xMath 2 0) (.static Lib.Math.max.name) = true ∧ xis (xnth xMath 3 0) (.code Lib.Math.max.name Lib.Math.max.code 2 (some .int)) = true ∧ xis (xnth xMath 4 0) (.initialized "java/lang/Math") = true ∧ xis (xnth xMath 5 0) (.native arraycopyName) = true ∧ xis (xnth xMath 6 0) (.static arraycopyName) = true ∧ xis (xnth xMath 7 0) (.initialized "java/lang/System") = true := by decide +kernel
section XN
variable {p : Program} {l : Launch} {e : Env} {R : Room} {s : State} {m : MethodId} {args : Array Value} {below : List Frame} {meth : Method} {c : Code} {H H0 : Heap} {locs : List Loc} {cells slots : Nat} {Q : State → Prop}
variable {S : xSh} {ad : Nat → Nat} {cA : Nat → ClassId} {D : va_G} {A : Nat → Prop} {mid pc pc' : Nat} {ls : Array Slot} {L L' st st' : List Value} {M M' : xM}
set_option maxHeartbeats 4000000 in
theorem xnext (C : xCtx p R s m args meth c mid D cA) (hm : mid < 204) {i : Instr} {len a b cc : Nat} {k : Int} (he : xget (xCode mid) pc = some (i, len, a, b, cc, k)) (h : xdo S mid i a b k pc L st M = some (.inl (pc', L', st', M')))
    (hP : va_P D xCl (xws ad cA M S 0) H) (hD : va_D A (xws ad cA M S 0)) (hS : va_S A H0 H locs) (hc : cells ≤ R.cells) (hs : slots ≤ R.slots) (hl : xLH ad ls (xL mid) L)
    (kk : ∀ (H1 : Heap) (locs1 : List Loc) (ls1 : Array Slot), va_P D xCl (xws ad cA M' S 0) H1 → va_D A (xws ad cA M' S 0) → va_S A H0 H1 locs1 → xLH ad ls1 (xL mid) L' → W p l e R s m args below meth c H1 locs1 cells slots Q (F0 m pc' ls1 (st'.map (xv ad)))) :
    W p l e R s m args below meth c H locs cells slots Q (F0 m pc ls (st.map (xv ad))) := by
  obtain ⟨hx, hb, hml, hown, hts, hr, hlocks, hfr, hlo, hK, hnw⟩ := C
  have hlk := xlk_of hm he
  simp only [xlk, Bool.and_eq_true, decide_eq_true_eq, Bool.or_eq_true] at hlk
  obtain ⟨⟨hdg, hlen⟩, hlink⟩ := hlk
  have hn0 : L.length = xL mid := hl.2.2.1
  have hlz : c.maxLocals = ls.size := by rw [hml, hl.1]
  obtain ⟨m1, m2, m3, m4, m5, m6, m7, m8⟩ := xm_min
  cases i with
  | iconst n =>
    obtain rfl := xbeq (hlen.resolve_left (by simp [xsw]))
    cases xgo_inv h
    exact lv_iconst hx hb hdg rfl (kk _ _ _ hP hD hS hl)
  | bipush n =>
    obtain rfl := xbeq (hlen.resolve_left (by simp [xsw]))
    cases xgo_inv h
    exact lv_bipush hx hb hdg rfl (kk _ _ _ hP hD hS hl)
  | sipush n =>
    obtain rfl := xbeq (hlen.resolve_left (by simp [xsw]))
    cases xgo_inv h
    exact lv_sipush hx hb hdg rfl (kk _ _ _ hP hD hS hl)
  | ldc ix =>
    obtain rfl := xbeq (hlen.resolve_left (by simp [xsw]))
    simp only [xdo] at h
    split at h
    · cases h
    · rename_i hk0
      cases xgo_inv h
      simp only [Bool.or_eq_true, decide_eq_true_eq] at hlink
      exact lv_ldc hx hb hown (hts _ (xis_T (hlink.resolve_left hk0))) hdg (kk _ _ _ hP hD hS hl)
  | ldc2_w ix =>
    obtain rfl := xbeq (hlen.resolve_left (by simp [xsw]))
    cases xgo_inv h
    exact lv_ldc2 hx hb hown (hts _ (xis_T hlink)) hdg (kk _ _ _ hP hD hS hl)
  | lconst n =>
    obtain rfl := xbeq (hlen.resolve_left (by simp [xsw]))
    cases xgo_inv h
    exact lv_lconst hx hb hdg rfl (kk _ _ _ hP hD hS hl)
  | iload_n n =>
    obtain rfl := xbeq (hlen.resolve_left (by simp [xsw]))
    obtain ⟨x, hv, hz⟩ := xld_inv h
    cases hz
    exact lv_iload_n hx hb hdg rfl (hl.2.2.2 _ _ hv (by intro q; cases q)) (kk _ _ _ hP hD hS hl)
  | iload n =>
    obtain rfl := xbeq (hlen.resolve_left (by simp [xsw]))
    obtain ⟨x, hv, hz⟩ := xld_inv h
    cases hz
    exact lv_iload hx hb hdg (hl.2.2.2 _ _ hv (by intro q; cases q)) (kk _ _ _ hP hD hS hl)
  | lload_n n =>
    obtain rfl := xbeq (hlen.resolve_left (by simp [xsw]))
    obtain ⟨x, hv, hz⟩ := xldl_inv h
    cases hz
    exact lv_lload_n hx hb hdg rfl (hl.2.2.2 _ _ hv (by intro q; cases q)) (kk _ _ _ hP hD hS hl)
  | lload n =>
    obtain rfl := xbeq (hlen.resolve_left (by simp [xsw]))
    obtain ⟨x, hv, hz⟩ := xldl_inv h
    cases hz
    exact lv_lload hx hb hdg (hl.2.2.2 _ _ hv (by intro q; cases q)) (kk _ _ _ hP hD hS hl)
  | aload_n n =>
    obtain rfl := xbeq (hlen.resolve_left (by simp [xsw]))
    obtain ⟨x, hv, hz⟩ := xlda_inv h
    cases hz
    exact lv_aload_n hx hb hdg rfl (hl.2.2.2 _ _ hv (by intro q; cases q)) (kk _ _ _ hP hD hS hl)
  | aload n =>
    obtain rfl := xbeq (hlen.resolve_left (by simp [xsw]))
    obtain ⟨x, hv, hz⟩ := xlda_inv h
    cases hz
    exact lv_aload hx hb hdg (hl.2.2.2 _ _ hv (by intro q; cases q)) (kk _ _ _ hP hD hS hl)
  | istore_n n =>
    obtain rfl := xbeq (hlen.resolve_left (by simp [xsw]))
    obtain ⟨x, r, rfl, hi, hz⟩ := xsti_inv h
    cases hz
    exact lv_istore_n hx hb hdg rfl hl.has (by omega) rfl (fun ls' hw => kk _ _ _ hP hD hS (hl.st1 rfl hw))
  | istore n =>
    obtain rfl := xbeq (hlen.resolve_left (by simp [xsw]))
    obtain ⟨x, r, rfl, hi, hz⟩ := xsti_inv h
    cases hz
    exact lv_istore hx hb hdg hl.has (by omega) rfl (fun ls' hw => kk _ _ _ hP hD hS (hl.st1 rfl hw))
  | lstore_n n =>
    obtain rfl := xbeq (hlen.resolve_left (by simp [xsw]))
    obtain ⟨x, r, rfl, hi, hz⟩ := xstl_inv h
    cases hz
    exact lv_lstore_n hx hb hdg rfl hl.has (by omega) rfl (fun ls' hw => kk _ _ _ hP hD hS (hl.st2 hw))
  | lstore n =>
    obtain rfl := xbeq (hlen.resolve_left (by simp [xsw]))
    obtain ⟨x, r, rfl, hi, hz⟩ := xstl_inv h
    cases hz
    exact lv_lstore hx hb hdg hl.has (by omega) rfl (fun ls' hw => kk _ _ _ hP hD hS (hl.st2 hw))
  | astore_n n =>
    obtain rfl := xbeq (hlen.resolve_left (by simp [xsw]))
    obtain ⟨x, r, rfl, hi, hz⟩ := xsta_inv h
    cases hz
    exact lv_astore_n hx hb hdg rfl hl.has (by omega) rfl (fun ls' hw => kk _ _ _ hP hD hS (hl.st1 rfl hw))
  | astore n =>
    obtain rfl := xbeq (hlen.resolve_left (by simp [xsw]))
    obtain ⟨x, r, rfl, hi, hz⟩ := xsta_inv h
    cases hz
    exact lv_astore hx hb hdg hl.has (by omega) rfl (fun ls' hw => kk _ _ _ hP hD hS (hl.st1 rfl hw))
  | iinc n d =>
    obtain rfl := xbeq (hlen.resolve_left (by simp [xsw]))
    simp only [xdo] at h
    split at h
    · rename_i x hv
      cases xgo_inv h
      have hmem : (n, Value.int x) ∈ xlv ad L := xlv_mem.mpr ⟨_, hv, (by intro q; cases q), rfl⟩
      obtain ⟨j, hj⟩ := List.getElem?_of_mem hmem
      exact lv_iinc hx hb hdg hl.has hj rfl (by rw [← hn0]; exact (List.getElem?_eq_some_iff.mp hv).1) rfl (fun ls' hw => kk _ _ _ hP hD hS (hl.st1 rfl hw))
    · cases h
  | iadd =>
    obtain rfl := xbeq (hlen.resolve_left (by simp [xsw]))
    obtain ⟨y, x, r, rfl, hz⟩ := xb2_inv h
    cases hz
    exact lv_iadd hx hb hdg (kk _ _ _ hP hD hS hl)
  | isub =>
    obtain rfl := xbeq (hlen.resolve_left (by simp [xsw]))
    obtain ⟨y, x, r, rfl, hz⟩ := xb2_inv h
    cases hz
    exact lv_isub hx hb hdg (kk _ _ _ hP hD hS hl)
  | imul =>
    obtain rfl := xbeq (hlen.resolve_left (by simp [xsw]))
    obtain ⟨y, x, r, rfl, hz⟩ := xb2_inv h
    cases hz
    exact lv_imul hx hb hdg (kk _ _ _ hP hD hS hl)
  | iand =>
    obtain rfl := xbeq (hlen.resolve_left (by simp [xsw]))
    obtain ⟨y, x, r, rfl, hz⟩ := xb2_inv h
    cases hz
    exact lv_iand hx hb hdg (kk _ _ _ hP hD hS hl)
  | ior =>
    obtain rfl := xbeq (hlen.resolve_left (by simp [xsw]))
    obtain ⟨y, x, r, rfl, hz⟩ := xb2_inv h
    cases hz
    exact lv_ior hx hb hdg (kk _ _ _ hP hD hS hl)
  | ixor =>
    obtain rfl := xbeq (hlen.resolve_left (by simp [xsw]))
    obtain ⟨y, x, r, rfl, hz⟩ := xb2_inv h
    cases hz
    exact lv_ixor hx hb hdg (kk _ _ _ hP hD hS hl)
  | ishl =>
    obtain rfl := xbeq (hlen.resolve_left (by simp [xsw]))
    obtain ⟨y, x, r, rfl, hz⟩ := xb2_inv h
    cases hz
    exact lv_ishl hx hb hdg (kk _ _ _ hP hD hS hl)
  | ishr =>
    obtain rfl := xbeq (hlen.resolve_left (by simp [xsw]))
    obtain ⟨y, x, r, rfl, hz⟩ := xb2_inv h
    cases hz
    exact lv_ishr hx hb hdg (kk _ _ _ hP hD hS hl)
  | idiv =>
    obtain rfl := xbeq (hlen.resolve_left (by simp [xsw]))
    obtain ⟨y, x, r, rfl, hne, hz⟩ := xd2_inv h
    cases hz
    exact lv_idiv hx hb hdg hne (kk _ _ _ hP hD hS hl)
  | irem =>
    obtain rfl := xbeq (hlen.resolve_left (by simp [xsw]))
    obtain ⟨y, x, r, rfl, hne, hz⟩ := xd2_inv h
    cases hz
    exact lv_irem hx hb hdg hne (kk _ _ _ hP hD hS hl)
  | ineg =>
    obtain rfl := xbeq (hlen.resolve_left (by simp [xsw]))
    simp only [xdo] at h
    split at h
    · cases xgo_inv h
      exact lv_ineg hx hb hdg (kk _ _ _ hP hD hS hl)
    · cases h
  | ladd =>
    obtain rfl := xbeq (hlen.resolve_left (by simp [xsw]))
    obtain ⟨y, x, r, rfl, hz⟩ := xl2_inv h
    cases hz
    exact lv_ladd hx hb hdg (kk _ _ _ hP hD hS hl)
  | lsub =>
    obtain rfl := xbeq (hlen.resolve_left (by simp [xsw]))
    obtain ⟨y, x, r, rfl, hz⟩ := xl2_inv h
    cases hz
    exact lv_lsub hx hb hdg (kk _ _ _ hP hD hS hl)
  | lmul =>
    obtain rfl := xbeq (hlen.resolve_left (by simp [xsw]))
    obtain ⟨y, x, r, rfl, hz⟩ := xl2_inv h
    cases hz
    exact lv_lmul hx hb hdg (kk _ _ _ hP hD hS hl)
  | ldiv =>
    obtain rfl := xbeq (hlen.resolve_left (by simp [xsw]))
    obtain ⟨y, x, r, rfl, hne, hz⟩ := xdl2_inv h
    cases hz
    exact lv_ldiv hx hb hdg hne (kk _ _ _ hP hD hS hl)
  | lrem =>
    obtain rfl := xbeq (hlen.resolve_left (by simp [xsw]))
    obtain ⟨y, x, r, rfl, hne, hz⟩ := xdl2_inv h
    cases hz
    exact lv_lrem hx hb hdg hne (kk _ _ _ hP hD hS hl)
  | lcmp =>
    obtain rfl := xbeq (hlen.resolve_left (by simp [xsw]))
    simp only [xdo] at h
    split at h
    · cases xgo_inv h
      exact W.lcmp hx hb hdg (kk _ _ _ hP hD hS hl)
    · cases h
  | i2l =>
    obtain rfl := xbeq (hlen.resolve_left (by simp [xsw]))
    simp only [xdo] at h
    split at h
    · cases xgo_inv h
      exact lv_i2l hx hb hdg rfl (kk _ _ _ hP hD hS hl)
    · cases h
  | l2i =>
    obtain rfl := xbeq (hlen.resolve_left (by simp [xsw]))
    simp only [xdo] at h
    split at h
    · cases xgo_inv h
      exact lv_l2i hx hb hdg rfl (kk _ _ _ hP hD hS hl)
    · cases h
  | i2c =>
    obtain rfl := xbeq (hlen.resolve_left (by simp [xsw]))
    simp only [xdo] at h
    split at h
    · cases xgo_inv h
      exact lv_i2c hx hb hdg rfl (kk _ _ _ hP hD hS hl)
    · cases h
  | dup =>
    obtain rfl := xbeq (hlen.resolve_left (by simp [xsw]))
    simp only [xdo] at h
    split at h
    · cases xgo_inv h
      exact lv_dup hx hb hdg rfl (kk _ _ _ hP hD hS hl)
    · cases xgo_inv h
      exact lv_dup hx hb hdg rfl (kk _ _ _ hP hD hS hl)
    · cases h
  | dup2 =>
    obtain rfl := xbeq (hlen.resolve_left (by simp [xsw]))
    simp only [xdo] at h
    split at h
    · cases xgo_inv h
      exact lv_dup2_11 hx hb hdg rfl rfl (kk _ _ _ hP hD hS hl)
    · cases h
  | pop =>
    obtain rfl := xbeq (hlen.resolve_left (by simp [xsw]))
    simp only [xdo] at h
    split at h
    · cases xgo_inv h
      exact lv_pop hx hb hdg rfl (kk _ _ _ hP hD hS hl)
    · cases h
  | ifCond cd off =>
    obtain rfl := xbeq (hlen.resolve_left (by simp [xsw]))
    obtain ⟨x, r, rfl, ht, hf⟩ := xif1_inv h
    have htg := xtg_eq hlink
    have kt : xcond cd x 0 = true → W p l e R s m args below meth c H locs cells slots Q (F0 m (xtg pc off) ls (r.map (xv ad))) := fun q => by
      cases ht q
      exact kk _ _ _ hP hD hS hl
    have kf : xcond cd x 0 = false → W p l e R s m args below meth c H locs cells slots Q (F0 m (pc + 3) ls (r.map (xv ad))) := fun q => by
      cases hf q
      exact kk _ _ _ hP hD hS hl
    cases cd with
    | eq => exact lv_if_eq hx hb hdg htg (fun q => kt (decide_eq_true q)) (fun q => kf (decide_eq_false q))
    | ne => exact lv_if_ne hx hb hdg htg (fun q => kt (decide_eq_true q)) (fun q => kf (decide_eq_false (fun z => z q)))
    | lt => exact lv_if_lt hx hb hdg htg (fun q => kt (decide_eq_true q)) (fun q => kf (decide_eq_false q))
    | ge => exact lv_if_ge hx hb hdg htg (fun q => kt (decide_eq_true q)) (fun q => kf (decide_eq_false q))
    | gt => exact lv_if_gt hx hb hdg htg (fun q => kt (decide_eq_true q)) (fun q => kf (decide_eq_false q))
    | le => exact lv_if_le hx hb hdg htg (fun q => kt (decide_eq_true q)) (fun q => kf (decide_eq_false q))
  | if_icmp cd off =>
    obtain rfl := xbeq (hlen.resolve_left (by simp [xsw]))
    obtain ⟨x, y, r, rfl, ht, hf⟩ := xif2_inv h
    have htg := xtg_eq hlink
    have kt : xcond cd x y = true → W p l e R s m args below meth c H locs cells slots Q (F0 m (xtg pc off) ls (r.map (xv ad))) := fun q => by
      cases ht q
      exact kk _ _ _ hP hD hS hl
    have kf : xcond cd x y = false → W p l e R s m args below meth c H locs cells slots Q (F0 m (pc + 3) ls (r.map (xv ad))) := fun q => by
      cases hf q
      exact kk _ _ _ hP hD hS hl
    cases cd with
    | eq => exact lv_icmp_eq hx hb hdg htg (fun q => kt (decide_eq_true q)) (fun q => kf (decide_eq_false q))
    | ne => exact lv_icmp_ne hx hb hdg htg (fun q => kt (decide_eq_true q)) (fun q => kf (decide_eq_false (fun z => z q)))
    | lt => exact lv_icmp_lt hx hb hdg htg (fun q => kt (decide_eq_true q)) (fun q => kf (decide_eq_false q))
    | ge => exact lv_icmp_ge hx hb hdg htg (fun q => kt (decide_eq_true q)) (fun q => kf (decide_eq_false q))
    | gt => exact lv_icmp_gt hx hb hdg htg (fun q => kt (decide_eq_true q)) (fun q => kf (decide_eq_false q))
    | le => exact lv_icmp_le hx hb hdg htg (fun q => kt (decide_eq_true q)) (fun q => kf (decide_eq_false q))
  | goto off =>
    obtain rfl := xbeq (hlen.resolve_left (by simp [xsw]))
    cases xgo_inv h
    exact lv_goto hx hb hdg (xtg_eq hlink) (kk _ _ _ hP hD hS hl)
  | tableswitch d lo hi offs =>
    simp only [xdo] at h
    simp only [Bool.and_eq_true, List.all_eq_true] at hlink
    split at h
    · rename_i x r
      split at h
      · rename_i hq
        cases xgo_inv h
        exact lv_tableOut hx hb hdg hq (xtg_eq hlink.1) (kk _ _ _ hP hD hS hl)
      · rename_i hq
        split at h
        · rename_i off ho
          cases xgo_inv h
          have hmem : off ∈ offs.toList := by
            rw [← Array.getElem?_toList] at ho
            exact List.mem_of_getElem? ho
          exact lv_tableIn hx hb hdg (fun z => hq (Or.inl z)) (fun z => hq (Or.inr z)) ho (xtg_eq (hlink.2 off hmem)) (kk _ _ _ hP hD hS hl)
        · cases h
    · cases h
  | lookupswitch d ps =>
    simp only [xdo] at h
    simp only [Bool.and_eq_true, List.all_eq_true] at hlink
    split at h
    · rename_i x r
      cases xgo_inv h
      refine lv_lookup hx hb hdg hlink.2 rfl (xtg_eq ?_) (kk _ _ _ hP hD hS hl)
      have hd1 := hlink.1.1
      have hd2 := hlink.1.2
      generalize ps.toList = l0 at hd2 ⊢
      induction l0 with
      | nil => exact hd1
      | cons q r0 ih =>
        rw [show q = (q.1, q.2) from rfl, Op.lookupswitch.offset_cons]
        split
        · exact hd2 q List.mem_cons_self
        · exact ih (fun z hz => hd2 z (List.mem_cons_of_mem _ hz))
    · cases h
  | getfield ix =>
    obtain rfl := xbeq (hlen.resolve_left (by simp [xsw]))
    obtain ⟨a0, r, fs, o, rfl, hS0, hk, hz⟩ := xgetf_inv h
    cases hz
    simp only at hlink
    split at hlink
    · rename_i C T N hC
      simp only [Bool.and_eq_true, decide_eq_true_eq] at hlink
      obtain ⟨⟨h1, h2⟩, h3⟩ := hlink
      obtain ⟨hin, hty, hnm⟩ := xcl_spec hC
      have hv := xsv_get ad (M a0) fs 0 b o hk
      cases o with
      | none =>
        rw [Nat.zero_add] at hv
        exact va_get (D := D) (ci := a) (C := C) (T := T) (N := N) (fs := xsv ad (M a0) fs 0) hx hb hts hin hown hK hP a0 (xws_at hS0) hC b (xblt h1) (hts _ (xis_T h3)) (fun z hz => by rw [h2] at hz; exact hz) hv hdg (kk _ _ _ hP hD hS hl)
      | some q =>
        exact va_get (D := D) (ci := a) (C := C) (T := T) (N := N) (fs := xsv ad (M a0) fs 0) hx hb hts hin hown hK hP a0 (xws_at hS0) hC b (xblt h1) (hts _ (xis_T h3)) (fun z hz => by rw [h2] at hz; exact hz) hv hdg (kk _ _ _ hP hD hS hl)
    · cases hlink
  | putfield ix =>
    obtain rfl := xbeq (hlen.resolve_left (by simp [xsw]))
    obtain ⟨x, a0, r, fs, rfl, hS0, hk, hfin, hfit, hz⟩ := xputf_inv h
    cases hz
    simp only at hlink
    split at hlink
    · rename_i C T N hC
      simp only [Bool.and_eq_true, decide_eq_true_eq] at hlink
      obtain ⟨⟨h1, h2⟩, h3⟩ := hlink
      obtain ⟨hin, hty, hnm⟩ := xcl_spec hC
      have hf : (T b).2.2.2 = false := by
        unfold xfin at hfin
        rw [hC] at hfin
        exact hfin
      obtain ⟨hn, hfit2⟩ := xfits_ok hfit
      refine va_put (D := D) (ci := a) (C := C) (T := T) (N := N) (fs := xsv ad (M a0) fs 0) (ty := xTy a b) (v := .int x) hx hb hts hin (xTy a) hty hnm hown hK hP hD hS a0 (xws_at hS0) hC b (xblt h1) (hts _ (xis_T h3)) (fun z hz => by rw [h2] at hz; exact hz) hf (hty b (xblt h1)) hn hfit2 (by rw [xsv_len]; exact (List.getElem?_eq_some_iff.mp hk).1) hdg (fun H1 locs1 hP1 hD1 hS1 => ?_)
      have e1 : (xws ad cA M S 0).set a0 (ad a0, .inr (a, (xsv ad (M a0) fs 0).set b (.int x))) = xws ad cA (xup M a0 b x) S 0 := by
        have e0 := xws_set (ad := ad) (cA := cA) (M := M) (M' := xup M a0 b x) hS0 (fun q hq => by simp [xup, hq])
        rw [← e0, xsv_set ad (M a0) x fs 0 b hk]
        simp [xce, xup]
      rw [e1] at hP1 hD1
      exact kk _ _ _ hP1 hD1 hS1 hl
    · cases hlink
  | iaload =>
    obtain rfl := xbeq (hlen.resolve_left (by simp [xsw]))
    obtain ⟨j, a0, r, n, fs, rfl, hS0, hin, hz⟩ := xald_inv h
    cases hz
    exact va_iald hx hb hK hP a0 0 (xws_at hS0) rfl hin hdg (kk _ _ _ hP hD hS hl)
  | caload =>
    obtain rfl := xbeq (hlen.resolve_left (by simp [xsw]))
    obtain ⟨j, a0, r, n, fs, rfl, hS0, hin, hz⟩ := xald_inv h
    cases hz
    exact va_cald hx hb hK hP a0 1 (xws_at hS0) rfl hin hdg (kk _ _ _ hP hD hS hl)
  | iastore =>
    obtain rfl := xbeq (hlen.resolve_left (by simp [xsw]))
    obtain ⟨x, j, a0, r, n, fs, rfl, hS0, hin, hz⟩ := xast_inv h
    cases hz
    refine va_iast hx hb hK hP hD hS a0 0 (xws_at hS0) rfl hin hdg (fun H1 locs1 hP1 hD1 hS1 => ?_)
    have e1 : (xws ad cA M S 0).set a0 (ad a0, .inl (cA 0, n, .inl (upd (M a0) j.toNatClampNeg x))) = xws ad cA (xup M a0 j.toNatClampNeg x) S 0 := by
      have e0 := xws_set (ad := ad) (cA := cA) (M := M) (M' := xup M a0 j.toNatClampNeg x) hS0 (fun q hq => by simp [xup, hq])
      rw [← e0]
      simp [xce, xup]
    rw [e1] at hP1 hD1
    exact kk _ _ _ hP1 hD1 hS1 hl
  | castore =>
    obtain rfl := xbeq (hlen.resolve_left (by simp [xsw]))
    obtain ⟨x, j, a0, r, n, fs, rfl, hS0, hin, hz⟩ := xast_inv h
    cases hz
    refine va_cast hx hb hK hP hD hS a0 1 (xws_at hS0) rfl hin hdg (fun H1 locs1 hP1 hD1 hS1 => ?_)
    have e1 : (xws ad cA M S 0).set a0 (ad a0, .inl (cA 1, n, .inl (upd (M a0) j.toNatClampNeg (vp_nar .char x)))) = xws ad cA (xup M a0 j.toNatClampNeg (vp_nar .char x)) S 0 := by
      have e0 := xws_set (ad := ad) (cA := cA) (M := M) (M' := xup M a0 j.toNatClampNeg (vp_nar .char x)) hS0 (fun q hq => by simp [xup, hq])
      rw [← e0]
      simp [xce, xup]
    rw [e1] at hP1 hD1
    exact kk _ _ _ hP1 hD1 hS1 hl
  | arraylength =>
    obtain rfl := xbeq (hlen.resolve_left (by simp [xsw]))
    obtain ⟨a0, r, n, fs, k0, hk0, rfl, hS0, hz⟩ := xalen_inv h
    cases hz
    rcases hk0 with rfl | rfl
    · exact va_alen hx hb hK hP a0 0 (xws_at hS0) rfl rfl hdg (kk _ _ _ hP hD hS hl)
    · exact va_alen hx hb hK hP a0 1 (xws_at hS0) rfl rfl hdg (kk _ _ _ hP hD hS hl)
  | invokestatic ix =>
    obtain rfl := xbeq (hlen.resolve_left (by simp [xsw]))
    simp only [xdo] at h
    cases hb0 : Nat.beq a 1000 with
    | true =>
      rw [hb0] at h
      simp only [hb0, cond_true, Bool.and_eq_true] at h hlink
      obtain ⟨y, x, r, rfl, hr4, hz⟩ := xmath_inv h
      cases hz
      have hf1 := xblt hlink.2
      have hc8 := xcat_sum ad r
      exact va_mmin hx hb hlz hown (hts _ (xis_T hlink.1)) (hts _ (xis_T m1)) (hts _ (xis_T m5)) (hts _ (xis_T m2)) (by omega) (by omega) hc hs hdg (kk _ _ _ hP hD hS hl)
    | false =>
      cases hb1 : Nat.beq a 1001 with
      | true =>
        rw [hb0, hb1] at h
        simp only [hb0, hb1, cond_true, cond_false, Bool.and_eq_true] at h hlink
        obtain ⟨y, x, r, rfl, hr4, hz⟩ := xmath_inv h
        cases hz
        have hf1 := xblt hlink.2
        have hc8 := xcat_sum ad r
        exact va_mmax hx hb hlz hown (hts _ (xis_T hlink.1)) (hts _ (xis_T m3)) (hts _ (xis_T m5)) (hts _ (xis_T m4)) (by omega) (by omega) hc hs hdg (kk _ _ _ hP hD hS hl)
      | false =>
        cases hb2 : Nat.beq a 1002 with
        | true =>
          rw [hb0, hb1, hb2] at h
          simp only [hb0, hb1, hb2, cond_true, cond_false, Bool.and_eq_true] at h hlink
          obtain ⟨n, dp, a1, sp, a0, r, n0, n1, f0, f1, rfl, hS0, hS1, b1, b2, b3, b4, b5, hr4, hz⟩ := xcopy_inv h
          cases hz
          have hf1 := xblt hlink.2
          have hc8 := xcat_sum ad st'
          refine va_copyi hx hb hlz hown (hts _ (xis_T hlink.1)) (hts _ (xis_T m6)) (hts _ (xis_T m7)) (hts _ (xis_T m8)) hK hP hD hS a0 a1 0 0 (xws_at hS0) (xws_at hS1) rfl rfl rfl b1 b2 b3 b4 b5 (fun _ _ => rfl) (by omega) (by rw [show nativeFrameWords "java/lang/System" "arraycopy" 5 = 7 by decide +kernel]; omega) hdg (fun H1 locs1 hP1 hD1 hS1' => ?_)
          have e1 : (xws ad cA M S 0).set a1 (ad a1, .inl (cA 0, n1, .inl (va_cpy (M a0) (M a1) sp.toNatClampNeg dp.toNatClampNeg n.toNatClampNeg))) = xws ad cA (xset M a1 (va_cpy (M a0) (M a1) sp.toNatClampNeg dp.toNatClampNeg n.toNatClampNeg)) S 0 := by
            have e0 := xws_set (ad := ad) (cA := cA) (M := M) (M' := xset M a1 (va_cpy (M a0) (M a1) sp.toNatClampNeg dp.toNatClampNeg n.toNatClampNeg)) hS1 (fun q hq => by simp [xset, hq])
            rw [← e0]
            simp [xce, xset]
          rw [e1] at hP1 hD1
          exact kk _ _ _ hP1 hD1 hS1' hl
        | false =>
          rw [hb0, hb1, hb2] at h
          simp only [cond_false] at h
          have := (xcallS_inv h).2.2.2.2
          cases this
  | invokevirtual ix =>
    obtain ⟨_, _, _, _, _, _, _, _, _, hz⟩ := xcallV_inv h
    cases hz
  | ireturn =>
    obtain ⟨_, _, _, _, _, hz⟩ := xret_inv h
    cases hz
  | return_ =>
    obtain ⟨_, _, hz⟩ := xretv_inv h
    cases hz
  | _ => cases h
end XN
