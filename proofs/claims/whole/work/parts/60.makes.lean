/-! every step of the machine that makes is a step of the real one -/
theorem zstep_kind {mid r pc pc' : Nat} {G G' : zG} {st st' : List Value} (h : zstep mid r pc G st = some (pc', G', st')) : G' = G ∨ (∃ e, G' = G ++ [e]) ∨ ∃ x e e', G[x]? = some e ∧ zs1 e' = zs1 e ∧ G' = G.set x e' := by
  simp only [zstep] at h
  cases he : xget (xCode mid) pc with
  | none => rw [he] at h; cases h
  | some q =>
    obtain ⟨i, len, a, b, cc, k⟩ := q
    rw [he] at h
    cases i with
    | aload_n j =>
      simp only at h
      cases hb : Nat.beq (j : Nat) 0 with
      | true => rw [hb] at h; cases h; exact Or.inl rfl
      | false => rw [hb] at h; cases h
    | iconst n => cases h; exact Or.inl rfl
    | bipush n => cases h; exact Or.inl rfl
    | sipush n => cases h; exact Or.inl rfl
    | ldc ix =>
      simp only at h
      cases hb : decide (k = 0) with
      | true => rw [hb] at h; cases h
      | false => rw [hb] at h; cases h; exact Or.inl rfl
    | dup =>
      simp only at h
      split at h
      · cases h; exact Or.inl rfl
      · cases h
    | newarray ty =>
      simp only [zarr] at h
      split at h
      · rename_i x w
        cases hx0 : (decide (¬ x < 0) && Nat.ble x.toNatClampNeg 1000) with
        | false => rw [hx0] at h; cases h
        | true =>
          rw [hx0] at h
          simp only [cond_true] at h
          split at h
          · cases h; exact Or.inr (Or.inl ⟨_, rfl⟩)
          · cases h; exact Or.inr (Or.inl ⟨_, rfl⟩)
          · cases h
      · cases h
    | new ix =>
      simp only at h
      split at h
      · cases h; exact Or.inr (Or.inl ⟨_, rfl⟩)
      · cases h
    | putfield ix =>
      simp only [zput] at h
      split at h
      · rename_i v x w
        split at h
        · rename_i cj fs hG
          cases hb0 : (Nat.beq a cj && Nat.blt b fs.length && zfit (xTy a b) v && decide ((xCl[a]?).map (fun q => q.1) = some (xO mid))) with
          | false => rw [hb0] at h; cases h
          | true =>
            rw [hb0] at h
            cases h
            exact Or.inr (Or.inr ⟨x, _, _, hG, by simp [zs1], rfl⟩)
        · cases h
      · cases h
    | _ => cases h
theorem zstep_mono {mid r pc pc' : Nat} {G G' : zG} {st st' : List Value} (h : zstep mid r pc G st = some (pc', G', st')) : G.length ≤ G'.length ∧ zsz G ≤ zsz G' := by
  rcases zstep_kind h with rfl | ⟨e, rfl⟩ | ⟨x, e, e', h1, h2, rfl⟩
  · exact ⟨Nat.le_refl _, Nat.le_refl _⟩
  · exact ⟨by simp, by rw [zsz_app]; omega⟩
  · exact ⟨by simp, by rw [zsz_set G x e e' h1 h2]; omega⟩
theorem zrun_mono : ∀ (n d mid r pc : Nat) (G : zG) (st : List Value), G.length ≤ (zrun n d mid r pc G st).2.1.length ∧ zsz G ≤ zsz (zrun n d mid r pc G st).2.1
  | 0, d, mid, r, pc, G, st => ⟨Nat.le_refl _, Nat.le_refl _⟩
  | n + 1, d, mid, r, pc, G, st => by
    simp only [zrun]
    cases hs : zstep mid r pc G st with
    | some q =>
      obtain ⟨pc', G', st'⟩ := q
      have h1 := zstep_mono hs
      have h2 := zrun_mono n d mid r pc' G' st'
      exact ⟨Nat.le_trans h1.1 h2.1, Nat.le_trans h1.2 h2.2⟩
    | none =>
      cases hc : zcall mid pc st with
      | none => exact ⟨Nat.le_refl _, Nat.le_refl _⟩
      | some q =>
        obtain ⟨mid', x, w⟩ := q
        cases mid' with
        | zero => exact zrun_mono n d mid r (pc + 3) G w
        | succ m' =>
          cases d with
          | zero => exact ⟨Nat.le_refl _, Nat.le_refl _⟩
          | succ d' =>
            have h1 := zrun_mono n d' (m' + 1) x 0 G []
            simp only
            generalize zrun n d' (m' + 1) x 0 G [] = w1 at h1 ⊢
            obtain ⟨pc1, G1, st1⟩ := w1
            simp only at h1 ⊢
            cases (zret (m' + 1) pc1 && st1.isEmpty) with
            | true =>
              have h2 := zrun_mono n (d' + 1) mid r (pc + 3) G1 w
              exact ⟨Nat.le_trans h1.1 h2.1, Nat.le_trans h1.2 h2.2⟩
            | false => exact ⟨Nat.le_refl _, Nat.le_refl _⟩
def zCtx (p : Program) (R : Room) (s : State) (m : MethodId) (args : Array Value) (meth : Method) (c : Code) (mid nL d : Nat) (D : va_G) (cA : Nat → ClassId) : Prop :=
  p.tables.exec = Jvm.exec ∧ c.code = xB mid ∧ c.maxLocals = nL ∧ s.vm.findClass (xO mid) = some m.cls ∧ (∀ w ∈ xT, w.before args s = true) ∧ meth.name = "<init>" ∧ d + 1 ≤ R.frames ∧ 20 * (d + 1) ≤ R.locals ∧ va_K D xCl (xtys cA) s ∧ zN s
theorem zfit_ok {ty : FieldType} {v : Value} (ad : Nat → Nat) (h : zfit ty v = true) : narrow ty (xv ad v) = xv ad v ∧ fits ty (xv ad v) = true := by
  unfold zfit at h
  split at h
  · exact xfits_ok h
  · split at h
    · exact ⟨rfl, rfl⟩
    · exact ⟨rfl, rfl⟩
    · cases h
  · cases h
theorem zoks.cons {n : Nat} {v : Value} {st : List Value} (h1 : zvk n v = true) (h2 : zoks n st) : zoks n (v :: st) := fun w hw => by
  rcases List.mem_cons.mp hw with rfl | q
  · exact h1
  · exact h2 w q
theorem zok.app {n : Nat} {G : zG} {e : Nat × Nat × List Value} (h : zok n G) (he : ∀ v ∈ e.2.2, zvk n v = true) : zok n (G ++ [e]) := fun x hx => by
  rcases List.mem_append.mp hx with q | q
  · exact h x q
  · rw [List.mem_singleton.mp q]
    exact he
section ZN
variable {p : Program} {l : Launch} {e : Env} {R : Room} {s : State} {m : MethodId} {args : Array Value} {below : List Frame} {meth : Method} {c : Code} {H H0 : Heap} {locs : List Loc} {Q : State → Prop}
variable {ad : Nat → Nat} {cA : Nat → ClassId} {D : va_G} {A : Nat → Prop} {mid pc pc' r nL d g0 z0 : Nat} {ls : Array Slot} {st st' : List Value} {G G' : zG}
/-- the array class of a type is one -/
theorem zarr_cls {ty : FieldType} {c1 c2 : ClassId} (hs : ty = .int ∨ ty = .char) (h1 : va_RA s c1 ty) (h2 : va_RA s c2 ty) : c1 = c2 := by
  rcases hs with rfl | rfl
  · have e1 : s.vm.findClass _ = some c1 := h1
    have e2 : s.vm.findClass _ = some c2 := h2
    exact Option.some.inj (e1.symm.trans e2)
  · have e1 : s.vm.findClass _ = some c1 := h1
    have e2 : s.vm.findClass _ = some c2 := h2
    exact Option.some.inj (e1.symm.trans e2)
set_option maxHeartbeats 4000000 in
theorem znext (C : zCtx p R s m args meth c mid nL d D cA) (hm : mid < 204) (h : zstep mid r pc G st = some (pc', G', st')) (hok : zok G.length G) (hst : zoks G.length st) (hr : r < G.length) (hg : g0 ≤ G.length) (hz : z0 ≤ zsz G) (hc : G'.length - g0 ≤ R.cells) (hs : zsz G' - z0 ≤ R.slots)
    (hP : va_P D xCl (zws ad cA G 0) H) (hD : va_D A (zws ad cA G 0)) (hS : va_S A H0 H locs) (hA : ∀ q, H0.size ≤ q → A q) (hl : ls[0]? = some (.val (.ref (ad r))))
    (kk : ∀ (ad' : Nat → Nat) (H1 : Heap) (locs1 : List Loc), (∀ i, i < G.length → ad' i = ad i) → zok G'.length G' → zoks G'.length st' → va_P D xCl (zws ad' cA G' 0) H1 → va_D A (zws ad' cA G' 0) → va_S A H0 H1 locs1 → W p l e R s m args below meth c H1 locs1 (G'.length - g0) (zsz G' - z0) Q (F0 m pc' ls (st'.map (xv ad')))) :
    W p l e R s m args below meth c H locs (G.length - g0) (zsz G - z0) Q (F0 m pc ls (st.map (xv ad))) := by
  obtain ⟨hx, hb, hml, hown, hts, hin, hfr, hlo, hK, hnw⟩ := C
  simp only [zstep] at h
  cases he : xget (xCode mid) pc with
  | none => rw [he] at h; cases h
  | some q =>
    obtain ⟨i, len, a, b, cc, k⟩ := q
    rw [he] at h
    have hlk := xlk_of hm he
    simp only [xlk, Bool.and_eq_true, decide_eq_true_eq, Bool.or_eq_true] at hlk
    obtain ⟨⟨hdg, hlen⟩, hlink⟩ := hlk
    cases i with
    | aload_n j =>
      obtain rfl := xbeq (hlen.resolve_left (by simp [xsw]))
      simp only at h
      cases hj : Nat.beq (j : Nat) 0 with
      | false => rw [hj] at h; cases h
      | true =>
        rw [hj] at h
        cases h
        refine lv_aload_n hx hb hdg (xbeq hj) hl ?_
        exact kk ad H locs (fun _ _ => rfl) hok (hst.cons (Nat.ble_eq_true_of_le hr)) hP hD hS
    | iconst n =>
      obtain rfl := xbeq (hlen.resolve_left (by simp [xsw]))
      cases h
      exact lv_iconst hx hb hdg rfl (kk ad H locs (fun _ _ => rfl) hok (hst.cons rfl) hP hD hS)
    | bipush n =>
      obtain rfl := xbeq (hlen.resolve_left (by simp [xsw]))
      cases h
      exact lv_bipush hx hb hdg rfl (kk ad H locs (fun _ _ => rfl) hok (hst.cons rfl) hP hD hS)
    | sipush n =>
      obtain rfl := xbeq (hlen.resolve_left (by simp [xsw]))
      cases h
      exact lv_sipush hx hb hdg rfl (kk ad H locs (fun _ _ => rfl) hok (hst.cons rfl) hP hD hS)
    | ldc ix =>
      obtain rfl := xbeq (hlen.resolve_left (by simp [xsw]))
      simp only at h
      by_cases hk0 : k = 0
      · rw [decide_eq_true hk0] at h; cases h
      · rw [decide_eq_false hk0] at h
        cases h
        simp only [Bool.or_eq_true, decide_eq_true_eq] at hlink
        exact lv_ldc hx hb hown (hts _ (xis_T (hlink.resolve_left hk0))) hdg (kk ad H locs (fun _ _ => rfl) hok (hst.cons rfl) hP hD hS)
    | dup =>
      obtain rfl := xbeq (hlen.resolve_left (by simp [xsw]))
      simp only at h
      split at h
      · rename_i x s1
        cases h
        exact lv_dup hx hb hdg rfl (kk ad H locs (fun _ _ => rfl) hok (hst.cons (hst _ List.mem_cons_self)) hP hD hS)
      · cases h
    | newarray ty =>
      obtain rfl := xbeq (hlen.resolve_left (by simp [xsw]))
      simp only [zarr] at h
      split at h
      · rename_i x s1
        cases hx0 : (decide (¬ x < 0) && Nat.ble x.toNatClampNeg 1000) with
        | false => rw [hx0] at h; cases h
        | true =>
          rw [hx0] at h
          simp only [Bool.and_eq_true, decide_eq_true_eq] at hx0
          have hb1 := Nat.le_of_ble_eq_true hx0.2
          have hst1 : zoks G.length s1 := fun v w => hst v (List.mem_cons_of_mem _ w)
          have go : ∀ (kd : Nat) (fty : FieldType) (j : Nat), newarray.typeOf ty = fty → (fty = .int ∨ fty = .char) → defaultValue fty = .int 0 → componentBytes fty ≤ 4 → (Cond.arrayClass fty).before args s = true → va_RA s (cA j) fty → (∀ ad : Nat → Nat, zce ad cA (kd, x.toNatClampNeg, []) = .inl (cA j, x.toNatClampNeg, .inl fun _ => 0)) → zs1 (kd, x.toNatClampNeg, []) = x.toNatClampNeg → G' = G ++ [(kd, x.toNatClampNeg, [])] → st' = .ref G.length :: s1 → pc' = pc + 2 →
              W p l e R s m args below meth c H locs (G.length - g0) (zsz G - z0) Q (F0 m pc ls ((Value.int x :: s1).map (xv ad))) := by
            intro kd fty j e1 e2 e3 e4 e5 e6 e7 e8 e9 e10 e11
            subst e9 e10 e11
            have eG : (G ++ [(kd, x.toNatClampNeg, ([] : List Value))]).length = G.length + 1 := by simp
            have eZ := zsz_app G (kd, x.toNatClampNeg, [])
            rw [e8] at eZ
            refine va_newa (a0 := (x.toNatClampNeg, .inl fun _ => 0)) hx hb (by rw [e1]; exact e5) e1 hK hP hD hS hA (fun c0 => by rw [e3]; rfl) hx0.1 rfl (by
              have := Nat.mul_le_mul hb1 e4
              omega) (by omega) (by omega) hdg (fun q c0 H1 hK1 hP1 hD1 hS1 => ?_)
            have ec : c0 = cA j := zarr_cls e2 (hK1.2 (xtys cA).length (c0, fty) (by simp)).2 e6
            subst ec
            have ew := zws_new (ad := ad) (cA := cA) (q := q) (e := (kd, x.toNatClampNeg, [])) hok (fun v hv => by cases hv)
            rw [e7] at ew
            rw [show G.length - g0 + 1 = (G ++ [(kd, x.toNatClampNeg, ([] : List Value))]).length - g0 by omega, show zsz G - z0 + x.toNatClampNeg = zsz (G ++ [(kd, x.toNatClampNeg, ([] : List Value))]) - z0 by omega]
            have e12 : Value.ref q :: s1.map (xv ad) = (Value.ref G.length :: s1).map (xv (zad ad G.length q)) := by
              rw [List.map_cons, zmap (zad_lt ad G.length q) hst1]
              show _ = Value.ref (zad ad G.length q G.length) :: _
              rw [zad_at]
            rw [e12]
            exact kk _ H1 locs (zad_lt ad G.length q) ((hok.app (fun v hv => by cases hv)).mono (by omega)) ((hst1.mono (by omega)).cons (Nat.ble_eq_true_of_le (by omega))) (by rw [ew]; exact hP1) (by rw [ew]; exact hD1) hS1
          simp only [cond_true] at h
          split at h
          · cases h
            exact go 1 .int 0 rfl (Or.inl rfl) rfl (by decide) (hts _ (xis_T zoi.2.2.1)) (hK.2 0 _ rfl).2 (fun _ => rfl) rfl rfl rfl rfl
          · cases h
            exact go 2 .char 1 rfl (Or.inr rfl) rfl (by decide) (hts _ (xis_T zoi.2.2.2)) (hK.2 1 _ rfl).2 (fun _ => rfl) rfl rfl rfl rfl
          · cases h
      · cases h
    | new ix =>
      obtain rfl := xbeq (hlen.resolve_left (by simp [xsw]))
      simp only at h
      split at h
      · rename_i q hq
        obtain ⟨q1, q2⟩ := zfind_mem hq
        simp only [Bool.and_eq_true] at q2
        have e1 := xbeq q2.1
        have e2 := xbeq q2.2
        have e3 := List.all_eq_true.mp zNews_ok q q1
        simp only [zNewOk] at e3
        split at e3
        · rename_i C T N hC
          simp only [Bool.and_eq_true] at e3
          obtain ⟨⟨k1, k2⟩, k3⟩ := e3
          rw [e1, e2] at k1
          obtain ⟨hin1, hty, -⟩ := xcl_spec hC
          obtain ⟨hdl, hdv⟩ := zdef_len hC
          cases h
          have eG : (G ++ [(0, q.2.2.1, zdef q.2.2.1)]).length = G.length + 1 := by simp
          have eZ : zsz (G ++ [(0, q.2.2.1, zdef q.2.2.1)]) = zsz G + N := by rw [zsz_app]; exact congrArg _ hdl
          refine va_new (ci := q.2.2.1) (fs := zdef q.2.2.1) (C := C) (T := T) (N := N) hx hb hts hin1 (xTy q.2.2.1) hty hown (hts _ (xis_T k1)) (hts _ (xis_T k2)) (hts _ (xis_T k3)) hK hP hD hS hA hC hdv (by omega) (by omega) hdg (fun qa H1 hP1 hD1 hS1 => ?_)
          have ew := zws_new (ad := ad) (cA := cA) (q := qa) (e := (0, q.2.2.1, zdef q.2.2.1)) hok (zdef_ok _ _)
          have e7 : zce ad cA (0, q.2.2.1, zdef q.2.2.1) = .inr (q.2.2.1, zdef q.2.2.1) := by
            show Sum.inr (q.2.2.1, (zdef q.2.2.1).map (xv ad)) = _
            rw [zdef_map]
          rw [e7] at ew
          rw [show G.length - g0 + 1 = (G ++ [(0, q.2.2.1, zdef q.2.2.1)]).length - g0 by omega, show zsz G - z0 + N = zsz (G ++ [(0, q.2.2.1, zdef q.2.2.1)]) - z0 by omega]
          have e12 : Value.ref qa :: st.map (xv ad) = (Value.ref G.length :: st).map (xv (zad ad G.length qa)) := by
            rw [List.map_cons, zmap (zad_lt ad G.length qa) hst]
            show _ = Value.ref (zad ad G.length qa G.length) :: _
            rw [zad_at]
          rw [e12]
          exact kk _ H1 locs (zad_lt ad G.length qa) ((hok.app (zdef_ok _ _)).mono (by omega)) ((hst.mono (by omega)).cons (Nat.ble_eq_true_of_le (by omega))) (by rw [ew]; exact hP1) (by rw [ew]; exact hD1) hS1
        · cases e3
      · cases h
    | putfield ix =>
      obtain rfl := xbeq (hlen.resolve_left (by simp [xsw]))
      simp only [zput] at h
      split at h
      · rename_i v x s1
        split at h
        · rename_i cj fs hG
          cases hb0 : (Nat.beq a cj && Nat.blt b fs.length && zfit (xTy a b) v && decide ((xCl[a]?).map (fun q => q.1) = some (xO mid))) with
          | false => rw [hb0] at h; cases h
          | true =>
            rw [hb0] at h
            simp only [Bool.and_eq_true, decide_eq_true_eq] at hb0
            obtain ⟨⟨⟨h1, h2⟩, h3⟩, h4⟩ := hb0
            obtain rfl := xbeq h1
            have hbl := xblt h2
            cases h
            simp only at hlink
            split at hlink
            · rename_i C T N hC
              simp only [Bool.and_eq_true, decide_eq_true_eq] at hlink
              obtain ⟨⟨g1, g2⟩, g3⟩ := hlink
              obtain ⟨hin1, hty, hnm⟩ := xcl_spec hC
              have hCO : C = xO mid := by
                rw [hC] at h4
                exact Option.some.inj h4
              obtain ⟨hn, hfit2⟩ := zfit_ok ad h3
              have hv : zvk G.length v = true := hst _ List.mem_cons_self
              have hst1 : zoks G.length st' := fun w z => hst w (List.mem_cons_of_mem _ (List.mem_cons_of_mem _ z))
              have hxl : x < G.length := (List.getElem?_eq_some_iff.mp hG).1
              have eZ : zsz (G.set x (0, a, fs.set b v)) = zsz G := zsz_set G x _ _ hG (by simp [zs1])
              have eL : (G.set x (0, a, fs.set b v)).length = G.length := List.length_set
              have hat : (zws ad cA G 0)[x]? = some (ad x, .inr (a, fs.map (xv ad))) := zws_at hG
              have hok2 : zok G.length (G.set x (0, a, fs.set b v)) := by
                intro e he v' hv'
                rcases List.mem_or_eq_of_mem_set he with q | q
                · exact hok e q v' hv'
                · subst q
                  rcases List.mem_or_eq_of_mem_set hv' with q | q
                  · exact hok _ (List.mem_of_getElem? hG) v' q
                  · subst q
                    exact hv
              have ew : (zws ad cA G 0).set x (ad x, .inr (a, (fs.map (xv ad)).set b (xv ad v))) = zws ad cA (G.set x (0, a, fs.set b v)) 0 := by
                rw [← zws_set]
                show _ = (zws ad cA G 0).set x (ad x, .inr (a, (fs.set b v).map (xv ad)))
                rw [List.map_set]
              have fin : ∀ (H1 : Heap) (locs1 : List Loc), va_P D xCl ((zws ad cA G 0).set x (ad x, .inr (a, (fs.map (xv ad)).set b (xv ad v)))) H1 → va_D A ((zws ad cA G 0).set x (ad x, .inr (a, (fs.map (xv ad)).set b (xv ad v)))) → va_S A H0 H1 locs1 → W p l e R s m args below meth c H1 locs1 (G.length - g0) (zsz G - z0) Q (F0 m (pc + 3) ls (st'.map (xv ad))) := by
                intro H1 locs1 hP1 hD1 hS1
                rw [ew] at hP1 hD1
                have := kk ad H1 locs1 (fun _ _ => rfl) (by rw [eL]; exact hok2) (by rw [eL]; exact hst1) hP1 hD1 hS1
                rw [eL, eZ] at this
                exact this
              cases hfin : (T b).2.2.2 with
              | true => exact va_putF (D := D) (ci := a) (C := C) (T := T) (N := N) (fs := fs.map (xv ad)) (ty := xTy a b) (v := xv ad v) hx hb hts hin1 (xTy a) hty hnm hown hK hP hD hS x hat hC b (xblt g1) (hts _ (xis_T g3)) (fun z hz => by rw [g2] at hz; exact hz) hfin hin (g2.trans hCO) (hty b (xblt g1)) hn hfit2 (by rw [List.length_map]; exact hbl) hdg fin
              | false => exact va_put (D := D) (ci := a) (C := C) (T := T) (N := N) (fs := fs.map (xv ad)) (ty := xTy a b) (v := xv ad v) hx hb hts hin1 (xTy a) hty hnm hown hK hP hD hS x hat hC b (xblt g1) (hts _ (xis_T g3)) (fun z hz => by rw [g2] at hz; exact hz) hfin (hty b (xblt g1)) hn hfit2 (by rw [List.length_map]; exact hbl) hdg fin
            · cases hlink
        · cases h
      · cases h
    | _ => cases h
end ZN
