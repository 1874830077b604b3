/-! the class's constructor: what it makes, then the first text, letter by letter, then the house of it -/
def zPreC (D : va_G) (q0 : Nat) (cA : Nat → ClassId) (kA vA : Nat → Nat) (sz : Nat) : State → Prop := fun U =>
  zPre D (fun _ => q0) cA zC0 sz U ∧ zJ kA vA (va_A (zws (fun _ => q0) cA zC0 0) sz) U U.heap ∧ vk_R "PushSaidDoor" 89 "r3;d0,1,0,1;d1,2,1,2;s0,0,9;s1,0,6;p0,0;p2,1;" (kA 0) U
theorem zpreC_blind {D : va_G} {q0 : Nat} {cA : Nat → ClassId} {kA vA : Nat → Nat} {sz : Nat} {as : List Value} : FrameBlind (va_Pc as (zPreC D q0 cA kA vA sz)) := by
  intro a U g mk q
  obtain ⟨e, q1, q2, q3⟩ := q
  have h1 := zpre_blind (as := as) a U g mk ⟨e, q1⟩
  exact ⟨e, h1.2, zJ.moved (u := U) (U := U.calling g mk a) (Vm.Alike.refl U.vm) q2, vk_R.same (u := U) (U := U.calling g mk a) rfl q3⟩
theorem zkeep {D : va_G} {ws : va_W} {H H1 : Heap} (hP : va_P D xCl ws H) (hk : ∀ q : Nat, q < H.size → ¬ va_A [] H.size q → H1[q]? = H[q]?) : va_P D xCl ws H1 := hP.kept (fun k q hq => hk q.1 ((hP k q hq).lt) (fun z => absurd ((hP k q hq).lt) (Nat.not_lt.mpr (zJA (A := fun q => H.size ≤ q) (fun _ h => h) _ z))))
theorem zctor : xF 69 + 1 ≤ 8 ∧ 8 + (xL 69 + 11) + 40 * xF 69 ≤ 320 ∧ xmini 69 = false ∧ xSt 69 = false ∧ xN 69 = 1 ∧ xL 69 = 2 ∧ xI 69 = 6 ∧ xRt 96 = none ∧ decode (xB 96) 146 = .ok (.ldc 89, 2) ∧ decode (xB 96) 148 = .ok (.invokevirtual 91, 3) ∧ decode (xB 96) 158 = .ok (.ldc 89, 2) ∧ decode (xB 96) 160 = .ok (.iload_n 1, 1) ∧ decode (xB 96) 161 = .ok (.invokevirtual 97, 3) ∧ decode (xB 96) 164 = .ok (.invokevirtual 101, 3) := by decide +kernel
theorem zctor_w : Jvm.Cond.methodLink "PushSaidDoor" 101 (xY 69) ∈ xT := xis_T (c := 2073) (by decide +kernel)
section XN1
variable {p : Program} {l : Launch} {e : Env} {R : Room} {s : State} {m : MethodId} {args : Array Value} {below : List Frame} {meth : Method} {c : Code} {H H0 : Heap} {locs : List Loc} {cells slots : Nat} {Q : State → Prop}
variable {ad : Nat → Nat} {cA : Nat → ClassId} {D : va_G} {A : Nat → Prop} {mid pc pc' : Nat} {ls : Array Slot} {S : xSh} {M M' : xM} {L L' st st' : List Value}
/-- one plain step of the small machine is one of the real one -/
theorem xnext1 (C : xCtx p R s m args meth c mid D cA) (hm : mid < 204) (h : xstep S mid pc L st M = some (.inl (pc', L', st', M')))
    (hP : va_P D xCl (xws ad cA M S 0) H) (hD : va_D A (xws ad cA M S 0)) (hS : va_S A H0 H locs) (hc : cells ≤ R.cells) (hs : slots ≤ R.slots) (hl : xLH ad ls (xL mid) L)
    (kk : ∀ (H1 : Heap) (locs1 : List Loc) (ls1 : Array Slot), va_P D xCl (xws ad cA M' S 0) H1 → va_D A (xws ad cA M' S 0) → va_S A H0 H1 locs1 → xLH ad ls1 (xL mid) L' → W p l e R s m args below meth c H1 locs1 cells slots Q (F0 m pc' ls1 (st'.map (xv ad)))) :
    W p l e R s m args below meth c H locs cells slots Q (F0 m pc ls (st.map (xv ad))) := by
  simp only [xstep] at h
  split at h
  · rename_i i len a b cc k he
    exact xnext C hm he h hP hD hS hc hs hl kk
  · cases h
end XN1
theorem zst1 (M : xM) : xstep xSC 96 144 [.ref 0, .null] [.int 0] M = some (.inl (145, [.ref 0, .int (nI 0)], [], M)) := by rfl
theorem zst2 (i : Int32) (M : xM) : xstep xSC 96 145 [.ref 0, .int i] [] M = some (.inl (146, [.ref 0, .int i], [.int i], M)) := by rfl
theorem zst3 {i : Nat} (hi : i < 45) (M : xM) : xstep xSC 96 151 [.ref 0, .int (nI i)] [.int (nI 45), .int (nI i)] M = some (.inl (154, [.ref 0, .int (nI i)], [], M)) := by
  show xbr (decide (nI 45 ≤ nI i)) _ _ _ _ _ = _
  rw [decide_eq_false (fun h => absurd (nI_lt hi (by decide)) (Int32.not_lt.mpr h))]
  rfl
theorem zst4 (M : xM) : xstep xSC 96 151 [.ref 0, .int (nI 45)] [.int (nI 45), .int (nI 45)] M = some (.inl (173, [.ref 0, .int (nI 45)], [], M)) := by rfl
theorem zst5 (i : Int32) (M : xM) : xstep xSC 96 154 [.ref 0, .int i] [] M = some (.inl (155, [.ref 0, .int i], [.ref 0], M)) := by rfl
theorem zst6 (i : Int32) (M : xM) : xstep xSC 96 155 [.ref 0, .int i] [.ref 0] M = some (.inl (158, [.ref 0, .int i], [.ref 1], M)) := by rfl
theorem zst7 (i : Nat) (M : xM) : xstep xSC 96 167 [.ref 0, .int (nI i)] [] M = some (.inl (170, [.ref 0, .int (nI (i + 1))], [], M)) := by
  have e : nI i + Int32.ofInt 1 = nI (i + 1) := by rw [← nI_add]; rfl
  rw [← e]
  rfl
theorem zst8 (i : Int32) (M : xM) : xstep xSC 96 170 [.ref 0, .int i] [] M = some (.inl (145, [.ref 0, .int i], [], M)) := by rfl
set_option maxHeartbeats 8000000 in
theorem cC_init (l : Launch) (D : va_G) (cA : Nat → ClassId) (kA vA : Nat → Nat) (q0 sz : Nat) :
    Met l (xY 96) (xWs 96) (zRm2 (zGC.length - 1) (zsz zGC - zsz zC0)) (va_Pc [.ref q0] (zPreC D q0 cA kA vA sz)) (va_Qv (fun ad : Nat → Nat => ad 0 = q0) (fun ad => xPost D ad cA xSC zCM (va_A (zws (fun _ => q0) cA zC0 0) sz)) (va_A (zws (fun _ => q0) cA zC0 0) sz)) (zGC.length - 1) (zsz zGC - zsz zC0) (va_A (zws (fun _ => q0) cA zC0 0) sz) := by
  obtain ⟨h1, h2, h3, h4, h5, h6, h7, h8, h9⟩ := zmk_spec zmk2.2
  obtain ⟨-, f1, -, f3⟩ := zx2
  obtain ⟨t1, t2, t3, t4, t5, t6, t7, t8, d146, d148, d158, d160, d161, d164⟩ := zctor
  refine Met.ofW (cc := xB 96) (maxL := xL 96) (ret := xRt 96) h4 rfl ?_
  intro p e s m args below meth c s₁ B hml hv
  obtain ⟨rfl, ⟨rfl, hP, hK, hD0, hN⟩, hJ, hR⟩ := hv
  have hts0 := atoms_spec (ws := xWs 96) B.pre
  have hts : ∀ w ∈ xT, w.before #[.ref q0] s = true := fun w hw => hts0 w (List.mem_cons_of_mem _ hw)
  have hown : s.vm.findClass (xY 96).cls = some m.cls := findClass_of_methodNamed B.named
  have hin : meth.name = "<init>" := (name_of_methodNamed B.named B.method).1.trans h5
  have hl := lv_entry ([.ref q0]) (n := xL 96) (by rw [f3]; exact Nat.le_of_ble_eq_true rfl)
  rw [lg_entry_eq]
  generalize (lg_sl ([.ref q0]) ++ List.replicate (xL 96 - (lg_sl ([.ref q0])).length) Slot.unset).toArray = ls at hl ⊢
  have hl0 : ls[0]? = some (.val (.ref q0)) := hl.2.2 _ List.mem_cons_self
  have hF : (headSpec (xWs 96) (zRm2 (zGC.length - 1) (zsz zGC - zsz zC0))).room = zRm2 (zGC.length - 1) (zsz zGC - zsz zC0) := rfl
  rw [hF]
  have key := zsound 400 3 96 0 0 zC0 [] (by decide) (zok1 9) (fun v w => by cases w) (by decide) l (fun _ => q0) cA D (va_A (zws (fun _ => q0) cA zC0 0) s.heap.size) p e (zRm2 (zGC.length - 1) (zsz zGC - zsz zC0)) s m #[.ref q0] below meth c s.heap [] (xL 96) 1 (zsz zC0) ls
    (MQ below (va_Qv (fun ad : Nat → Nat => ad 0 = q0) (fun ad => xPost D ad cA xSC zCM (va_A (zws (fun _ => q0) cA zC0 0) s.heap.size)) (va_A (zws (fun _ => q0) cA zC0 0) s.heap.size)) #[.ref q0] s (zGC.length - 1) (zsz zGC - zsz zC0) (va_A (zws (fun _ => q0) cA zC0 0) s.heap.size))
    ⟨B.exec, B.bytes, hml, hown, hts, hin, by show 4 ≤ 8; decide, by show 80 ≤ 320; decide, hK, hN⟩ hP hD0.self va_S.rf (fun q hq => Or.inr hq) hl.1 hl0 (Nat.le_refl _) (Nat.le_refl _)
  have zr : zrun 400 3 96 0 0 zC0 [] = (144, zGC, [.int 0]) := zrC
  rw [zr, Nat.sub_self, show zC0.length - 1 = 0 from rfl] at key
  refine key (Nat.le_refl _) (Nat.le_refl _) (fun ad' H1 locs1 ha _ _ hP1 hD1 hS1 => ?_)
  have ha0 : ad' 0 = q0 := ha 0 (by decide)
  simp only [zGC_w] at hP1 hD1
  have hA : ∀ q, s.heap.size ≤ q → va_A (zws (fun _ => q0) cA zC0 0) s.heap.size q := fun q hq => Or.inr hq
  have hx := B.exec
  have hb := B.bytes
  have C : xCtx p (zRm2 (zGC.length - 1) (zsz zGC - zsz zC0)) s m #[.ref q0] meth c 96 D cA := ⟨B.exec, B.bytes, hml, hown, hts, B.returns, B.notSynchronized, f1, by show 40 * xF 96 ≤ 320; omega, hK, hN.x⟩
  have hl1 : xLH ad' ls (xL 96) [.ref 0, .null] := ⟨hl.1, hl.2.1, f3.symm, fun i v hi hn => by
    match i, hi with
    | 0, hi =>
      cases hi
      show ls[0]? = some (.val (.ref (ad' 0)))
      rw [ha0]
      exact hl0
    | 1, hi =>
      cases hi
      exact absurd rfl hn
    | i + 2, hi => cases hi⟩
  have loop : ∀ (k i : Nat), i + k = 45 → ∀ (H : Heap) (locs : List Loc) (ls : Array Slot), va_P D xCl (xws ad' cA (zapp i) xSC 0) H → va_D (va_A (zws (fun _ => q0) cA zC0 0) s.heap.size) (xws ad' cA (zapp i) xSC 0) → va_S (va_A (zws (fun _ => q0) cA zC0 0) s.heap.size) s.heap H locs → xLH ad' ls (xL 96) [.ref 0, .int (nI i)] →
      W p l e (zRm2 (zGC.length - 1) (zsz zGC - zsz zC0)) s m #[.ref q0] below meth c H locs (zGC.length - 1) (zsz zGC - zsz zC0) (MQ below (va_Qv (fun ad : Nat → Nat => ad 0 = q0) (fun ad => xPost D ad cA xSC zCM (va_A (zws (fun _ => q0) cA zC0 0) s.heap.size)) (va_A (zws (fun _ => q0) cA zC0 0) s.heap.size)) #[.ref q0] s (zGC.length - 1) (zsz zGC - zsz zC0) (va_A (zws (fun _ => q0) cA zC0 0) s.heap.size)) (F0 m 145 ls []) := by
    intro k
    induction k with
    | zero =>
      intro i hi H locs ls hP hD hS hl
      obtain rfl : i = 45 := hi
      refine xnext1 (st := []) C (by decide) (zst2 _ _) hP hD hS (Nat.le_refl _) (Nat.le_refl _) hl (fun H locs ls hP hD hS hl => ?_)
      refine va_ldcS hx hb hown hR d146 ?_
      have hAH : ∀ q, H.size ≤ q → va_A (zws (fun _ => q0) cA zC0 0) s.heap.size q := fun q hq => hA q (Nat.le_trans hS.1 hq)
      have hp : PreV s H "java/lang/String" (kA 0) (va_Pc [.ref (kA 0)] (zJp kA vA H.size)) [] := ⟨zJ_blind, vk_recv hJ.1 (by decide) hS, fun U hU hW => ⟨rfl, hJ.pre hS hAH hU hW⟩⟩
      have hrun := va_runV (e := e) (below := below) (meth := meth) (locs := locs) (cells := zGC.length - 1) (slots := zsz zGC - zsz zC0) (As := []) (rest := [.int (nI 45)]) ⟨hx, hb, hml, hown, hts⟩ (J_len l kA vA H.size) (cwV 0 hts zJg_len rfl rfl rfl ⟨rfl, by decide +kernel, by decide +kernel, zJn.1.2.2.1⟩ ⟨by show 1 + 1 ≤ 8; decide, by show 8 + (1 + 11) + 40 * 1 ≤ 320; decide⟩) hp (g := F0 m 148 ls [.ref (kA 0), .int (nI 45)]) (R := zRm2 (zGC.length - 1) (zsz zGC - zsz zC0)) rfl rfl hl.1 rfl (lv_room (by decide)) d148 ⟨Nat.le_refl _, Nat.le_refl _⟩
      refine va_calli hrun hS (fun q _ z => zJA hAH q z) (zJA hAH) (fun r u t H2 locs2 ht hvm hw hB hz1 hk1 hS2 => ?_)
      subst hw
      refine xnext1 (st := [.int (nI 45), .int (nI 45)]) C (by decide) (zst4 _) (zkeep hP hk1) hD hS2 (Nat.le_refl _) (Nat.le_refl _) hl (fun H locs ls hP hD hS hl => ?_)
      exact xsound 100000 xSC 96 173 [.ref 0, .int 45] [] (zapp 45) none zCM zrunC_ok (by decide) l ad' cA D _ p e _ s m _ below meth c H locs _ _ ls _ _ C hP hD hS (Nat.le_refl _) (Nat.le_refl _) hl hA (fun q hq => hq) (fun t locs3 hW hP3 hD3 hS3 => ⟨⟨ad', rfl, ha0, hP3, va_K.moved hW.alike hK, hD3⟩, hS3.F rfl⟩)
    | succ k ih =>
      intro i hi H locs ls hP hD hS hl
      have hi45 : i < 45 := by omega
      refine xnext1 (st := []) C (by decide) (zst2 _ _) hP hD hS (Nat.le_refl _) (Nat.le_refl _) hl (fun H locs ls hP hD hS hl => ?_)
      refine va_ldcS hx hb hown hR d146 ?_
      have hAH : ∀ q, H.size ≤ q → va_A (zws (fun _ => q0) cA zC0 0) s.heap.size q := fun q hq => hA q (Nat.le_trans hS.1 hq)
      have hp : PreV s H "java/lang/String" (kA 0) (va_Pc [.ref (kA 0)] (zJp kA vA H.size)) [] := ⟨zJ_blind, vk_recv hJ.1 (by decide) hS, fun U hU hW => ⟨rfl, hJ.pre hS hAH hU hW⟩⟩
      have hrun := va_runV (e := e) (below := below) (meth := meth) (locs := locs) (cells := zGC.length - 1) (slots := zsz zGC - zsz zC0) (As := []) (rest := [.int (nI i)]) ⟨hx, hb, hml, hown, hts⟩ (J_len l kA vA H.size) (cwV 0 hts zJg_len rfl rfl rfl ⟨rfl, by decide +kernel, by decide +kernel, zJn.1.2.2.1⟩ ⟨by show 1 + 1 ≤ 8; decide, by show 8 + (1 + 11) + 40 * 1 ≤ 320; decide⟩) hp (g := F0 m 148 ls [.ref (kA 0), .int (nI i)]) (R := zRm2 (zGC.length - 1) (zsz zGC - zsz zC0)) rfl rfl hl.1 rfl (lv_room (Nat.le_of_ble_eq_true rfl)) d148 ⟨Nat.le_refl _, Nat.le_refl _⟩
      refine va_calli hrun hS (fun q _ z => zJA hAH q z) (zJA hAH) (fun r u t H2 locs2 ht hvm hw hB hz1 hk1 hS2 => ?_)
      subst hw
      refine xnext1 (st := [.int (nI 45), .int (nI i)]) C (by decide) (zst3 hi45 _) (zkeep hP hk1) hD hS2 (Nat.le_refl _) (Nat.le_refl _) hl (fun H locs ls hP hD hS hl => ?_)
      refine xnext1 (st := []) C (by decide) (zst5 _ _) hP hD hS (Nat.le_refl _) (Nat.le_refl _) hl (fun H locs ls hP hD hS hl => ?_)
      refine xnext1 (st := [.ref 0]) C (by decide) (zst6 _ _) hP hD hS (Nat.le_refl _) (Nat.le_refl _) hl (fun H locs ls hP hD hS hl => ?_)
      refine va_ldcS hx hb hown hR d158 ?_
      refine lv_iload_n (i := 1) (x := nI i) hx hb d160 rfl (hl.2.2.2 1 (.int (nI i)) rfl (by simp)) ?_
      have hAH : ∀ q, H.size ≤ q → va_A (zws (fun _ => q0) cA zC0 0) s.heap.size q := fun q hq => hA q (Nat.le_trans hS.1 hq)
      have hp : PreV s H "java/lang/String" (kA 0) (va_Pc [.ref (kA 0), .int (nI i)] (zJp kA vA H.size)) [.int (nI i)] := ⟨zJ_blind, vk_recv hJ.1 (by decide) hS, fun U hU hW => ⟨rfl, hJ.pre hS hAH hU hW⟩⟩
      have hrun := va_runV (e := e) (below := below) (meth := meth) (locs := locs) (cells := zGC.length - 1) (slots := zsz zGC - zsz zC0) (As := [.int (nI i)]) (rest := [.ref (ad' 1)]) ⟨hx, hb, hml, hown, hts⟩ (J_chr l kA vA H.size hi45) (cwV 1 hts zJg_chr rfl rfl rfl ⟨rfl, by decide +kernel, by decide +kernel, zJn.1.2.2.2⟩ ⟨by show 3 + 1 ≤ 8; decide, by show 8 + (2 + 11) + 40 * 3 ≤ 320; decide⟩) hp (g := F0 m 161 ls [.int (nI i), .ref (kA 0), .ref (ad' 1)]) (R := zRm2 (zGC.length - 1) (zsz zGC - zsz zC0)) rfl rfl hl.1 rfl (lv_room (Nat.le_of_ble_eq_true rfl)) d161 ⟨Nat.le_refl _, Nat.le_refl _⟩
      refine va_calli hrun hS (fun q _ z => zJA hAH q z) (zJA hAH) (fun r u t H2 locs2 ht hvm hw hB hz1 hk1 hS2 => ?_)
      subst hw
      rw [zTb_at hi45]
      refine xcallW (n := 60) (mid := 69) (a0 := 1) (is := [Int32.ofNat (zTx.getD i 0)]) (v := none) (rest := []) (wr := []) (S := xSC) (nL := xL 96) (M' := zapp (i + 1)) (by rw [t6]; exact zapp_step hi45) (by decide) t3 (by rw [t6]; exact Nat.le_refl 2) t4 (by rw [t7]; rfl) t5 hx hb hml hown hts zctor_w d164 t1 t2 (Nat.le_refl _) (Nat.le_refl _) (by decide) hK hN.x (zkeep hP hk1) hD (fun k q hq => by cases k <;> cases hq) (fun k q hq => by cases k <;> cases hq) hS2 hA hl.1 (fun H locs hP hD _ hS => ?_)
      refine xnext1 (st := []) C (by decide) (zst7 _ _) hP hD hS (Nat.le_refl _) (Nat.le_refl _) hl (fun H locs ls hP hD hS hl => ?_)
      refine xnext1 (st := []) C (by decide) (zst8 _ _) hP hD hS (Nat.le_refl _) (Nat.le_refl _) hl (fun H locs ls hP hD hS hl => ?_)
      exact ih (i + 1) (by omega) H locs ls hP hD hS hl
  refine xnext1 (st := [.int 0]) C (by decide) (zst1 _) hP1 hD1 hS1 (Nat.le_refl _) (Nat.le_refl _) hl1 (fun H locs ls hP hD hS hl => ?_)
  exact loop 45 0 rfl H locs ls hP hD hS hl
