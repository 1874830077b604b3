/-! the start: what the tables and the premises say, both objects made, then the loop -/
theorem ztb {c : Nat} {w : Jvm.Cond} (h : (xnth xtabs (c / 1000) [])[c % 1000]? = some w) : w ∈ lw_tbl := xtabs_in _ _ (List.mem_of_getElem? h)
def zNKp : List Nat := [2127, 1224, 1035, 1194, 1029, 1094, 1097, 1114, 1134, 1162, 1189, 1219, 2007]
theorem zNK_ok : (List.range 13).all (fun j => match zNK[j]?, zNKp[j]? with
    | some q, some c => decide ((xnth xtabs (c / 1000) [])[c % 1000]? = some (.methodLinkNest q.1 q.2.1 q.2.2 "PushSaidDoor"))
    | _, _ => false) = true := by decide +kernel
theorem zNK_len : zNK.length = 13 := rfl
theorem zN_of {args : Array Value} {s : State} (hts : ∀ w ∈ lw_tbl, w.before args s = true) : zN s := by
  intro q hq
  obtain ⟨j, hj⟩ := List.getElem?_of_mem hq
  have hl : j < 13 := by
    rw [← zNK_len]
    exact (List.getElem?_eq_some_iff.mp hj).1
  have h1 := List.all_eq_true.mp zNK_ok j (List.mem_range.mpr hl)
  rw [hj] at h1
  split at h1
  · rename_i q1 c hq1 hc
    cases hq1
    exact va_Nw.of rfl (hts _ (ztb (of_decide_eq_true h1)))
  · cases h1
def zInst : List Nat := [1096, 2006, 1113, 1034, 1161, 1218, 1028, 1133, 1188, 1020, 4202]
theorem zInst_ok : (List.range 11).all (fun k => match xCl[k]?, zInst[k]? with
    | some q, some c => xis c (.instantiable q.1 q.2.2)
    | _, _ => false) = true := by decide +kernel
theorem zD_of {args : Array Value} {s : State} (hts : ∀ w ∈ xT, w.before args s = true) : ∃ D : va_G, ∀ (k : Nat) (q : vw_C), xCl[k]? = some q → u_Kn s q.1 q.2.1 q.2.2 (D.1 k) (D.2 k) := by
  have h0 : ∀ k : Nat, ∃ z : ClassId × (Nat → Nat), ∀ q : vw_C, xCl[k]? = some q → u_Kn s q.1 q.2.1 q.2.2 z.1 z.2 := by
    intro k
    by_cases hk : k < 11
    · have h1 := List.all_eq_true.mp zInst_ok k (List.mem_range.mpr hk)
      split at h1
      · rename_i q c hq hc
        obtain ⟨R, T, N⟩ := q
        obtain ⟨hin, -, -⟩ := xcl_spec hq
        obtain ⟨cC, iS, hKn⟩ := u_known hts hin (hts _ (xis_T h1))
        refine ⟨(cC, iS), fun q' hq' => ?_⟩
        rw [hq] at hq'
        cases hq'
        exact hKn
      · cases h1
    · refine ⟨(0, fun _ => 0), fun q hq => ?_⟩
      have : k < 11 := (List.getElem?_eq_some_iff.mp hq).1
      exact absurd this hk
  obtain ⟨f, hf⟩ := Classical.axiomOfChoice h0
  exact ⟨(fun k => (f k).1, fun k => (f k).2), hf⟩
theorem zty {args : Array Value} {s : State} {ty : FieldType} (hty : ty = .int ∨ ty = .char) (h : (Jvm.Cond.arrayClass ty).before args s = true) : ∃ cA : ClassId, ArrOfT s cA ty ∧ va_RA s cA ty := by
  obtain ⟨cA, kA, comp, h1, h2, h3⟩ := Cond.arrayClass_spec h
  refine ⟨cA, fun n z => ⟨fun k h => (by cases h), kA, h2, comp, h3⟩, ?_⟩
  rcases hty with rfl | rfl
  · exact h1
  · exact h1
theorem zK_of {args : Array Value} {s : State} (hts : ∀ w ∈ xT, w.before args s = true) : ∃ (D : va_G) (cA : Nat → ClassId), va_K D xCl (xtys cA) s := by
  obtain ⟨D, hD⟩ := zD_of hts
  obtain ⟨c0, a0, r0⟩ := zty (Or.inl rfl) (hts _ (xis_T zoi.2.2.1))
  obtain ⟨c1, a1, r1⟩ := zty (Or.inr rfl) (hts _ (xis_T zoi.2.2.2))
  refine ⟨D, fun k => if k = 0 then c0 else c1, hD, fun k q hq => ?_⟩
  match k, hq with
  | 0, hq =>
    cases hq
    exact ⟨a0, r0⟩
  | 1, hq =>
    cases hq
    exact ⟨a1, r1⟩
  | k + 2, hq => cases hq
def zSt : Jvm.Term := .string "PushSaidDoor" 89
def zVl : Jvm.Term := .field zSt "java/lang/String" "value" "[B"
def zPr : List Jvm.Cond := flatC (Jvm.Cond.and given_1 narrow_1)
theorem znar_el : (List.range 45).all (fun j => zPr.any (fun w => decide (w = Jvm.Cond.eq (.elem zVl (.int (Int32.ofNat j))) (.int (zTb.getD j 0))))) = true := by decide +kernel
def zPin (w : Jvm.Cond) : Bool := zPr.any (fun u => decide (u = w))
theorem zPin_ok {w : Jvm.Cond} (h : zPin w = true) : w ∈ zPr := by
  obtain ⟨u, h1, h2⟩ := List.any_eq_true.mp h
  rw [← of_decide_eq_true h2]
  exact h1
theorem znar : zPin (.exactly zSt "java/lang/String") = true ∧ zPin (.eq (.field zSt "java/lang/String" "coder" "B") (.int 0)) = true ∧ zPin (.arrayOf zVl .byte) = true ∧ zPin (.eq (.length zVl) (.int 45)) = true ∧ zPin (.eq (.static "java/lang/String" "COMPACT_STRINGS" "Z") (.int 1)) = true ∧ zPin (.isRef (.static "jdk/internal/util/Preconditions" "SIOOBE_FORMATTER" "Ljava/util/function/BiFunction;")) = true := by decide +kernel
theorem zJ_of {args : Array Value} {s : State} (hts : ∀ w ∈ lw_tbl, w.before args s = true) (hgv : (Jvm.Cond.and given_1 narrow_1).before args s = true) : ∃ kA vA : Nat → Nat, zJ kA vA (zA0 s) s s.heap ∧ vk_R "PushSaidDoor" 89 "r3;d0,1,0,1;d1,2,1,2;s0,0,9;s1,0,6;p0,0;p2,1;" (kA 0) s := by
  have hs0 := flat_of_before _ hgv
  have hs : ∀ w, zPin w = true → w.before args s = true := fun w h => hs0 w (zPin_ok h)
  have hA : ∀ a : Nat, a < s.heap.size → ¬ zA0 s a := fun a ha => Nat.not_le.mpr ha
  obtain ⟨n1, n2, n3, n4, n5, n6⟩ := znar
  obtain ⟨kA, vA, hS, hE⟩ := vk_Sof (args := args) (s := s) (N := 1) (tm := fun _ => zSt) (len := [45]) (byt := [zTb]) (A := zA0 s)
    (fun i hi => by
      obtain rfl : i = 0 := by omega
      decide)
    (fun i hi => hs _ n1) (fun i hi => hs _ n2) (fun i hi => hs _ n3)
    (fun i hi => by
      obtain rfl : i = 0 := by omega
      exact hs _ n4)
    (fun i hi j hj => by
      obtain rfl : i = 0 := by omega
      exact hs _ (zall znar_el j hj))
    (fun i j hi hj hij => absurd (by omega : i = j) hij) hA
  refine ⟨kA, vA, ⟨hS, va_Zof (hts _ (ztb (c := 2034) (by decide +kernel))) (hts _ (xT_tbl _ zJi.1)) (va_eqi (hs _ n5)) hA, va_Zqof (hts _ (ztb (c := 2050) (by decide +kernel))) (hts _ (xT_tbl _ zJi.2.2)) (hs _ n6) hA⟩, ?_⟩
  have hE0 : (Term.string "PushSaidDoor" 89).eval args s none [] s = some (.ref (kA 0)) := hE 0 (by omega)
  have hR0 : (Jvm.Cond.stringRef "PushSaidDoor" 89 "r3;d0,1,0,1;d1,2,1,2;s0,0,9;s1,0,6;p0,0;p2,1;").before args s = true := hts _ (ztb (c := 2024) (by decide +kernel))
  exact vk_R.of hR0 hE0
theorem dL_0 : decode code 0 = .ok (.new 7, 3) := by decide +kernel
theorem dL_3 : decode code 3 = .ok (.dup, 1) := by decide +kernel
theorem dL_4 : decode code 4 = .ok (.invokespecial 9, 3) := by decide +kernel
theorem dL_7 : decode code 7 = .ok (.astore_n 1, 1) := by decide +kernel
theorem dL_8 : decode code 8 = .ok (.new 10, 3) := by decide +kernel
theorem dL_11 : decode code 11 = .ok (.dup, 1) := by decide +kernel
theorem dL_12 : decode code 12 = .ok (.invokespecial 12, 3) := by decide +kernel
theorem dL_15 : decode code 15 = .ok (.astore_n 2, 1) := by decide +kernel
theorem dL_16 : decode code 16 = .ok (.iconst 0, 1) := by decide +kernel
theorem dL_17 : decode code 17 = .ok (.istore_n 3, 1) := by decide +kernel
theorem zw1 : (xis 1019 (.classLink "PushSaidDoorLaw" 7 RX10) = true ∧ xis 1020 (.instantiable RX10 14) = true ∧ xis 1001 (.initialized RX10) = true ∧ xis 1021 (.methodLink "PushSaidDoorLaw" 9 (xY 96)) = true) ∧ xis 4201 (.classLink "PushSaidDoorLaw" 10 RX11) = true ∧ xis 4202 (.instantiable RX11 20) = true ∧ xis 1018 (.initialized RX11) = true ∧ xis 4203 (.methodLink "PushSaidDoorLaw" 12 (xY 136)) = true := by decide +kernel
theorem zw2 : xCl[9]? = some (RX10, TX10, 14) ∧ xCl[10]? = some (RX11, TX11, 20) := ⟨rfl, rfl⟩
theorem zw3 : zsz zGC = 1156 ∧ zsz zGR = 1165 ∧ zGC.length = 45 ∧ zGR.length = 13 ∧ zsz zC0 = 14 ∧ zsz zR0 = 20 := by decide +kernel
theorem zw4 (q : Nat) (cA : Nat → ClassId) (ci : Nat) : zws (fun _ => q) cA [(0, ci, zdef ci)] 0 = [(q, .inr (ci, zdef ci))] := by
  show [(q, Sum.inr (ci, (zdef ci).map (xv fun _ => q)))] = _
  rw [zdef_map]
theorem zxlen (ad : Nat → Nat) (cA : Nat → ClassId) (M : xM) : ∀ (S : xSh) (a : Nat), (xws ad cA M S a).length = S.length
  | [], _ => rfl
  | e :: r, a => by simp [xws, zxlen ad cA M r (a + 1)]
set_option maxHeartbeats 8000000 in
/-- from the entry, for every script of at most 384 ints, the law comes to its end with true -/
theorem whole_start {p : Program} {e : Env} {s : State} {m : MethodId} {below : List Frame} {meth : Method} {c : Code} (l : Launch) (hflags : l.flags = flags0) {b L : Nat} {xs : Nat → Int32} (hL : L ≤ 384) (C0 : lw_At p s m meth c b L xs) : W p l e room_1 s m #[Value.ref b] below meth c s.heap [] 0 0 (lw_Z below #[Value.ref b] s) (entryFrame m ([Value.ref b] : List Value).toArray 4) := by
  obtain ⟨hx, hb, hr, hml, hown, hts, hX, hbl, hlocks, hgv⟩ := id C0
  have htsT : ∀ w ∈ xT, w.before #[Value.ref b] s = true := fun w hw => hts w (xT_tbl w hw)
  obtain ⟨D, cA, hK⟩ := zK_of htsT
  have hN := zN_of hts
  obtain ⟨kA, vA, hJ, hR⟩ := zJ_of hts hgv
  obtain ⟨⟨w1, w2, w3, w4⟩, w5, w6, w7, w8⟩ := zw1
  obtain ⟨u1, u2⟩ := zw2
  obtain ⟨z1, z2, z3, z4, z5, z6⟩ := zw3
  obtain ⟨hinC, htyC, -⟩ := xcl_spec u1
  obtain ⟨-, hdvC⟩ := zdef_len u1
  obtain ⟨hinR, htyR, -⟩ := xcl_spec u2
  obtain ⟨-, hdvR⟩ := zdef_len u2
  obtain ⟨a1, a2, a3, a4, a5, a6, a7, a8, a9⟩ := zmk_spec zmk2.2
  obtain ⟨b1, b2, b3, b4, b5, b6, b7, b8, b9⟩ := zmk_spec zmk2.1
  obtain ⟨-, -, x3, x4⟩ := zx2
  have hA : ∀ q, s.heap.size ≤ q → zA0 s q := fun _ h => h
  have hl := lv_entry ([.ref b]) (n := 4) (Nat.le_of_ble_eq_true rfl)
  rw [lg_entry_eq]
  generalize (lg_sl ([.ref b]) ++ List.replicate (4 - (lg_sl ([.ref b])).length) Slot.unset).toArray = ls at hl ⊢
  have hl : lv_has ls 4 [(0, .ref b)] := hl
  have hP0 : va_P D xCl [] s.heap := fun k q h => by simp at h
  have hD0 : va_D (zA0 s) [] := ⟨fun i j p q h => by simp at h, fun k q h => by simp at h⟩
  refine va_new (ci := 9) (fs := zdef 9) (C := RX10) (T := TX10) (N := 14) hx hb htsT hinC (xTy 9) htyC hown (htsT _ (xis_T w1)) (htsT _ (xis_T w2)) (htsT _ (xis_T w3)) hK hP0 hD0 va_S.rf hA u1 hdvC (by decide) (by decide) dL_0 (fun q0 H hP hD hS => ?_)
  have hP : va_P D xCl (zws (fun _ => q0) cA zC0 0) H := by
    unfold zC0
    rw [zw4]
    exact hP
  have hD : va_D (zA0 s) (zws (fun _ => q0) cA zC0 0) := by
    unfold zC0
    rw [zw4]
    exact hD
  refine lv_dup hx hb dL_3 rfl ?_
  have hFc := xA_free hD hS hA
  have hp : PreS s H (va_Pc [.ref q0] (zPreC D q0 cA kA vA H.size)) (.ref q0 :: []) := ⟨zpreC_blind, fun U hU hW => ⟨rfl, ⟨by rw [hU], by rw [hU]; exact hP, va_K.moved hW.alike hK, hD.weaken (fun _ _ _ _ => trivial), hN.warm hW⟩, by rw [hU]; exact zJ.moved hW.alike ((hJ.kept hS.2.1).narrow hFc), vk_R.warm hW hR⟩⟩
  have cw := cwI (own := "PushSaidDoorLaw") (index := 9) (y := xY 96) (bytes := xB 96) (maxL := xL 96) (ws := xWs 96) (ws' := xT) (rm := zRm2 (zGC.length - 1) (zsz zGC - zsz zC0)) (mc := zGC.length - 1) (ms := zsz zGC - zsz zC0) (R := room_1) 0 htsT (xT_goodIn (xgoodws a1)) (by unfold xWs; rw [a9]) rfl rfl (htsT _ a3) (htsT _ (xis_T w4)) (htsT _ a2) a5 ⟨a7, a8, a6⟩ ⟨by show 8 + 1 ≤ 9; decide, by show 8 + (xL 96 + 11) + 320 ≤ 352; omega⟩
  have hrun := va_runI (e := e) (below := below) (meth := meth) (locs := []) (cells := 1) (slots := 14) (As := []) (rest := [.ref q0]) ⟨hx, hb, hml, hown, htsT⟩ (cC_init l D cA kA vA q0 H.size) cw hp (g := F0 m 4 ls [.ref q0, .ref q0]) rfl rfl hl.1 rfl (lv_room (Nat.le_of_ble_eq_true rfl)) dL_4 ⟨by show 1 + (zGC.length - 1) ≤ 58; omega, by show 14 + (zsz zGC - zsz zC0) ≤ 2321; omega⟩
  refine va_callv hrun hS (fun q _ z => hFc q z) hFc (fun adC t H1 locs1 ht hvm hw hB hz1 hk1 hS1 => ?_)
  subst ht
  obtain ⟨hPC, -, hDC⟩ := hB
  have hDC := hDC.weaken (B := zA0 s) (fun k q _ z => hFc q.1 z)
  refine W.widen (k := 45) (n := 1156) (by omega) (by omega) ?_
  refine lv_astore_n (lv' := [(1, .ref q0), (0, .ref b)]) hx hb dL_7 rfl hl (by decide) rfl (fun ls hl => ?_)
  refine va_new (ci := 10) (fs := zdef 10) (C := RX11) (T := TX11) (N := 20) hx hb htsT hinR (xTy 10) htyR hown (htsT _ (xis_T w5)) (htsT _ (xis_T w6)) (htsT _ (xis_T w7)) hK hPC hDC hS1 hA u2 hdvR (by decide) (by decide) dL_8 (fun q1 H2 hP2 hD2 hS2 => ?_)
  have hPC2 : va_P D xCl (xws adC cA zCM xSC 0) H2 := fun k q hk => hP2 k q (by
    rw [List.getElem?_append_left (List.getElem?_eq_some_iff.mp hk).1]
    exact hk)
  have hlast : (xws adC cA zCM xSC 0 ++ [(q1, Sum.inr (10, zdef 10))])[(xws adC cA zCM xSC 0).length]? = some (q1, Sum.inr (10, zdef 10)) := by simp
  have hne : ∀ (k : Nat) (q : Nat × va_E), (xws adC cA zCM xSC 0)[k]? = some q → q.1 ≠ q1 := by
    intro k q hk he
    have hkl := (List.getElem?_eq_some_iff.mp hk).1
    have := hD2.1 k _ q (q1, Sum.inr (10, zdef 10)) (by rw [List.getElem?_append_left hkl]; exact hk) hlast he
    omega
  have hPR : va_P D xCl (zws (fun _ => q1) cA zR0 0) H2 := by
    unfold zR0
    rw [zw4]
    intro k q hk
    match k, hk with
    | 0, hk =>
      cases hk
      exact hP2 _ _ hlast
    | k + 1, hk => cases hk
  have hDR : va_D (zA0 s) (zws (fun _ => q1) cA zR0 0) := by
    unfold zR0
    rw [zw4]
    refine ⟨fun i j p q hi hj _ => ?_, fun k q hk => ?_⟩
    · match i, j, hi, hj with
      | 0, 0, _, _ => rfl
      | i + 1, _, hi, _ => cases hi
      | 0, j + 1, _, hj => cases hj
    · match k, hk with
      | 0, hk =>
        cases hk
        exact hD2.2 _ _ hlast
      | k + 1, hk => cases hk
  refine lv_dup hx hb dL_11 rfl ?_
  have hFr := xA_free hDR hS2 hA
  have hp2 : PreS s H2 (va_Pc [.ref q1] (zPre D (fun _ => q1) cA zR0 H2.size)) (.ref q1 :: []) := ⟨zpre_blind, fun U hU hW => ⟨rfl, by rw [hU], by rw [hU]; exact hPR, va_K.moved hW.alike hK, hDR.weaken (fun _ _ _ _ => trivial), hN.warm hW⟩⟩
  have cw2 := cwI (own := "PushSaidDoorLaw") (index := 12) (y := xY 136) (bytes := xB 136) (maxL := xL 136) (ws := xWs 136) (ws' := xT) (rm := zRm2 (zGR.length - 1) (zsz zGR - zsz zR0)) (mc := zGR.length - 1) (ms := zsz zGR - zsz zR0) (R := room_1) 0 htsT (xT_goodIn (xgoodws b1)) (by unfold xWs; rw [b9]) rfl rfl (htsT _ b3) (htsT _ (xis_T w8)) (htsT _ b2) b5 ⟨b7, b8, b6⟩ ⟨by show 8 + 1 ≤ 9; decide, by show 8 + (xL 136 + 11) + 320 ≤ 352; omega⟩
  have hrun2 := va_runI (e := e) (below := below) (meth := meth) (locs := locs1) (cells := 46) (slots := 1176) (As := []) (rest := [.ref q1]) ⟨hx, hb, hml, hown, htsT⟩ (cR_init l D cA q1 H2.size) cw2 hp2 (g := F0 m 12 ls [.ref q1, .ref q1]) rfl rfl hl.1 rfl (lv_room (Nat.le_of_ble_eq_true rfl)) dL_12 ⟨by show 46 + (zGR.length - 1) ≤ 58; omega, by show 1176 + (zsz zGR - zsz zR0) ≤ 2321; omega⟩
  refine va_callv hrun2 hS2 (fun q _ z => hFr q z) hFr (fun adR t2 H3 locs3 ht2 hvm2 hw2 hB2 hz2 hk2 hS3 => ?_)
  subst ht2
  obtain ⟨hPR3, -, hDR3⟩ := hB2
  have hout : ∀ (k : Nat) (q : Nat × va_E), (xws adC cA zCM xSC 0)[k]? = some q → ¬ va_A (zws (fun _ => q1) cA zR0 0) H2.size q.1 := by
    intro k q hk z
    rcases z with ⟨j, e', z⟩ | z
    · unfold zR0 at z
      rw [zw4] at z
      match j, z with
      | 0, z =>
        have e1 := congrArg (fun o => o.map (fun (x : Nat × va_E) => x.1)) z
        exact hne k q hk (Option.some.inj e1).symm
      | j + 1, z => cases z
    · exact absurd ((hPC2 k q hk).lt) (by omega)
  have hPC3 := hPC2.kept (fun k q hk => hk2 q.1 ((hPC2 k q hk).lt) (hout k q hk))
  have hdis : ∀ i j, i < 45 → j < 13 → adC i ≠ adR j := by
    intro i j hi hj he
    obtain ⟨ei, hei⟩ : ∃ ei, xSC[i]? = some ei := ⟨xSC[i]'hi, List.getElem?_eq_getElem hi⟩
    obtain ⟨ej, hej⟩ : ∃ ej, xSR[j]? = some ej := ⟨xSR[j]'hj, List.getElem?_eq_getElem hj⟩
    have h1 := hout i _ (xws_at hei)
    have h2 := hDR3.2 j _ (xws_at hej)
    exact h1 (by rw [show (adC i, xce adC cA (zCM i) ei).1 = adR j from he]; exact h2)
  have hDR3 := hDR3.weaken (B := zA0 s) (fun k q _ z => hFr q.1 z)
  refine W.widen (k := 58) (n := 2321) (by omega) (by omega) ?_
  refine lv_astore_n (lv' := [(2, .ref q1), (1, .ref q0), (0, .ref b)]) hx hb dL_15 rfl hl (by decide) rfl (fun ls hl => ?_)
  refine lv_iconst (v := nI 0) hx hb dL_16 rfl ?_
  refine lv_istore_n (lv' := [(3, .int (nI 0)), (2, .ref q1), (1, .ref q0), (0, .ref b)]) hx hb dL_17 rfl hl (by decide) rfl (fun ls hl => ?_)
  rw [← hw, ← hw2] at hl
  exact zloop hL C0 hK hN.x hdis (L + 1) 0 (by omega) (Nat.zero_le L) t2.heap locs3 ls ⟨zS0, zCM, zRM, zWA, zRC, zRR, hPC3, hDC, hPR3, hDR3⟩ hS3 (lv_sub hl [3, 2, 1, 0] rfl)
