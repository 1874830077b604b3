/-! the literal of the first text, and what its methods answer -/
def zTb : List Int32 := zTx.map Int32.ofNat
def yJ_len : MethodName := ⟨"java/lang/String", "length", "()I"⟩
def yJ_chr : MethodName := ⟨"java/lang/String", "charAt", "(I)C"⟩
def yJ_cod : MethodName := ⟨"java/lang/String", "coder", "()B"⟩
def yJ_lat : MethodName := ⟨"java/lang/String", "isLatin1", "()Z"⟩
def yJ_chk : MethodName := ⟨"java/lang/String", "checkIndex", "(II)V"⟩
def yJ_at : MethodName := ⟨"java/lang/StringLatin1", "charAt", "([BI)C"⟩
def yJ_pre : MethodName := ⟨"jdk/internal/util/Preconditions", "checkIndex", "(IILjava/util/function/BiFunction;)I"⟩
def zJ (kA vA : Nat → Nat) (A : Nat → Prop) (U : State) (H : Heap) : Prop := vk_S 1 [45] [zTb] kA vA A U H ∧ va_Z "java/lang/String" "COMPACT_STRINGS" "Z" (.int 1) A U H ∧ va_Zq "jdk/internal/util/Preconditions" "SIOOBE_FORMATTER" "Ljava/util/function/BiFunction;" A U H
theorem zJ.moved {kA vA : Nat → Nat} {A : Nat → Prop} {u U : State} {H : Heap} (hvm : u.vm.Alike U.vm) (h : zJ kA vA A u H) : zJ kA vA A U H := ⟨vk_S.moved hvm h.1, va_Z.moved hvm h.2.1, va_Zq.moved hvm h.2.2⟩
theorem zJ.kept {kA vA : Nat → Nat} {A : Nat → Prop} {U : State} {H H1 : Heap} (h : zJ kA vA A U H) (hq : ∀ a : Nat, a < H.size → ¬ A a → H1[a]? = H[a]?) : zJ kA vA A U H1 := ⟨h.1.kept hq, h.2.1.kept hq, h.2.2.kept hq⟩
theorem zJ.narrow {kA vA : Nat → Nat} {A B : Nat → Prop} {U : State} {H : Heap} (h : zJ kA vA A U H) (hAB : ∀ q, B q → A q) : zJ kA vA B U H := ⟨h.1.narrow hAB, h.2.1.narrow hAB, h.2.2.narrow hAB⟩
theorem zJA {A : Nat → Prop} {n : Nat} (hA : ∀ q, n ≤ q → A q) : ∀ q, va_A [] n q → A q := by
  intro q h
  rcases h with ⟨k, e, z⟩ | h
  · cases k <;> cases z
  · exact hA q h
def zJp (kA vA : Nat → Nat) (sz : Nat) : State → Prop := fun U => U.heap.size = sz ∧ zJ kA vA (va_A [] sz) U U.heap
theorem zJ.pre {kA vA : Nat → Nat} {A : Nat → Prop} {s U : State} {H : Heap} {locs : List Loc} (hJ : zJ kA vA A s s.heap) (hS : va_S A s.heap H locs) (hA : ∀ q, H.size ≤ q → A q) (hU : U.heap = H) (hW : s.WarmedH U.vm) : zJp kA vA H.size U :=
  ⟨by rw [hU], by rw [hU]; exact zJ.moved hW.alike ((hJ.kept hS.2.1).narrow (zJA hA))⟩
theorem zJ_blind {kA vA : Nat → Nat} {sz : Nat} {as : List Value} : FrameBlind (va_Pc as (zJp kA vA sz)) := by
  intro a U g mk q
  obtain ⟨q0, q1, q2⟩ := q
  exact ⟨q0, q1, zJ.moved (u := U) (U := U.calling g mk a) (Vm.Alike.refl U.vm) q2⟩
def zJw (y : MethodName) (b : ByteArray) (n : Nat) (r : Option FieldType) : List Jvm.Cond := Jvm.Cond.code y b n r :: xT
def zJr (f : Nat) : Room := { frames := f, cells := 0, slots := 0, locals := 40 * f }
def zJq (x : Int32) (sz : Nat) : Array Value → State → Outcome → State → Prop := va_Qi (S := Unit) (fun r _ => r = x) (fun _ _ => True) (va_A [] sz)
def zJv (sz : Nat) : Array Value → State → Outcome → State → Prop := va_Qv (S := Unit) (fun _ => True) (fun _ _ => True) (va_A [] sz)
theorem zJmet {l : Launch} {kA vA : Nat → Nat} {sz : Nat} {y : MethodName} {cc : ByteArray} {maxL f : Nat} {ret : Option FieldType} {as : List Value} {Qc : Array Value → State → Outcome → State → Prop} (hy : plainName y.cls = true) (hlen : (lg_sl as).length ≤ maxL)
    (body : ∀ (p : Program) (e : Env) (s : State) (m : MethodId) (below : List Frame) (meth : Method) (c : Code) (ls : Array Slot), p.tables.exec = Jvm.exec → c.code = cc → c.maxLocals = maxL → s.vm.findClass y.cls = some m.cls → (∀ w ∈ xT, w.before as.toArray s = true) → meth.sig.returnType = ret → meth.locks = false → lv_has ls maxL (lv_args 0 as) → zJ kA vA (va_A [] s.heap.size) s s.heap → s.heap.size = sz → W p l e (zJr f) s m as.toArray below meth c s.heap [] 0 0 (MQ below Qc as.toArray s 0 0 (va_A [] s.heap.size)) (F0 m 0 ls [])) :
    Met l y (zJw y cc maxL ret) (zJr f) (va_Pc as (zJp kA vA sz)) Qc 0 0 (va_A [] sz) := by
  refine Met.ofW (cc := cc) (maxL := maxL) (ret := ret) hy rfl ?_
  intro p e s m args below meth c s₁ B hml hv
  obtain ⟨rfl, rfl, hJ⟩ := hv
  have hts0 := atoms_spec (ws := zJw y cc maxL ret) B.pre
  have hown : s.vm.findClass y.cls = some m.cls := findClass_of_methodNamed B.named
  have hl := lv_entry as (n := maxL) hlen
  have hlocks := B.notSynchronized
  rw [lg_entry_eq]
  exact body p e s m below meth c _ B.exec B.bytes hml hown (fun w hw => hts0 w (List.mem_cons_of_mem _ hw)) B.returns hlocks hl hJ rfl
theorem zJgV {own C : String} {ix n : Nat} {y : MethodName} {b : ByteArray} {r : Option FieldType} (h1 : Jvm.Cond.methodLink own ix y ∈ xT) (h2 : Jvm.Cond.instanceMethod y ∈ xT) (h3 : Jvm.Cond.selects C y y ∈ xT) (h4 : Jvm.Cond.initialized C ∈ xT) (h5 : Jvm.Cond.code y b n r ∈ xT) : GoodIn xT (wsV own ix C y (zJw y b n r)) := xT_goodIn (fun w hw => by
  rcases List.mem_append.mp hw with q | q
  · rcases List.mem_cons.mp q with rfl | q
    · exact h1
    · rcases List.mem_cons.mp q with rfl | q
      · exact h2
      · rcases List.mem_cons.mp q with rfl | q
        · exact h3
        · rw [List.mem_singleton.mp q]
          exact h4
  · rcases List.mem_cons.mp q with rfl | q
    · exact h5
    · exact q)
theorem zJgS {own : String} {ix n : Nat} {y : MethodName} {b : ByteArray} {r : Option FieldType} (h1 : Jvm.Cond.methodLink own ix y ∈ xT) (h2 : Jvm.Cond.static y ∈ xT) (h4 : Jvm.Cond.initialized y.cls ∈ xT) (h5 : Jvm.Cond.code y b n r ∈ xT) : GoodIn xT (va_wsS own ix y (zJw y b n r)) := xT_goodIn (fun w hw => by
  rcases List.mem_append.mp hw with q | q
  · rcases List.mem_cons.mp q with rfl | q
    · exact h1
    · rcases List.mem_cons.mp q with rfl | q
      · exact h2
      · rw [List.mem_singleton.mp q]
        exact h4
  · rcases List.mem_cons.mp q with rfl | q
    · exact h5
    · exact q)
theorem zJi : Jvm.Cond.initialized "java/lang/String" ∈ xT ∧ Jvm.Cond.initialized "java/lang/StringLatin1" ∈ xT ∧ Jvm.Cond.initialized "jdk/internal/util/Preconditions" ∈ xT := ⟨xis_T (c := 1011) (by decide +kernel), xis_T (c := 1012) (by decide +kernel), xis_T (c := 1013) (by decide +kernel)⟩
theorem zJf : Jvm.Cond.fieldLink "java/lang/String" 38 "java/lang/String" "COMPACT_STRINGS" "Z" ∈ xT ∧ Jvm.Cond.fieldLink "java/lang/String" 9 "java/lang/String" "value" "[B" ∈ xT ∧ Jvm.Cond.fieldLink "java/lang/String" 15 "java/lang/String" "coder" "B" ∈ xT ∧ Jvm.Cond.fieldLink "java/lang/String" 1053 "jdk/internal/util/Preconditions" "SIOOBE_FORMATTER" "Ljava/util/function/BiFunction;" ∈ xT := ⟨xis_T (c := 2033) (by decide +kernel), xis_T (c := 6072) (by decide +kernel), xis_T (c := 6073) (by decide +kernel), xis_T (c := 2049) (by decide +kernel)⟩
theorem zJg_cod : GoodIn xT (wsV "java/lang/String" 335 "java/lang/String" yJ_cod (zJw yJ_cod prog_15_method_152_code 1 (some .byte))) := zJgV (xis_T (c := 2029) (by decide +kernel)) (xis_T (c := 2030) (by decide +kernel)) (xis_T (c := 2031) (by decide +kernel)) zJi.1 (xis_T (c := 2032) (by decide +kernel))
theorem zJg_lat : GoodIn xT (wsV "java/lang/String" 492 "java/lang/String" yJ_lat (zJw yJ_lat prog_15_method_154_code 1 (some .boolean))) := zJgV (xis_T (c := 2039) (by decide +kernel)) (xis_T (c := 2040) (by decide +kernel)) (xis_T (c := 2041) (by decide +kernel)) zJi.1 (xis_T (c := 2042) (by decide +kernel))
theorem zJg_len : GoodIn xT (wsV "PushSaidDoor" 91 "java/lang/String" yJ_len (zJw yJ_len prog_15_method_54_code 1 (some .int))) := zJgV (xis_T (c := 2025) (by decide +kernel)) (xis_T (c := 2026) (by decide +kernel)) (xis_T (c := 2027) (by decide +kernel)) zJi.1 (xis_T (c := 2028) (by decide +kernel))
theorem zJg_chr : GoodIn xT (wsV "PushSaidDoor" 97 "java/lang/String" yJ_chr (zJw yJ_chr prog_15_method_56_code 2 (some .char))) := zJgV (xis_T (c := 2035) (by decide +kernel)) (xis_T (c := 2036) (by decide +kernel)) (xis_T (c := 2037) (by decide +kernel)) zJi.1 (xis_T (c := 2038) (by decide +kernel))
theorem zJg_at : GoodIn xT (va_wsS "java/lang/String" 495 yJ_at (zJw yJ_at prog_16_method_2_code 2 (some .char))) := zJgS (xis_T (c := 2043) (by decide +kernel)) (xis_T (c := 2044) (by decide +kernel)) zJi.2.1 (xis_T (c := 2045) (by decide +kernel))
theorem zJg_chk : GoodIn xT (va_wsS "java/lang/StringLatin1" 9 yJ_chk (zJw yJ_chk prog_15_method_155_code 2 none)) := zJgS (xis_T (c := 2046) (by decide +kernel)) (xis_T (c := 2047) (by decide +kernel)) zJi.1 (xis_T (c := 2048) (by decide +kernel))
theorem zJg_pre : GoodIn xT (va_wsS "java/lang/String" 1059 yJ_pre (zJw yJ_pre prog_19_method_11_code 3 (some .int))) := zJgS (xis_T (c := 2051) (by decide +kernel)) (xis_T (c := 2052) (by decide +kernel)) zJi.2.2 (xis_T (c := 2053) (by decide +kernel))
theorem zJn : ((parseMethodDescriptor yJ_cod.desc).map (fun d => d.parameters.length) = some 0 ∧ (parseMethodDescriptor yJ_lat.desc).map (fun d => d.parameters.length) = some 0 ∧ (parseMethodDescriptor yJ_len.desc).map (fun d => d.parameters.length) = some 0 ∧ (parseMethodDescriptor yJ_chr.desc).map (fun d => d.parameters.length) = some 1) ∧ (parseMethodDescriptor yJ_at.desc).map (fun d => d.parameters.length) = some 2 ∧ (parseMethodDescriptor yJ_chk.desc).map (fun d => d.parameters.length) = some 2 ∧ (parseMethodDescriptor yJ_pre.desc).map (fun d => d.parameters.length) = some 3 := by decide +kernel
theorem dJ_len_0 : decode prog_15_method_54_code 0 = .ok (.aload_n 0, 1) := by decide +kernel
theorem dJ_len_1 : decode prog_15_method_54_code 1 = .ok (.getfield 9, 3) := by decide +kernel
theorem dJ_len_4 : decode prog_15_method_54_code 4 = .ok (.arraylength, 1) := by decide +kernel
theorem dJ_len_5 : decode prog_15_method_54_code 5 = .ok (.aload_n 0, 1) := by decide +kernel
theorem dJ_len_6 : decode prog_15_method_54_code 6 = .ok (.invokevirtual 335, 3) := by decide +kernel
theorem dJ_len_9 : decode prog_15_method_54_code 9 = .ok (.ishr, 1) := by decide +kernel
theorem dJ_len_10 : decode prog_15_method_54_code 10 = .ok (.ireturn, 1) := by decide +kernel
theorem dJ_chr_0 : decode prog_15_method_56_code 0 = .ok (.aload_n 0, 1) := by decide +kernel
theorem dJ_chr_1 : decode prog_15_method_56_code 1 = .ok (.invokevirtual 492, 3) := by decide +kernel
theorem dJ_chr_4 : decode prog_15_method_56_code 4 = .ok (.ifCond .eq 12, 3) := by decide +kernel
theorem dJ_chr_7 : decode prog_15_method_56_code 7 = .ok (.aload_n 0, 1) := by decide +kernel
theorem dJ_chr_8 : decode prog_15_method_56_code 8 = .ok (.getfield 9, 3) := by decide +kernel
theorem dJ_chr_11 : decode prog_15_method_56_code 11 = .ok (.iload_n 1, 1) := by decide +kernel
theorem dJ_chr_12 : decode prog_15_method_56_code 12 = .ok (.invokestatic 495, 3) := by decide +kernel
theorem dJ_chr_15 : decode prog_15_method_56_code 15 = .ok (.ireturn, 1) := by decide +kernel
theorem dJ_chr_16 : decode prog_15_method_56_code 16 = .ok (.aload_n 0, 1) := by decide +kernel
theorem dJ_chr_17 : decode prog_15_method_56_code 17 = .ok (.getfield 9, 3) := by decide +kernel
theorem dJ_chr_20 : decode prog_15_method_56_code 20 = .ok (.iload_n 1, 1) := by decide +kernel
theorem dJ_chr_21 : decode prog_15_method_56_code 21 = .ok (.invokestatic 498, 3) := by decide +kernel
theorem dJ_chr_24 : decode prog_15_method_56_code 24 = .ok (.ireturn, 1) := by decide +kernel
theorem dJ_cod_0 : decode prog_15_method_152_code 0 = .ok (.getstatic 38, 3) := by decide +kernel
theorem dJ_cod_3 : decode prog_15_method_152_code 3 = .ok (.ifCond .eq 10, 3) := by decide +kernel
theorem dJ_cod_6 : decode prog_15_method_152_code 6 = .ok (.aload_n 0, 1) := by decide +kernel
theorem dJ_cod_7 : decode prog_15_method_152_code 7 = .ok (.getfield 15, 3) := by decide +kernel
theorem dJ_cod_10 : decode prog_15_method_152_code 10 = .ok (.goto 4, 3) := by decide +kernel
theorem dJ_cod_13 : decode prog_15_method_152_code 13 = .ok (.iconst 1, 1) := by decide +kernel
theorem dJ_cod_14 : decode prog_15_method_152_code 14 = .ok (.ireturn, 1) := by decide +kernel
theorem dJ_lat_0 : decode prog_15_method_154_code 0 = .ok (.getstatic 38, 3) := by decide +kernel
theorem dJ_lat_3 : decode prog_15_method_154_code 3 = .ok (.ifCond .eq 14, 3) := by decide +kernel
theorem dJ_lat_6 : decode prog_15_method_154_code 6 = .ok (.aload_n 0, 1) := by decide +kernel
theorem dJ_lat_7 : decode prog_15_method_154_code 7 = .ok (.getfield 15, 3) := by decide +kernel
theorem dJ_lat_10 : decode prog_15_method_154_code 10 = .ok (.ifCond .ne 7, 3) := by decide +kernel
theorem dJ_lat_13 : decode prog_15_method_154_code 13 = .ok (.iconst 1, 1) := by decide +kernel
theorem dJ_lat_14 : decode prog_15_method_154_code 14 = .ok (.goto 4, 3) := by decide +kernel
theorem dJ_lat_17 : decode prog_15_method_154_code 17 = .ok (.iconst 0, 1) := by decide +kernel
theorem dJ_lat_18 : decode prog_15_method_154_code 18 = .ok (.ireturn, 1) := by decide +kernel
theorem dJ_chk_0 : decode prog_15_method_155_code 0 = .ok (.iload_n 0, 1) := by decide +kernel
theorem dJ_chk_1 : decode prog_15_method_155_code 1 = .ok (.iload_n 1, 1) := by decide +kernel
theorem dJ_chk_2 : decode prog_15_method_155_code 2 = .ok (.getstatic 1053, 3) := by decide +kernel
theorem dJ_chk_5 : decode prog_15_method_155_code 5 = .ok (.invokestatic 1059, 3) := by decide +kernel
theorem dJ_chk_8 : decode prog_15_method_155_code 8 = .ok (.pop, 1) := by decide +kernel
theorem dJ_chk_9 : decode prog_15_method_155_code 9 = .ok (.return_, 1) := by decide +kernel
theorem dJ_at_0 : decode prog_16_method_2_code 0 = .ok (.iload_n 1, 1) := by decide +kernel
theorem dJ_at_1 : decode prog_16_method_2_code 1 = .ok (.aload_n 0, 1) := by decide +kernel
theorem dJ_at_2 : decode prog_16_method_2_code 2 = .ok (.arraylength, 1) := by decide +kernel
theorem dJ_at_3 : decode prog_16_method_2_code 3 = .ok (.invokestatic 9, 3) := by decide +kernel
theorem dJ_at_6 : decode prog_16_method_2_code 6 = .ok (.aload_n 0, 1) := by decide +kernel
theorem dJ_at_7 : decode prog_16_method_2_code 7 = .ok (.iload_n 1, 1) := by decide +kernel
theorem dJ_at_8 : decode prog_16_method_2_code 8 = .ok (.baload, 1) := by decide +kernel
theorem dJ_at_9 : decode prog_16_method_2_code 9 = .ok (.sipush 255, 3) := by decide +kernel
theorem dJ_at_12 : decode prog_16_method_2_code 12 = .ok (.iand, 1) := by decide +kernel
theorem dJ_at_13 : decode prog_16_method_2_code 13 = .ok (.i2c, 1) := by decide +kernel
theorem dJ_at_14 : decode prog_16_method_2_code 14 = .ok (.ireturn, 1) := by decide +kernel
theorem dJ_pre_0 : decode prog_19_method_11_code 0 = .ok (.iload_n 0, 1) := by decide +kernel
theorem dJ_pre_1 : decode prog_19_method_11_code 1 = .ok (.ifCond .lt 8, 3) := by decide +kernel
theorem dJ_pre_4 : decode prog_19_method_11_code 4 = .ok (.iload_n 0, 1) := by decide +kernel
theorem dJ_pre_5 : decode prog_19_method_11_code 5 = .ok (.iload_n 1, 1) := by decide +kernel
theorem dJ_pre_6 : decode prog_19_method_11_code 6 = .ok (.if_icmp .lt 10, 3) := by decide +kernel
theorem dJ_pre_9 : decode prog_19_method_11_code 9 = .ok (.aload_n 2, 1) := by decide +kernel
theorem dJ_pre_10 : decode prog_19_method_11_code 10 = .ok (.iload_n 0, 1) := by decide +kernel
theorem dJ_pre_11 : decode prog_19_method_11_code 11 = .ok (.iload_n 1, 1) := by decide +kernel
theorem dJ_pre_12 : decode prog_19_method_11_code 12 = .ok (.invokestatic 95, 3) := by decide +kernel
theorem dJ_pre_15 : decode prog_19_method_11_code 15 = .ok (.athrow, 1) := by decide +kernel
theorem dJ_pre_16 : decode prog_19_method_11_code 16 = .ok (.iload_n 0, 1) := by decide +kernel
theorem dJ_pre_17 : decode prog_19_method_11_code 17 = .ok (.ireturn, 1) := by decide +kernel
theorem zJhead (f : Nat) {y : MethodName} {b : ByteArray} {n : Nat} {r : Option FieldType} : (headSpec (zJw y b n r) (zJr f)).room = zJr f := rfl
set_option maxHeartbeats 1000000 in
theorem J_cod (l : Launch) (kA vA : Nat → Nat) (sz : Nat) : Met l yJ_cod (zJw yJ_cod prog_15_method_152_code 1 (some .byte)) (zJr 0) (va_Pc [.ref (kA 0)] (zJp kA vA sz)) (zJq 0 sz) 0 0 (va_A [] sz) := by
  refine zJmet (by decide +kernel) (Nat.le_refl 1) ?_
  intro p e s m below meth c ls hx hb hml hown hts hr hlocks hl hJ hsz
  subst hsz
  refine va_gets hx hb hJ.2.1 va_S.rf hown (hts _ zJf.1) (fun _ h => h) dJ_cod_0 ?_
  refine lv_if_eq hx hb (tgt := 13) dJ_cod_3 rfl (fun h => absurd h (by decide)) (fun _ => ?_)
  refine lv_aload_n hx hb dJ_cod_6 rfl (lv_at hl 0 rfl) ?_
  refine vk_getf hx hb (hJ.1.1 0 (by decide)).2.1 va_S.rf hown (hts _ zJf.2.2.1) (fun _ h => h) dJ_cod_7 ?_
  refine lv_goto hx hb (tgt := 14) dJ_cod_10 rfl ?_
  exact W.zret hx hb hr (by decide) (fun t ht hW => ⟨⟨_, (), rfl, rfl, trivial⟩, va_S.rf.F ht⟩) (fun q hq => by cases hq) dJ_cod_14 hlocks
set_option maxHeartbeats 1000000 in
theorem J_lat (l : Launch) (kA vA : Nat → Nat) (sz : Nat) : Met l yJ_lat (zJw yJ_lat prog_15_method_154_code 1 (some .boolean)) (zJr 0) (va_Pc [.ref (kA 0)] (zJp kA vA sz)) (zJq 1 sz) 0 0 (va_A [] sz) := by
  refine zJmet (by decide +kernel) (Nat.le_refl 1) ?_
  intro p e s m below meth c ls hx hb hml hown hts hr hlocks hl hJ hsz
  subst hsz
  refine va_gets hx hb hJ.2.1 va_S.rf hown (hts _ zJf.1) (fun _ h => h) dJ_lat_0 ?_
  refine lv_if_eq hx hb (tgt := 17) dJ_lat_3 rfl (fun h => absurd h (by decide)) (fun _ => ?_)
  refine lv_aload_n hx hb dJ_lat_6 rfl (lv_at hl 0 rfl) ?_
  refine vk_getf hx hb (hJ.1.1 0 (by decide)).2.1 va_S.rf hown (hts _ zJf.2.2.1) (fun _ h => h) dJ_lat_7 ?_
  refine lv_if_ne hx hb (tgt := 17) dJ_lat_10 rfl (fun h => absurd rfl h) (fun _ => ?_)
  refine lv_iconst (v := 1) hx hb dJ_lat_13 rfl ?_
  refine lv_goto hx hb (tgt := 18) dJ_lat_14 rfl ?_
  exact W.zret hx hb hr (by decide) (fun t ht hW => ⟨⟨_, (), rfl, rfl, trivial⟩, va_S.rf.F ht⟩) (fun q hq => by cases hq) dJ_lat_18 hlocks
set_option maxHeartbeats 1000000 in
theorem J_pre (l : Launch) (kA vA : Nat → Nat) (sz : Nat) {j : Nat} (hj : j < 45) {v : Value} (hv : v = .null ∨ ∃ t, v = .ref t) : Met l yJ_pre (zJw yJ_pre prog_19_method_11_code 3 (some .int)) (zJr 0) (va_Pc [.int (nI j), .int (nI 45), v] (zJp kA vA sz)) (zJq (nI j) sz) 0 0 (va_A [] sz) := by
  refine zJmet (by decide +kernel) (by rcases hv with rfl | ⟨t, rfl⟩ <;> exact Nat.le_refl 3) ?_
  intro p e s m below meth c ls hx hb hml hown hts hr hlocks hl hJ hsz
  subst hsz
  have h0 : ¬ nI j < 0 := Int32.not_lt.mpr (nI_pos' (by omega))
  have h1 : nI j < nI 45 := nI_lt hj (by decide)
  refine lv_iload_n hx hb dJ_pre_0 rfl (lv_at hl 0 rfl) ?_
  refine lv_if_lt hx hb (tgt := 9) dJ_pre_1 rfl (fun h => absurd h h0) (fun _ => ?_)
  refine lv_iload_n hx hb dJ_pre_4 rfl (lv_at hl 0 rfl) ?_
  refine lv_iload_n hx hb dJ_pre_5 rfl (lv_at hl 1 rfl) ?_
  refine lv_icmp_lt hx hb (tgt := 16) dJ_pre_6 rfl (fun _ => ?_) (fun h => absurd h1 h)
  refine lv_iload_n hx hb dJ_pre_16 rfl (lv_at hl 0 rfl) ?_
  exact W.iret hx hb hr (fun t ht hW => ⟨⟨_, (), rfl, rfl, trivial⟩, va_S.rf.F ht⟩) (fun q hq => by cases hq) dJ_pre_17 hlocks
set_option maxHeartbeats 1000000 in
theorem J_chk (l : Launch) (kA vA : Nat → Nat) (sz : Nat) {j : Nat} (hj : j < 45) : Met l yJ_chk (zJw yJ_chk prog_15_method_155_code 2 none) (zJr 1) (va_Pc [.int (nI j), .int (nI 45)] (zJp kA vA sz)) (zJv sz) 0 0 (va_A [] sz) := by
  refine zJmet (by decide +kernel) (Nat.le_refl 2) ?_
  intro p e s m below meth c ls hx hb hml hown hts hr hlocks hl hJ hsz
  subst hsz
  have hA : ∀ q, s.heap.size ≤ q → va_A [] s.heap.size q := fun q h => Or.inr h
  have key : ∀ v : Value, (v = .null ∨ ∃ t, v = .ref t) → va_Z "jdk/internal/util/Preconditions" "SIOOBE_FORMATTER" "Ljava/util/function/BiFunction;" v (va_A [] s.heap.size) s s.heap → W p l e (zJr 1) s m [.int (nI j), .int (nI 45)].toArray below meth c s.heap [] 0 0 (MQ below (zJv s.heap.size) [.int (nI j), .int (nI 45)].toArray s 0 0 (va_A [] s.heap.size)) (F0 m 0 ls []) := by
    intro v hv hZ
    refine lv_iload_n hx hb dJ_chk_0 rfl (lv_at hl 0 rfl) ?_
    refine lv_iload_n hx hb dJ_chk_1 rfl (lv_at hl 1 rfl) ?_
    refine va_gets hx hb hZ va_S.rf hown (hts _ zJf.2.2.2) (fun _ h => h) dJ_chk_2 ?_
    have hp : PreS s s.heap (va_Pc [.int (nI j), .int (nI 45), v] (zJp kA vA s.heap.size)) [.int (nI j), .int (nI 45), v] := ⟨zJ_blind, fun U hU hW => ⟨rfl, hJ.pre va_S.rf hA hU hW⟩⟩
    have hrun := va_runS (e := e) (below := below) (meth := meth) (locs := []) (cells := 0) (slots := 0) (As := [.int (nI j), .int (nI 45), v]) (rest := []) ⟨hx, hb, hml, hown, hts⟩ (J_pre l kA vA s.heap.size hj hv) (va_cwS 3 hts zJg_pre rfl rfl rfl ⟨by decide +kernel, by decide +kernel, zJn.2.2.2⟩ ⟨by decide, by decide⟩) hp (g := F0 m 5 ls [v, .int (nI 45), .int (nI j)]) (R := zJr 1) rfl rfl hl.1 rfl (lv_room (by decide)) dJ_chk_5 ⟨by decide, by decide⟩
    refine va_calli hrun va_S.rf (fun q _ z => zJA hA q z) (zJA hA) (fun r u t H1 locs1 ht hvm hw hB hz1 hk1 hS1 => ?_)
    refine lv_pop hx hb dJ_chk_8 rfl ?_
    exact W.vret hx hb hr (fun t ht hW => ⟨⟨(), rfl, trivial, trivial⟩, hS1.F ht⟩) (fun q hq => hS1.2.2 q hq) dJ_chk_9 hlocks
  rcases hJ.2.2 with hZ | ⟨t, hZ⟩
  · exact key _ (Or.inl rfl) hZ
  · exact key _ (Or.inr ⟨t, rfl⟩) hZ
set_option maxHeartbeats 1000000 in
theorem J_at (l : Launch) (kA vA : Nat → Nat) (sz : Nat) {j : Nat} (hj : j < 45) : Met l yJ_at (zJw yJ_at prog_16_method_2_code 2 (some .char)) (zJr 2) (va_Pc [.ref (vA 0), .int (nI j)] (zJp kA vA sz)) (zJq (zTb.getD j 0 &&& 255) sz) 0 0 (va_A [] sz) := by
  refine zJmet (by decide +kernel) (Nat.le_refl 2) ?_
  intro p e s m below meth c ls hx hb hml hown hts hr hlocks hl hJ hsz
  subst hsz
  have hA : ∀ q, s.heap.size ≤ q → va_A [] s.heap.size q := fun q h => Or.inr h
  refine lv_iload_n hx hb dJ_at_0 rfl (lv_at hl 1 rfl) ?_
  refine lv_aload_n hx hb dJ_at_1 rfl (lv_at hl 0 rfl) ?_
  refine va_tlen (v := nI 45) hx hb (hJ.1.1 0 (by decide)).2.2.2 va_S.rf rfl dJ_at_2 ?_
  have hp : PreS s s.heap (va_Pc [.int (nI j), .int (nI 45)] (zJp kA vA s.heap.size)) [.int (nI j), .int (nI 45)] := ⟨zJ_blind, fun U hU hW => ⟨rfl, hJ.pre va_S.rf hA hU hW⟩⟩
  have hrun := va_runS (e := e) (below := below) (meth := meth) (locs := []) (cells := 0) (slots := 0) (As := [.int (nI j), .int (nI 45)]) (rest := []) ⟨hx, hb, hml, hown, hts⟩ (J_chk l kA vA s.heap.size hj) (va_cwS 2 hts zJg_chk rfl rfl rfl ⟨by decide +kernel, by decide +kernel, zJn.2.2.1⟩ ⟨by decide, by decide⟩) hp (g := F0 m 3 ls [.int (nI 45), .int (nI j)]) (R := zJr 2) rfl rfl hl.1 rfl (lv_room (by decide)) dJ_at_3 ⟨by decide, by decide⟩
  refine va_callv hrun va_S.rf (fun q _ z => zJA hA q z) (zJA hA) (fun u t H1 locs1 ht hvm hw hB hz1 hk1 hS1 => ?_)
  refine lv_aload_n hx hb dJ_at_6 rfl (lv_at hl 0 rfl) ?_
  refine lv_iload_n hx hb dJ_at_7 rfl (lv_at hl 1 rfl) ?_
  refine va_tb (v := .int (zTb.getD j 0)) hx hb (hJ.1.1 0 (by decide)).2.2.2 hS1 (nI_in hj (by decide)) (by
    show Value.int (zTb.getD (nI j).toNatClampNeg 0) = _
    rw [nI_clamp (by omega)]) dJ_at_8 ?_
  refine lv_sipush (v := 255) hx hb dJ_at_9 rfl ?_
  refine lv_iand hx hb dJ_at_12 ?_
  refine lv_i2c hx hb dJ_at_13 (sc_c2 _) ?_
  exact W.zret hx hb hr (sc_nar _) (fun t ht hW => ⟨⟨_, (), rfl, rfl, trivial⟩, hS1.F ht⟩) (fun q hq => hS1.2.2 q hq) dJ_at_14 hlocks
set_option maxHeartbeats 1000000 in
theorem J_len (l : Launch) (kA vA : Nat → Nat) (sz : Nat) : Met l yJ_len (zJw yJ_len prog_15_method_54_code 1 (some .int)) (zJr 1) (va_Pc [.ref (kA 0)] (zJp kA vA sz)) (zJq (nI 45) sz) 0 0 (va_A [] sz) := by
  refine zJmet (by decide +kernel) (Nat.le_refl 1) ?_
  intro p e s m below meth c ls hx hb hml hown hts hr hlocks hl hJ hsz
  subst hsz
  have hA : ∀ q, s.heap.size ≤ q → va_A [] s.heap.size q := fun q h => Or.inr h
  refine lv_aload_n hx hb dJ_len_0 rfl (lv_at hl 0 rfl) ?_
  refine vk_getf hx hb (hJ.1.1 0 (by decide)).2.2.1 va_S.rf hown (hts _ zJf.2.1) (fun _ h => h) dJ_len_1 ?_
  refine va_tlen (v := nI 45) hx hb (hJ.1.1 0 (by decide)).2.2.2 va_S.rf rfl dJ_len_4 ?_
  refine lv_aload_n hx hb dJ_len_5 rfl (lv_at hl 0 rfl) ?_
  have hp : PreV s s.heap "java/lang/String" (kA 0) (va_Pc [.ref (kA 0)] (zJp kA vA s.heap.size)) [] := ⟨zJ_blind, vk_recv hJ.1 (by decide) va_S.rf, fun U hU hW => ⟨rfl, hJ.pre va_S.rf hA hU hW⟩⟩
  have hrun := va_runV (e := e) (below := below) (meth := meth) (locs := []) (cells := 0) (slots := 0) (As := []) (rest := [.int (nI 45)]) ⟨hx, hb, hml, hown, hts⟩ (J_cod l kA vA s.heap.size) (cwV 0 hts zJg_cod rfl rfl rfl ⟨rfl, by decide +kernel, by decide +kernel, zJn.1.1⟩ ⟨by decide, by decide⟩) hp (g := F0 m 6 ls [.ref (kA 0), .int (nI 45)]) (R := zJr 1) rfl rfl hl.1 rfl (lv_room (by decide)) dJ_len_6 ⟨by decide, by decide⟩
  refine va_calli hrun va_S.rf (fun q _ z => zJA hA q z) (zJA hA) (fun r u t H1 locs1 ht hvm hw hB hz1 hk1 hS1 => ?_)
  subst hw
  refine lv_ishr hx hb dJ_len_9 ?_
  exact W.iret hx hb hr (fun t ht hW => ⟨⟨_, (), rfl, sc_shr0 (by decide), trivial⟩, hS1.F ht⟩) (fun q hq => hS1.2.2 q hq) dJ_len_10 hlocks
set_option maxHeartbeats 1000000 in
theorem J_chr (l : Launch) (kA vA : Nat → Nat) (sz : Nat) {j : Nat} (hj : j < 45) : Met l yJ_chr (zJw yJ_chr prog_15_method_56_code 2 (some .char)) (zJr 3) (va_Pc [.ref (kA 0), .int (nI j)] (zJp kA vA sz)) (zJq (zTb.getD j 0 &&& 255) sz) 0 0 (va_A [] sz) := by
  refine zJmet (by decide +kernel) (Nat.le_refl 2) ?_
  intro p e s m below meth c ls hx hb hml hown hts hr hlocks hl hJ hsz
  subst hsz
  have hA : ∀ q, s.heap.size ≤ q → va_A [] s.heap.size q := fun q h => Or.inr h
  refine lv_aload_n hx hb dJ_chr_0 rfl (lv_at hl 0 rfl) ?_
  have hp : PreV s s.heap "java/lang/String" (kA 0) (va_Pc [.ref (kA 0)] (zJp kA vA s.heap.size)) [] := ⟨zJ_blind, vk_recv hJ.1 (by decide) va_S.rf, fun U hU hW => ⟨rfl, hJ.pre va_S.rf hA hU hW⟩⟩
  have hrun := va_runV (e := e) (below := below) (meth := meth) (locs := []) (cells := 0) (slots := 0) (As := []) (rest := []) ⟨hx, hb, hml, hown, hts⟩ (J_lat l kA vA s.heap.size) (cwV 0 hts zJg_lat rfl rfl rfl ⟨rfl, by decide +kernel, by decide +kernel, zJn.1.2.1⟩ ⟨by decide, by decide⟩) hp (g := F0 m 1 ls [.ref (kA 0)]) (R := zJr 3) rfl rfl hl.1 rfl (lv_room (by decide)) dJ_chr_1 ⟨by decide, by decide⟩
  refine va_calli hrun va_S.rf (fun q _ z => zJA hA q z) (zJA hA) (fun r u t H1 locs1 ht hvm hw hB hz1 hk1 hS1 => ?_)
  subst hw
  have hA1 : ∀ q, H1.size ≤ q → va_A [] s.heap.size q := fun q h => Or.inr (Nat.le_trans hz1 h)
  refine lv_if_eq hx hb (tgt := 16) dJ_chr_4 rfl (fun h => absurd h (by decide)) (fun _ => ?_)
  refine lv_aload_n hx hb dJ_chr_7 rfl (lv_at hl 0 rfl) ?_
  refine vk_getf hx hb (hJ.1.1 0 (by decide)).2.2.1 hS1 hown (hts _ zJf.2.1) (fun _ h => h) dJ_chr_8 ?_
  refine lv_iload_n hx hb dJ_chr_11 rfl (lv_at hl 1 rfl) ?_
  have hp2 : PreS s H1 (va_Pc [.ref (vA 0), .int (nI j)] (zJp kA vA H1.size)) [.ref (vA 0), .int (nI j)] := ⟨zJ_blind, fun U hU hW => ⟨rfl, hJ.pre hS1 hA1 hU hW⟩⟩
  have hrun2 := va_runS (e := e) (below := below) (meth := meth) (locs := locs1) (cells := 0) (slots := 0) (As := [.ref (vA 0), .int (nI j)]) (rest := []) ⟨hx, hb, hml, hown, hts⟩ (J_at l kA vA H1.size hj) (va_cwS 2 hts zJg_at rfl rfl rfl ⟨by decide +kernel, by decide +kernel, zJn.2.1⟩ ⟨by decide, by decide⟩) hp2 (g := F0 m 12 ls [.int (nI j), .ref (vA 0)]) (R := zJr 3) rfl rfl hl.1 rfl (lv_room (by decide)) dJ_chr_12 ⟨by decide, by decide⟩
  refine va_calli hrun2 hS1 (fun q _ z => zJA hA1 q z) (zJA hA1) (fun r u t H2 locs2 ht hvm hw hB hz2 hk2 hS2 => ?_)
  subst hw
  exact W.zret hx hb hr (sc_nar _) (fun t ht hW => ⟨⟨_, (), rfl, rfl, trivial⟩, hS2.F ht⟩) (fun q hq => hS2.2.2 q hq) dJ_chr_15 hlocks
theorem zTb_all : (List.range 45).all (fun j => decide (zTb.getD j 0 &&& 255 = Int32.ofNat (zTx.getD j 0))) = true := by decide +kernel
theorem zTb_at {j : Nat} (hj : j < 45) : zTb.getD j 0 &&& 255 = Int32.ofNat (zTx.getD j 0) := of_decide_eq_true (zall zTb_all j hj)
