/-! THE CLAIM OUT OF ONE WALK OF THE LAW'S BODY. Your part is whole_start (and what it stands on); all else here is the same for every law, but numbers. -/
def R_law : String := "PushSaidDoorLaw"
def lw_P (b : Addr) (xs : List Int32) (args : Array Value) (s : State) : Prop := args = #[.ref b] ∧ s.IntsAt b xs ∧ xs.length ≤ 384 ∧ (Jvm.Cond.and given_1 narrow_1).before args s = true
def lw_Q (_ : Array Value) (s : State) (o : Outcome) (t : State) : Prop := o = .returned (some (.int 1)) ∧ Framed s o t [] 58 2321
def lw_Z (below : List Frame) (a : Array Value) (s : State) : State → Prop := fun t => ∃ o, t.status = .running ∧ Ended t below o ∧ lw_Q a s o t
/-- the law's own end, with 1 on the stack, nothing written that was there before, its room as the claim has it -/
theorem lw_ret {p : Program} {l : Launch} {e : Env} {s : State} {m : MethodId} {below : List Frame} {meth : Method} {c : Code} {b : Nat} (hx : p.tables.exec = Jvm.exec) (hb : c.code = code) (hr : meth.sig.returnType = ret) (hlocks : meth.locks = false) {pc : Nat} {H : Heap} {ls : Array Slot} (hdg : decode code pc = .ok (.ireturn, 1)) : W p l e room_1 s m #[Value.ref b] below meth c H [] 58 2321 (lw_Z below #[Value.ref b] s) (F0 m pc ls [.int 1]) := by
  intro T hT X
  obtain ⟨fs, hret, hrun, hended, hW, hframe⟩ := X.leave (v := some (.int 1)) (hlocks := hlocks) (fun h => by rw [hr] at h; cases h)
  have hmeth' : T.vm.method? m = some meth := X.method'
  refine ⟨T.setFrames fs, ?_, .returned (some (.int 1)), hrun, hended, rfl, ⟨_, rfl⟩, hW, hframe⟩
  jvm_step X.here [X.here.top, hx, hb, hdg, hmeth', hr, ret, narrow_b1]
  (try refine ⟨rfl, ?_⟩); (try refine ⟨rfl, ?_⟩)
  first | (intro acts; rw [hret _ acts rfl rfl rfl]) | rw [hret _ _ rfl rfl rfl]
  exact Steps.refl _
/-- what holds at the law's entry: the machine, the code, the tables' words (any of lw_tbl by 'hts w (by decide +kernel)'), the script of L ints xs at the cell b, what the Statement gives of the start (any of its parts by flat_of_before) -/
def lw_At (p : Program) (s : State) (m : MethodId) (meth : Method) (c : Code) (b L : Nat) (xs : Nat → Int32) : Prop :=
  p.tables.exec = Jvm.exec ∧ c.code = code ∧ meth.sig.returnType = ret ∧ c.maxLocals = 4 ∧ s.vm.findClass R_law = some m.cls ∧ (∀ w ∈ lw_tbl, w.before #[Value.ref b] s = true) ∧ va_X b L xs s s.heap ∧ b < s.heap.size ∧ meth.locks = false ∧ (Jvm.Cond.and given_1 narrow_1).before #[Value.ref b] s = true
theorem dL_18 : decode code 18 = .ok (.iload_n 3, 1) := by decide +kernel
theorem dL_19 : decode code 19 = .ok (.aload_n 0, 1) := by decide +kernel
theorem dL_20 : decode code 20 = .ok (.arraylength, 1) := by decide +kernel
theorem dL_21 : decode code 21 = .ok (.bipush 6, 2) := by decide +kernel
theorem dL_23 : decode code 23 = .ok (.isub, 1) := by decide +kernel
theorem dL_24 : decode code 24 = .ok (.if_icmp .gt 1201, 3) := by decide +kernel
theorem dL_27 : decode code 27 = .ok (.aload_n 0, 1) := by decide +kernel
theorem dL_28 : decode code 28 = .ok (.iload_n 3, 1) := by decide +kernel
theorem dL_29 : decode code 29 = .ok (.iaload, 1) := by decide +kernel
theorem dL_30 : decode code 30 = .ok (.bipush 63, 2) := by decide +kernel
theorem dL_32 : decode code 32 = .ok (.iand, 1) := by decide +kernel
theorem dL_33 : decode code 33 = .ok (.tableswitch 1186 0 32 zOffs, 147) := by decide +kernel
theorem dL_1219 : decode code 1219 = .ok (.iinc 3 6, 3) := by decide +kernel
theorem dL_1222 : decode code 1222 = .ok (.goto (-1204), 3) := by decide +kernel
theorem dL_1225 : decode code 1225 = .ok (.iconst 1, 1) := by decide +kernel
theorem dL_1226 : decode code 1226 = .ok (.ireturn, 1) := by decide +kernel
def zis (xs : Nat → Int32) (k : Nat) : Nat → Nat → List Int32
  | _, 0 => []
  | j, n + 1 => xs (k + j) :: zis xs k (j + 1) n
theorem zis_len (xs : Nat → Int32) (k : Nat) : ∀ (n j : Nat), (zis xs k j n).length = n
  | 0, _ => rfl
  | n + 1, j => by simp [zis, zis_len xs k n (j + 1)]
theorem zxsz : ∀ is : List Int32, xsz (is.map Value.int) = is.length
  | [] => rfl
  | x :: r => by
    have h := zxsz r
    simp only [List.map_cons, xsz, h, List.length_cons, Value.category]
    omega
def zA0 (s : State) : Nat → Prop := fun q => s.heap.size ≤ q
/-- both sides stand in the heap, and answer to one state of the house -/
def zInv (D : va_G) (cA : Nat → ClassId) (adC adR : Nat → Nat) (A : Nat → Prop) (H : Heap) : Prop := ∃ (S : xA) (M N : xM), WA S ∧ RC S M ∧ RR S N ∧ va_P D xCl (xws adC cA M xSC 0) H ∧ va_D A (xws adC cA M xSC 0) ∧ va_P D xCl (xws adR cA N xSR 0) H ∧ va_D A (xws adR cA N xSR 0)
section ZLAW
variable {p : Program} {l : Launch} {e : Env} {R : Room} {s : State} {m : MethodId} {args : Array Value} {below : List Frame} {meth : Method} {c : Code} {H : Heap} {locs : List Loc} {cells slots : Nat} {Q : State → Prop}
variable {D : va_G} {cA : Nat → ClassId} {adC adR : Nat → Nat} {b L k : Nat} {xs : Nat → Int32} {ls : Array Slot}
theorem zpush (hx : p.tables.exec = Jvm.exec) (hb : c.code = code) (hX : va_X b L xs s s.heap) (hbl : b < s.heap.size) (hL : L ≤ 384) (hS : va_S (zA0 s) s.heap H locs) (l0 : ls[0]? = some (.val (.ref b))) (l3 : ls[3]? = some (.val (.int (nI k)))) :
    ∀ (n pc j : Nat) (st : List Value), zPks n pc j = true → k + j + n ≤ L → W p l e R s m args below meth c H locs cells slots Q (F0 m (pc + 5 * n) ls (((zis xs k j n).map Value.int).reverse ++ st)) → W p l e R s m args below meth c H locs cells slots Q (F0 m pc ls st) := by
  have hbA : ¬ zA0 s b := Nat.not_le.mpr hbl
  intro n
  induction n with
  | zero =>
    intro pc j st _ _ h
    exact h
  | succ n ih =>
    intro pc j st h hk hh
    simp only [zPks, zPk, Bool.and_eq_true, decide_eq_true_eq] at h
    obtain ⟨⟨⟨⟨⟨⟨d0, d1⟩, d2⟩, d3⟩, d4⟩, d5⟩, hr⟩ := h
    refine lv_aload_n hx hb d0 rfl l0 ?_
    refine lv_iload_n hx hb d1 rfl l3 ?_
    refine lv_iconst (v := nI j) hx hb d2 d5 ?_
    refine lv_iadd hx hb d3 ?_
    rw [nI_add]
    refine va_sld (i := nI (k + j)) hx hb hX hbl hbA hS (vp_in_nI (by omega) (by omega)) d4 ?_
    rw [nI_clamp (show k + j < 2 ^ 31 by omega)]
    refine ih (pc + 5) (j + 1) (.int (xs (k + j)) :: st) hr (by omega) ?_
    have e1 : pc + 5 * (n + 1) = pc + 5 + 5 * n := by omega
    have e2 : ((zis xs k j (n + 1)).map Value.int).reverse ++ st = ((zis xs k (j + 1) n).map Value.int).reverse ++ .int (xs (k + j)) :: st := by simp [zis]
    rw [e1, e2] at hh
    exact hh
set_option maxHeartbeats 4000000 in
theorem zcase (hx : p.tables.exec = Jvm.exec) (hb : c.code = code) (hml : c.maxLocals = 4) (hown : s.vm.findClass "PushSaidDoorLaw" = some m.cls) (hts : ∀ w ∈ xT, w.before args s = true) (hX : va_X b L xs s s.heap) (hbl : b < s.heap.size) (hL : L ≤ 384) (hK : va_K D xCl (xtys cA) s) (hnw : va_Nw xNw s) (hdis : ∀ i j, i < 45 → j < 13 → adC i ≠ adR j) (hRf : 9 ≤ R.frames) (hRl : 352 ≤ R.locals) (hc : cells ≤ R.cells) (hs : slots ≤ R.slots)
    {q : Nat × Nat × (Nat × Nat × Nat) × (Nat × Nat × Nat)} (hq : zCk q = true) (hag : zAg q.2.1 q.2.2.1.2.1 q.2.2.2.2.1) (hk : k + 6 ≤ L) (hsz : ls.size = 4) (l0 : ls[0]? = some (.val (.ref b))) (l1 : ls[1]? = some (.val (.ref (adC 0)))) (l2 : ls[2]? = some (.val (.ref (adR 0)))) (l3 : ls[3]? = some (.val (.int (nI k))))
    (hI : zInv D cA adC adR (zA0 s) H) (hS : va_S (zA0 s) s.heap H locs)
    (kk : ∀ (H1 : Heap) (locs1 : List Loc), zInv D cA adC adR (zA0 s) H1 → va_S (zA0 s) s.heap H1 locs1 → W p l e R s m args below meth c H1 locs1 cells slots Q (F0 m 1219 ls [])) :
    W p l e R s m args below meth c H locs cells slots Q (F0 m q.1 ls []) := by
  obtain ⟨P, n, ⟨ix, mid, pl⟩, ⟨ix', mid', pl'⟩⟩ := q
  simp only at hag ⊢
  simp only [zCk, zCs, Bool.and_eq_true, decide_eq_true_eq, Bool.not_eq_true'] at hq
  obtain ⟨⟨⟨⟨⟨⟨⟨⟨⟨d1, p1⟩, d2⟩, d3⟩, p2⟩, d4⟩, d5⟩, ⟨⟨⟨⟨⟨⟨⟨⟨w1, m1⟩, i1⟩, s1⟩, x1⟩, n1⟩, f1⟩, a1⟩, b1⟩⟩, ⟨⟨⟨⟨⟨⟨⟨⟨w2, m2⟩, i2⟩, s2⟩, x2⟩, n2⟩, f2⟩, a2⟩, b2⟩⟩, n5⟩ := hq
  have n5 := Nat.le_of_ble_eq_true n5
  have f1 := Nat.le_of_ble_eq_true f1
  have f2 := Nat.le_of_ble_eq_true f2
  have a1 := Nat.le_of_ble_eq_true a1
  have a2 := Nat.le_of_ble_eq_true a2
  have b1 := Nat.le_of_ble_eq_true b1
  have b2 := Nat.le_of_ble_eq_true b2
  have hA : ∀ q, s.heap.size ≤ q → zA0 s q := fun _ h => h
  have hn := zis_len xs k n 1
  have hz : xsz (Value.ref 0 :: (zis xs k 1 n).map Value.int) = n + 1 := by
    simp only [xsz, zxsz, hn, Value.category]
    omega
  obtain ⟨S, M, N, hW, hC, hR, hPC, hDC, hPR, hDR⟩ := hI
  obtain ⟨v, S', hW', ⟨k1, v1, M', e1, rfl, hC'⟩, ⟨k2, v2, N', e2, rfl, hR'⟩⟩ := hag (zis xs k 1 n) S M N hn hW hC hR
  refine lv_aload_n hx hb d1 rfl l1 ?_
  refine zpush hx hb hX hbl hL hS l0 l3 n (P + 1) 1 [.ref (adC 0)] p1 (by omega) ?_
  refine xcallW (a0 := 0) (is := zis xs k 1 n) (rest := []) (wr := xws adR cA N xSR 0) (S := xSC) (nL := 4) e1 (xblt m1) i1 (by omega) s1 (by rw [xbeq x1]; rfl) ((xbeq n1).trans hn.symm) hx hb hml hown hts (xis_T w1) d2 (by omega) (by omega) hc hs (by decide) hK hnw hPC hDC hPR (fun j q hj i hi => by
    obtain ⟨z1, z2⟩ := xws_adr hj
    rw [z2]
    exact hdis i j hi z1) hS hA hsz (fun H1 locs1 hPC hDC hPR hS => ?_)
  rw [show P + 1 + 5 * n + 3 = P + 4 + 5 * n by omega]
  refine lv_aload_n hx hb d3 rfl l2 ?_
  rw [show P + 4 + 5 * n + 1 = P + 5 + 5 * n by omega]
  refine zpush hx hb hX hbl hL hS l0 l3 n (P + 5 + 5 * n) 1 [.ref (adR 0), .int v] p2 (by omega) ?_
  rw [show P + 5 + 5 * n + 5 * n = P + 5 + 10 * n by omega]
  refine xcallW (a0 := 0) (is := zis xs k 1 n) (rest := [.int v]) (wr := xws adC cA M' xSC 0) (S := xSR) (nL := 4) e2 (xblt m2) i2 (by omega) s2 (by rw [xbeq x2]; rfl) ((xbeq n2).trans hn.symm) hx hb hml hown hts (xis_T w2) d4 (by omega) (by omega) hc hs (Nat.le_of_ble_eq_true rfl) hK hnw hPR hDR hPC (fun j q hj i hi => by
    obtain ⟨z1, z2⟩ := xws_adr hj
    rw [z2]
    exact (hdis j i z1 hi).symm) hS hA hsz (fun H2 locs2 hPR hDR hPC hS => ?_)
  rw [show P + 5 + 10 * n + 3 = P + 8 + 10 * n by omega]
  exact lv_icmp_eq (tgt := 1219) hx hb d5 (by omega) (fun _ => kk H2 locs2 ⟨S', M', N', hW', hC', hR', hPC, hDC, hPR, hDR⟩ hS) (fun h => absurd rfl h)
end ZLAW
theorem zend {k L : Nat} (hL : L ≤ 384) (hkL : k ≤ L) (h : ¬ Int32.ofNat L - 6 < nI k) : k + 6 ≤ L := by
  rcases Nat.lt_or_ge L 6 with q | q
  · refine absurd ?_ h
    have e1 : (Int32.ofNat L - 6).toInt < 0 := by
      rcases (show L = 0 ∨ L = 1 ∨ L = 2 ∨ L = 3 ∨ L = 4 ∨ L = 5 by omega) with rfl | rfl | rfl | rfl | rfl | rfl <;> decide
    have e2 := nI_toInt (n := k) (by omega)
    exact Int32.lt_iff_toInt_lt.mpr (by omega)
  · rcases Nat.lt_or_ge (L - 6) k with z | z
    · refine absurd ?_ h
      have e1 : Int32.ofNat L - 6 = nI (L - 6) := pk_sub (a := L) (b := 6) q
      rw [e1]
      exact nI_lt z (by omega)
    · omega
set_option maxHeartbeats 4000000 in
theorem zloop {p : Program} {l : Launch} {e : Env} {s : State} {m : MethodId} {below : List Frame} {meth : Method} {c : Code} {D : va_G} {cA : Nat → ClassId} {adC adR : Nat → Nat} {b L : Nat} {xs : Nat → Int32} (hL : L ≤ 384) (C0 : lw_At p s m meth c b L xs) (hK : va_K D xCl (xtys cA) s) (hnw : va_Nw xNw s) (hdis : ∀ i j, i < 45 → j < 13 → adC i ≠ adR j) :
    ∀ (n k : Nat), L + 1 ≤ k + n → k ≤ L → ∀ (H : Heap) (locs : List Loc) (ls : Array Slot), zInv D cA adC adR (zA0 s) H → va_S (zA0 s) s.heap H locs → lv_has ls 4 [(0, .ref b), (1, .ref (adC 0)), (2, .ref (adR 0)), (3, .int (nI k))] → W p l e room_1 s m #[Value.ref b] below meth c H locs 58 2321 (lw_Z below #[Value.ref b] s) (F0 m 18 ls []) := by
  obtain ⟨hx, hb, hr, hml, hown, hts, hX, hbl, hlocks, hgv⟩ := C0
  have htsT : ∀ w ∈ xT, w.before #[Value.ref b] s = true := fun w hw => hts w (xT_tbl w hw)
  have hbA : ¬ zA0 s b := Nat.not_le.mpr hbl
  intro n
  induction n with
  | zero =>
    intro k h1 h2
    exact absurd h2 (by omega)
  | succ n ih =>
    intro k hn hkL H locs ls hI hS hl
    refine lv_iload_n hx hb dL_18 rfl (lv_at hl 3 rfl) ?_
    refine lv_aload_n hx hb dL_19 rfl (lv_at hl 0 rfl) ?_
    refine va_slen hx hb hX hbl hbA hS dL_20 ?_
    refine lv_bipush (v := 6) hx hb dL_21 rfl ?_
    refine lv_isub hx hb dL_23 ?_
    refine lv_icmp_gt (tgt := 1225) hx hb dL_24 rfl (fun _ => ?_) (fun hk0 => ?_)
    · refine lv_iconst (v := 1) hx hb dL_1225 rfl ?_
      refine va_forget (fun q hq => hS.2.2 q hq) ?_
      exact lw_ret hx hb hr hlocks dL_1226
    · have hk : k + 6 ≤ L := zend hL hkL hk0
      have back : ∀ (H : Heap) (locs : List Loc), zInv D cA adC adR (zA0 s) H → va_S (zA0 s) s.heap H locs → W p l e room_1 s m #[Value.ref b] below meth c H locs 58 2321 (lw_Z below #[Value.ref b] s) (F0 m 1219 ls []) := by
        intro H locs hI hS
        refine lv_iinc (v := nI (k + 6)) (lv' := [(3, .int (nI (k + 6))), (0, .ref b), (1, .ref (adC 0)), (2, .ref (adR 0))]) hx hb dL_1219 hl (k := 3) rfl (by rw [← nI_add]; rfl) (by decide) rfl (fun ls hl => ?_)
        refine lv_goto (tgt := 18) hx hb dL_1222 rfl ?_
        exact ih (k + 6) (by omega) hk H locs ls hI hS (lv_sub hl [1, 2, 3, 0] rfl)
      refine lv_aload_n hx hb dL_27 rfl (lv_at hl 0 rfl) ?_
      refine lv_iload_n hx hb dL_28 rfl (lv_at hl 3 rfl) ?_
      refine va_sld (i := nI k) hx hb hX hbl hbA hS (vp_in_nI (by omega) (by omega)) dL_29 ?_
      refine lv_bipush (v := 63) hx hb dL_30 rfl ?_
      refine lv_iand hx hb dL_32 ?_
      generalize xs (nI k).toNatClampNeg &&& 63 = x
      by_cases h : x.toInt < 0 ∨ 32 < x.toInt
      · exact lv_tableOut (tgt := 1219) hx hb dL_33 h rfl (back H locs hI hS)
      · have ht : (x.toInt - 0).toNat < 33 := by omega
        have h1 := List.all_eq_true.mp zlaw_off _ (List.mem_range.mpr ht)
        split at h1
        · rename_i q off hq ho
          have h2 := of_decide_eq_true h1
          have hqm := List.mem_of_getElem? hq
          refine lv_tableIn (tgt := q.1) hx hb dL_33 (fun z => h (Or.inl z)) (fun z => h (Or.inr z)) ho h2 ?_
          exact zcase hx hb hml hown htsT hX hbl hL hK hnw hdis (by decide) (by decide) (by decide) (by decide) (zlaw_ok q hqm) (zag_all q hqm) hk hl.1 (lv_at hl 0 rfl) (lv_at hl 1 rfl) (lv_at hl 2 rfl) (lv_at hl 3 rfl) hI hS back
        · cases h1
