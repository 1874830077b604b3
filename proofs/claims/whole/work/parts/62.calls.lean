/-! a call of a method of the small machine, from any method -/
theorem xws_adr {ad : Nat → Nat} {cA : Nat → ClassId} {M : xM} {S : xSh} {k : Nat} {q : Nat × va_E} (h : (xws ad cA M S 0)[k]? = some q) : k < S.length ∧ q.1 = ad k := by
  rw [xws_get] at h
  cases hS : S[k]? with
  | none => rw [hS] at h; cases h
  | some e =>
    rw [hS] at h
    cases h
    exact ⟨(List.getElem?_eq_some_iff.mp hS).1, by rw [Nat.zero_add]⟩
section XCV
variable {p : Program} {l : Launch} {e : Env} {R : Room} {s : State} {m : MethodId} {args : Array Value} {below : List Frame} {meth : Method} {c : Code} {H H0 : Heap} {locs : List Loc} {cells slots : Nat} {Q : State → Prop}
variable {ad : Nat → Nat} {cA : Nat → ClassId} {D : va_G} {A : Nat → Prop} {ls : Array Slot} {S : xSh} {M M' : xM}
set_option maxHeartbeats 4000000 in
theorem xcallW {n mid a0 nL pc ix : Nat} {own : String} {cc : ByteArray} {is : List Int32} {v : Option Value} {fs : List (Option Nat)} {rest : List Value} {wr : va_W} (h : xrun S n mid 0 (xent (xL mid) (.ref a0 :: is.map Value.int)) [] M = some (v, M')) (hm : mid < 204) (hi : xmini mid = false) (hsz : xsz (.ref a0 :: is.map Value.int) ≤ xL mid) (hst : xSt mid = false) (hS0 : S[a0]? = some (0, xI mid, fs)) (hN : xN mid = is.length)
    (hx : p.tables.exec = Jvm.exec) (hb : c.code = cc) (hml : c.maxLocals = nL) (hown : s.vm.findClass own = some m.cls) (hts : ∀ w ∈ xT, w.before args s = true) (hlk : Cond.methodLink own ix (xY mid) ∈ xT) (hdg : decode cc pc = .ok (.invokevirtual ix, 3)) (hfr : xF mid + 1 ≤ R.frames) (hlo : 8 + (xL mid + 11) + 40 * xF mid ≤ R.locals) (hc : cells ≤ R.cells) (hs : slots ≤ R.slots) (hr4 : (rest.map fun v => v.category).sum ≤ 8)
    (hK : va_K D xCl (xtys cA) s) (hnw : va_Nw xNw s) (hP : va_P D xCl (xws ad cA M S 0) H) (hD : va_D A (xws ad cA M S 0)) (hPr : va_P D xCl wr H) (hdis : ∀ (k : Nat) (q : Nat × va_E), wr[k]? = some q → ∀ i, i < S.length → ad i ≠ q.1) (hS : va_S A H0 H locs) (hA : ∀ q, H0.size ≤ q → A q) (hl : ls.size = nL)
    (kk : ∀ (H1 : Heap) (locs1 : List Loc), va_P D xCl (xws ad cA M' S 0) H1 → va_D A (xws ad cA M' S 0) → va_P D xCl wr H1 → va_S A H0 H1 locs1 → W p l e R s m args below meth c H1 locs1 cells slots Q (F0 m (pc + 3) ls (v.toList ++ rest))) :
    W p l e R s m args below meth c H locs cells slots Q (F0 m pc ls ((is.map Value.int).reverse ++ .ref (ad a0) :: rest)) := by
  obtain ⟨k1, k2, k3, k4, k5, k6, k7, k8, k9⟩ := xmk_spec (xmk_of hm hi)
  obtain ⟨k10, k11, k12⟩ := k9 hst
  have hM := xmet (xsound n) h hm hi hsz l ad cA D H.size
  have hmap : (is.map Value.int).map (xv ad) = is.map Value.int := by
    rw [List.map_map]
    exact List.map_congr_left (fun _ _ => rfl)
  have hav : (Value.ref a0 :: is.map Value.int).map (xv ad) = .ref (ad a0) :: is.map Value.int := by
    rw [List.map_cons, hmap]
    rfl
  rw [hav] at hM
  have hAf := xA_free hD hS hA
  have hgo : ∀ (t : State) (H1 : Heap) (locs1 : List Loc), t.heap = H1 → (∀ q : Nat, q < H.size → ¬ va_A (xws ad cA M S 0) H.size q → H1[q]? = H[q]?) → xPost D ad cA S M' (va_A (xws ad cA M S 0) H.size) t → va_S A H0 H1 locs1 → W p l e R s m args below meth c H1 locs1 cells slots Q (F0 m (pc + 3) ls (v.toList ++ rest)) := by
    intro t H1 locs1 ht hk1 hB hS1
    subst ht
    obtain ⟨hP1, -, hD1⟩ := hB
    refine kk t.heap locs1 hP1 (hD1.weaken (fun k q _ z => hAf q.1 z)) (hPr.kept (fun k q hq => hk1 q.1 ((hPr k q hq).lt) (fun hA1 => ?_))) hS1
    rcases hA1 with ⟨k', e', h'⟩ | h'
    · obtain ⟨z1, z2⟩ := xws_adr h'
      exact hdis k q hq k' z1 z2.symm
    · exact absurd ((hPr k q hq).lt) (by omega)
  cases hq : xCl[xI mid]? with
  | none => rw [hq] at k12; cases k12
  | some q0 =>
    rw [hq] at k12
    have hq1 : q0.1 = (xY mid).cls := Option.some.inj k12
    have hrc := va_recv hK hP hq (xws_at hS0)
    rw [hq1] at hrc
    have hp : PreV s H (xY mid).cls (ad a0) (va_Pc (.ref (ad a0) :: is.map Value.int) (xPre D ad cA S M H.size)) (is.map Value.int) :=
      ⟨xpre_blind, hrc, fun U hU hW => ⟨rfl, by rw [hU], by rw [hU]; exact hP, va_K.moved hW.alike hK, hD.weaken (fun _ _ _ _ => trivial), va_Nw.warmM hW hnw⟩⟩
    have hT : GoodIn xT (wsV own ix (xY mid).cls (xY mid) (xWs mid)) := xT_goodIn (fun w hw => by
      rcases List.mem_append.mp hw with q | q
      · rcases List.mem_cons.mp q with rfl | q
        · exact hlk
        · rcases List.mem_cons.mp q with rfl | q
          · exact k10
          · rcases List.mem_cons.mp q with rfl | q
            · exact k11
            · rw [List.mem_singleton.mp q]
              exact k2
      · exact xgoodws k1 w q)
    have hrun := va_runV (e := e) (below := below) (meth := meth) (locs := locs) (cells := cells) (slots := slots) (As := is.map Value.int) (rest := rest) ⟨hx, hb, hml, hown, hts⟩ hM (cwV (xN mid) hts hT rfl rfl rfl ⟨rfl, k5, k6, k4⟩ ⟨hfr, hlo⟩) hp (g := F0 m pc ls ((is.map Value.int).reverse ++ .ref (ad a0) :: rest)) rfl (by rw [List.length_map]; exact hN.symm) hl rfl (lv_room hr4) hdg ⟨hc, hs⟩
    rcases xres _ _ _ _ _ _ _ _ _ h with rfl | ⟨r1, rfl⟩
    · exact va_callv (a := (Value.ref (ad a0) :: is.map Value.int).toArray) hrun hS (fun q _ z => hAf q z) hAf (fun u t H1 locs1 ht hvm hw hB hz1 hk1 hS1 => hgo t H1 locs1 ht hk1 hB hS1)
    · exact va_calli (a := (Value.ref (ad a0) :: is.map Value.int).toArray) hrun hS (fun q _ z => hAf q z) hAf (fun r' u t H1 locs1 ht hvm hw hB hz1 hk1 hS1 => by
        cases hw
        exact hgo t H1 locs1 ht hk1 hB hS1)
end XCV
/-! the cells as they were made, in the words of the small machine -/
def zSh1 (e : Nat × Nat × List Value) : Nat × Nat × List (Option Nat) := (e.1, e.2.1, e.2.2.map (fun v => match v with
  | .ref q => some q
  | _ => none))
def zM (G : zG) : xM := fun a j => match G[a]? with
  | some (0, _, vs) => (match vs[j]? with
    | some (.int x) => x
    | _ => 0)
  | _ => 0
def zpl (e : Nat × Nat × List Value) : Bool := (Nat.beq e.1 0 || (Nat.ble e.1 2 && e.2.2.isEmpty)) && e.2.2.all (fun v => match v with
  | .ref _ => true
  | .int _ => true
  | _ => false)
theorem zsv (ad : Nat → Nat) (f : Nat → Int32) : ∀ (vs : List Value) (j : Nat), vs.all (fun v => match v with
    | .ref _ => true
    | .int _ => true
    | _ => false) = true → (∀ k x, vs[k]? = some (.int x) → f (j + k) = x) → vs.map (xv ad) = xsv ad f (vs.map (fun v => match v with
    | .ref q => some q
    | _ => none)) j
  | [], j, _, _ => rfl
  | v :: r, j, h, hf => by
    simp only [List.all_cons, Bool.and_eq_true] at h
    simp only [List.map_cons, xsv]
    rw [zsv ad f r (j + 1) h.2 (fun k x hk => by rw [show j + 1 + k = j + (k + 1) by omega]; exact hf (k + 1) x hk)]
    cases v with
    | int x =>
      have := hf 0 x rfl
      rw [Nat.add_zero] at this
      simp only [xv, this]
    | ref q => rfl
    | _ => exact absurd h.1 (by simp)
theorem zws_xws (ad : Nat → Nat) (cA : Nat → ClassId) (G : zG) (h : G.all zpl = true) : zws ad cA G 0 = xws ad cA (zM G) (G.map zSh1) 0 := by
  apply List.ext_getElem?
  intro i
  rw [zws_get, xws_get, List.getElem?_map]
  cases hG : G[i]? with
  | none => rfl
  | some e =>
    have h1 := List.all_eq_true.mp h e (List.mem_of_getElem? hG)
    obtain ⟨k, ci, vs⟩ := e
    simp only [zpl, Bool.and_eq_true] at h1
    simp only [Option.map_some, zSh1, Nat.zero_add]
    match k, h1, hG with
    | 0, h1, hG =>
      simp only [zce, xce]
      rw [zsv ad (zM G i) vs 0 h1.2 (fun k x hk => by simp [zM, hG, hk])]
    | 1, h1, hG =>
      have e1 : zM G i = fun _ => 0 := by funext j; simp [zM, hG]
      simp only [zce, xce, e1]
    | k + 2, h1, hG =>
      have e1 : zM G i = fun _ => 0 := by funext j; simp [zM, hG]
      simp only [zce, xce, e1]
