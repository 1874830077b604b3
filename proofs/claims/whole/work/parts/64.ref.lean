/-! the reference's constructor -/
def zR0 : zG := [(0, 10, zdef 10)]
def zC0 : zG := [(0, 9, zdef 9)]
def zRm2 (mc ms : Nat) : Room := { frames := 8, cells := mc, slots := ms, locals := 320 }
theorem zok1 (ci : Nat) : zok ([(0, ci, zdef ci)] : zG).length [(0, ci, zdef ci)] := by
  intro e he v hv
  rw [List.mem_singleton.mp he] at hv
  exact zdef_ok _ _ v hv
theorem zmk2 : zMk.any (fun z => Nat.beq z.1 136) = true ∧ zMk.any (fun z => Nat.beq z.1 96) = true := by decide +kernel
theorem zx2 : xF 136 ≤ 8 ∧ xF 96 ≤ 8 ∧ xL 136 = 1 ∧ xL 96 = 2 := by decide +kernel
set_option maxHeartbeats 4000000 in
theorem cR_init (l : Launch) (D : va_G) (cA : Nat → ClassId) (q0 sz : Nat) :
    Met l (xY 136) (xWs 136) (zRm2 (zGR.length - 1) (zsz zGR - zsz zR0)) (va_Pc [.ref q0] (zPre D (fun _ => q0) cA zR0 sz)) (va_Qv (fun ad : Nat → Nat => ad 0 = q0) (fun ad => xPost D ad cA xSR zRM (va_A (zws (fun _ => q0) cA zR0 0) sz)) (va_A (zws (fun _ => q0) cA zR0 0) sz)) (zGR.length - 1) (zsz zGR - zsz zR0) (va_A (zws (fun _ => q0) cA zR0 0) sz) := by
  obtain ⟨h1, h2, h3, h4, h5, h6, h7, h8, h9⟩ := zmk_spec zmk2.1
  obtain ⟨f1, -, f3, -⟩ := zx2
  refine Met.ofW (cc := xB 136) (maxL := xL 136) (ret := xRt 136) h4 rfl ?_
  intro p e s m args below meth c s₁ B hml hv
  obtain ⟨rfl, rfl, hP, hK, hD0, hN⟩ := hv
  have hts0 := atoms_spec (ws := xWs 136) B.pre
  have hown : s.vm.findClass (xY 136).cls = some m.cls := findClass_of_methodNamed B.named
  have hin : meth.name = "<init>" := (name_of_methodNamed B.named B.method).1.trans h5
  have hl := lv_entry ([.ref q0]) (n := xL 136) (by rw [f3]; exact Nat.le_refl 1)
  rw [lg_entry_eq]
  generalize (lg_sl ([.ref q0]) ++ List.replicate (xL 136 - (lg_sl ([.ref q0])).length) Slot.unset).toArray = ls at hl ⊢
  have hl0 : ls[0]? = some (.val (.ref q0)) := hl.2.2 _ List.mem_cons_self
  have hF : (headSpec (xWs 136) (zRm2 (zGR.length - 1) (zsz zGR - zsz zR0))).room = zRm2 (zGR.length - 1) (zsz zGR - zsz zR0) := rfl
  rw [hF]
  have key := zsound 400 3 136 0 0 zR0 [] (by decide) (zok1 10) (fun v w => by cases w) (by decide) l (fun _ => q0) cA D (va_A (zws (fun _ => q0) cA zR0 0) s.heap.size) p e (zRm2 (zGR.length - 1) (zsz zGR - zsz zR0)) s m #[.ref q0] below meth c s.heap [] (xL 136) 1 (zsz zR0) ls
    (MQ below (va_Qv (fun ad : Nat → Nat => ad 0 = q0) (fun ad => xPost D ad cA xSR zRM (va_A (zws (fun _ => q0) cA zR0 0) s.heap.size)) (va_A (zws (fun _ => q0) cA zR0 0) s.heap.size)) #[.ref q0] s (zGR.length - 1) (zsz zGR - zsz zR0) (va_A (zws (fun _ => q0) cA zR0 0) s.heap.size))
    ⟨B.exec, B.bytes, hml, hown, fun w hw => hts0 w (List.mem_cons_of_mem _ hw), hin, by show 4 ≤ 8; decide, by show 80 ≤ 320; decide, hK, hN⟩ hP hD0.self va_S.rf (fun q hq => Or.inr hq) hl.1 hl0 (Nat.le_refl _) (Nat.le_refl _)
  have zr : zrun 400 3 136 0 0 zR0 [] = (105, zGR, [.ref 0]) := zrR
  rw [zr, Nat.sub_self, show zR0.length - 1 = 0 from rfl] at key
  refine key (Nat.le_refl _) (Nat.le_refl _) (fun ad' H1 locs1 ha _ _ hP1 hD1 hS1 => ?_)
  have ha0 : ad' 0 = q0 := ha 0 (by decide)
  simp only [zGR_w] at hP1 hD1
  refine xsound 4000 xSR 136 105 [.ref 0] [.ref 0] (zM zGR) none zRM zrunR_ok (by decide) l ad' cA D _ p e _ s m _ below meth c H1 locs1 _ _ ls _ _ ⟨B.exec, B.bytes, hml, hown, fun w hw => hts0 w (List.mem_cons_of_mem _ hw), B.returns, B.notSynchronized, f1, by show 40 * xF 136 ≤ 320; omega, hK, hN.x⟩ hP1 hD1 hS1 (Nat.le_refl _) (Nat.le_refl _) ⟨hl.1, hl.2.1, f3.symm, fun i v hi hn => ?_⟩ (fun q hq => Or.inr hq) (fun q hq => hq) (fun t locs2 hW hP2 hD2 hS2 => ?_)
  · cases i with
    | zero =>
      cases hi
      show ls[0]? = some (.val (.ref (ad' 0)))
      rw [ha0]
      exact hl0
    | succ i => cases hi
  · exact ⟨⟨ad', rfl, ha0, hP2, va_K.moved hW.alike hK, hD2⟩, hS2.F rfl⟩
