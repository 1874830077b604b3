/-! both sides as they are made: what their memories hold -/
def zGC : zG := [(0, 9, [.ref 1, .ref 9, .ref 14, .ref 19, .int 0, .ref 24, .ref 26, .int 0, .ref 27, .ref 31, .ref 33, .ref 34, .ref 39, .ref 41]), (0, 6, [.ref 2, .ref 3, .int 0, .int 1, .int 0, .ref 4]), (2, 200, []), (1, 6, []), (0, 3, [.int 3, .int 0, .int 0, .ref 5, .ref 6, .ref 7, .ref 8]), (1, 48, []), (1, 15, []), (1, 80, []), (1, 10, []), (0, 3, [.int 3, .int 0, .int 0, .ref 10, .ref 11, .ref 12, .ref 13]), (1, 48, []), (1, 15, []), (1, 80, []), (1, 10, []), (0, 3, [.int 3, .int 0, .int 0, .ref 15, .ref 16, .ref 17, .ref 18]), (1, 48, []), (1, 15, []), (1, 80, []), (1, 10, []), (0, 3, [.int 3, .int 0, .int 0, .ref 20, .ref 21, .ref 22, .ref 23]), (1, 48, []), (1, 15, []), (1, 80, []), (1, 10, []), (0, 0, [.ref 25, .int 0, .int 0]), (1, 48, []), (1, 12, []), (0, 2, [.ref 28, .ref 29, .ref 30, .int 0]), (1, 8, []), (1, 8, []), (1, 8, []), (0, 7, [.int 0, .int 0, .int 3, .ref 32]), (1, 16, []), (0, 4, [.int 1, .int 1, .int 0, .int 1]), (0, 8, [.ref 35, .ref 36, .ref 37, .ref 38, .int 1000000, .int (-1)]), (0, 4, [.int 1, .int 1, .int 0, .int 1]), (1, 64, []), (1, 32, []), (1, 32, []), (0, 5, [.ref 40, .int 0, .int 0, .int 0, .int 0]), (0, 4, [.int 1, .int 1, .int 0, .int 1]), (0, 1, [.ref 42, .ref 43, .ref 44, .int 0]), (1, 8, []), (1, 8, []), (1, 8, [])]
def zGR : zG := [(0, 10, [.ref 1, .ref 2, .int 0, .ref 3, .int 0, .ref 4, .ref 5, .int 0, .int 0, .ref 6, .int 0, .int 0, .ref 7, .ref 8, .ref 9, .ref 10, .int 0, .ref 11, .int 0, .ref 12]), (1, 156, []), (1, 200, []), (1, 156, []), (1, 6, []), (1, 3, []), (1, 48, []), (1, 12, []), (1, 156, []), (1, 32, []), (1, 32, []), (1, 32, []), (1, 312, [])]
set_option maxRecDepth 100000 in
theorem zrC : zrun 400 3 96 0 0 [(0, 9, zdef 9)] [] = (144, zGC, [.int 0]) := by decide +kernel
set_option maxRecDepth 100000 in
theorem zrR : zrun 400 3 136 0 0 [(0, 10, zdef 10)] [] = (105, zGR, [.ref 0]) := by decide +kernel
theorem zGC_sh : zGC.map zSh1 = xSC ∧ zGC.all zpl = true ∧ zGC.length = 45 ∧ zsz [(0, 9, zdef 9)] = 14 := by decide +kernel
theorem zGR_sh : zGR.map zSh1 = xSR ∧ zGR.all zpl = true ∧ zGR.length = 13 ∧ zsz [(0, 10, zdef 10)] = 20 := by decide +kernel
theorem zGC_w (ad : Nat → Nat) (cA : Nat → ClassId) : zws ad cA zGC 0 = xws ad cA (zM zGC) xSC 0 := by rw [zws_xws ad cA zGC zGC_sh.2.1, zGC_sh.1]
theorem zGR_w (ad : Nat → Nat) (cA : Nat → ClassId) : zws ad cA zGR 0 = xws ad cA (zM zGR) xSR 0 := by rw [zws_xws ad cA zGR zGR_sh.2.1, zGR_sh.1]
/-- the house of the first text -/
def zTx : List Nat := [114, 51, 59, 100, 48, 44, 49, 44, 48, 44, 49, 59, 100, 49, 44, 50, 44, 49, 44, 50, 59, 115, 48, 44, 48, 44, 57, 59, 115, 49, 44, 48, 44, 54, 59, 112, 48, 44, 48, 59, 112, 50, 44, 49, 59]
def zh0 : Nat → Nat := fun j => if j = 1 ∨ j = 2 ∨ j = 10 ∨ j = 12 ∨ j = 54 then 2 else if j = 4 ∨ j = 6 ∨ j = 9 ∨ j = 11 ∨ j = 55 then 1 else if j = 7 then 9 else if j = 13 then 6 else xpl j
def zS0 : xA := fun a j => if a = 0 then zh0 j else 0
/-- behind i letters of it -/
def zapp : Nat → xM
  | 0 => zM zGC
  | i + 1 => match xrun xSC 60 69 0 [.ref 1, .int (Int32.ofNat (zTx.getD i 0))] [] (zapp i) with
    | some q => q.2
    | none => zapp i
set_option maxRecDepth 1000000 in
theorem zapp_all : (List.range 45).all (fun i => decide ((xrun xSC 60 69 0 [.ref 1, .int (Int32.ofNat (zTx.getD i 0))] [] (zapp i)).map (fun q => q.1) = some none)) = true := by decide +kernel
theorem zapp_step {i : Nat} (h : i < 45) : xrun xSC 60 69 0 [.ref 1, .int (Int32.ofNat (zTx.getD i 0))] [] (zapp i) = some (none, zapp (i + 1)) := by
  have h1 := of_decide_eq_true (List.all_eq_true.mp zapp_all i (List.mem_range.mpr h))
  simp only [zapp]
  cases hq : xrun xSC 60 69 0 [.ref 1, .int (Int32.ofNat (zTx.getD i 0))] [] (zapp i) with
  | none => rw [hq] at h1; cases h1
  | some q =>
    rw [hq] at h1
    obtain ⟨a, b⟩ := q
    cases h1
    rfl
def zrunC : Option (Option Value × xM) := xrun xSC 100000 96 173 [.ref 0, .int 45] [] (zapp 45)
def zrunR : Option (Option Value × xM) := xrun xSR 4000 136 105 [.ref 0] [.ref 0] (zM zGR)
def zsnd (x : Option (Option Value × xM)) : xM := match x with
  | some q => q.2
  | none => fun _ _ => 0
def zCM : xM := zsnd zrunC
def zRM : xM := zsnd zrunR
set_option maxRecDepth 1000000 in
theorem zrunC_a : zrunC.map (fun q => q.1) = some none := by decide +kernel
set_option maxRecDepth 1000000 in
theorem zrunR_a : zrunR.map (fun q => q.1) = some none := by decide +kernel
theorem zget {x : Option (Option Value × xM)} (h : x.map (fun q => q.1) = some none) : x = some (none, zsnd x) := by
  cases x with
  | none => cases h
  | some q =>
    obtain ⟨a, b⟩ := q
    cases h
    rfl
theorem zrunC_ok0 : zrunC = some (none, zCM) := zget zrunC_a
theorem zrunC_ok : xrun xSC 100000 96 173 [.ref 0, .int 45] [] (zapp 45) = some (none, zCM) := by
  have h := zrunC_ok0
  unfold zrunC at h
  exact h
theorem zrunR_ok0 : zrunR = some (none, zRM) := zget zrunR_a
theorem zrunR_ok : xrun xSR 4000 136 105 [.ref 0] [.ref 0] (zM zGR) = some (none, zRM) := by
  have h := zrunR_ok0
  unfold zrunR at h
  exact h
set_option maxRecDepth 1000000 in
theorem zCM_a : (zCM 1 4 = nI 0 ∧ zCM 0 7 = nI 0 ∧ zCM 27 3 = nI 0 ∧ zCM 0 4 = nI 0 ∧ zCM 24 1 = nI 0 ∧ zCM 24 2 = nI 0 ∧ zCM 9 0 = nI 3 ∧ zCM 9 1 = nI 2 ∧ zCM 9 2 = nI 2) ∧ (List.range 48).all (fun j => decide (zCM 10 j = nI (zh0 (3 + j)))) = true ∧ (List.range 6).all (fun j => decide (zCM 11 j = nI (zh0 (51 + j)))) = true := by decide +kernel
set_option maxRecDepth 1000000 in
theorem zCM_b : (List.range 80).all (fun j => decide (zCM 12 j = nI (zh0 (66 + j)))) = true ∧ (List.range 10).all (fun j => decide (zCM 13 j = nI (zh0 (146 + j)))) = true := by decide +kernel
set_option maxRecDepth 1000000 in
theorem zRM_a : (zRM 0 2 = nI 0 ∧ zRM 0 11 = nI 0 ∧ zRM 0 16 = nI 0 ∧ zRM 0 18 = nI 0 ∧ zRM 0 10 = nI 0) ∧ (List.range 156).all (fun j => decide (zRM 1 j = if 51 ≤ j ∧ j < 66 ∧ j % 3 = 2 then (if zh0 j = 3 then -4 else nI (zh0 j)) else nI (zh0 j))) = true := by decide +kernel
theorem zall {n : Nat} {f : Nat → Bool} (h : (List.range n).all f = true) (j : Nat) (hj : j < n) : f j = true := List.all_eq_true.mp h j (List.mem_range.mpr hj)
theorem zRC : RC zS0 zCM := by
  obtain ⟨⟨a1, a2, a3, a4, a5, a6, a7, a8, a9⟩, b1, b2⟩ := zCM_a
  obtain ⟨b3, b4⟩ := zCM_b
  refine ⟨⟨a1, fun j hj => absurd hj (Nat.not_lt_zero j)⟩, ⟨⟨a7, a8, a9⟩, fun j hj => of_decide_eq_true (zall b1 j hj), fun j hj => of_decide_eq_true (zall b2 j hj), fun j hj => of_decide_eq_true (zall b3 j hj), fun j hj => of_decide_eq_true (zall b4 j hj)⟩, ⟨a2, fun j hj => absurd hj (Nat.not_lt_zero j)⟩, ⟨a3, fun j hj => absurd hj (Nat.not_lt_zero j)⟩, ⟨a4, fun h => absurd h (by decide), fun h => absurd h (by decide)⟩, 0, by decide, a5, a6, fun i hi => absurd hi (Nat.not_lt_zero i)⟩
theorem zRR : RR zS0 zRM := by
  obtain ⟨⟨a1, a2, a3, a4, a5⟩, b1⟩ := zRM_a
  refine ⟨⟨a1, fun j hj => absurd hj (Nat.not_lt_zero j)⟩, ⟨fun j hj hn => ?_, fun j hj => ?_⟩, ⟨a2, fun j hj => absurd hj (Nat.not_lt_zero j)⟩, ⟨a3, fun j hj => absurd hj (Nat.not_lt_zero j)⟩, ⟨a4, fun h => absurd h (by decide), fun h => absurd h (by decide)⟩, a5, fun i hi => absurd hi (Nat.not_lt_zero i)⟩
  · have := of_decide_eq_true (zall b1 j hj)
    have hn2 : ¬ (51 ≤ j ∧ j < 66 ∧ j % 3 = 2) := hn
    rw [if_neg hn2] at this
    exact this
  · have h1 : 51 ≤ j ∧ j < 66 ∧ j % 3 = 2 := hj
    have := of_decide_eq_true (zall b1 j (by omega))
    rw [if_pos h1] at this
    exact this
theorem zWA : WA zS0 := by
  refine ⟨⟨by decide, fun j hj => absurd hj (Nat.not_lt_zero j)⟩, ?_, ⟨by decide, fun j hj => absurd hj (Nat.not_lt_zero j)⟩, ⟨by decide, fun j hj => absurd hj (Nat.not_lt_zero j)⟩, ⟨by decide, fun h => absurd h (by decide), fun h => absurd h (by decide)⟩, by decide, fun i hi => absurd hi (Nat.not_lt_zero i)⟩
  exact ⟨by decide, by decide +kernel, by decide +kernel, by decide +kernel, by decide +kernel⟩
