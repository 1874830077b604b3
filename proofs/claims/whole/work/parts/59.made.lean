/-! what is made: the constructors, by a small machine over the cells that are made, in their order -/
abbrev zG : Type := List (Nat × Nat × List Value)
def zce (ad : Nat → Nat) (cA : Nat → ClassId) (e : Nat × Nat × List Value) : va_E := match e.1 with
  | 0 => .inr (e.2.1, e.2.2.map (xv ad))
  | 1 => .inl (cA 0, e.2.1, .inl fun _ => 0)
  | _ => .inl (cA 1, e.2.1, .inl fun _ => 0)
def zws (ad : Nat → Nat) (cA : Nat → ClassId) : zG → Nat → va_W
  | [], _ => []
  | e :: r, a => (ad a, zce ad cA e) :: zws ad cA r (a + 1)
def zs1 (e : Nat × Nat × List Value) : Nat := match e.1 with
  | 0 => e.2.2.length
  | _ => e.2.1
def zsz (G : zG) : Nat := (G.map zs1).sum
def zvk (n : Nat) : Value → Bool
  | .ref k => Nat.blt k n
  | _ => true
def zok (n : Nat) (G : zG) : Prop := ∀ e ∈ G, ∀ v ∈ e.2.2, zvk n v = true
def zoks (n : Nat) (st : List Value) : Prop := ∀ v ∈ st, zvk n v = true
def zNews : List (Nat × Nat × Nat × Nat × Nat × Nat) := [(60, 9, 4, 1223, 1161, 1007), (68, 30, 3, 1033, 1034, 1003), (89, 9, 4, 1193, 1161, 1007), (96, 9, 6, 1027, 1028, 1002), (96, 16, 3, 1093, 1034, 1003), (96, 33, 0, 1095, 1096, 1004), (96, 47, 2, 1112, 1113, 1005), (96, 54, 7, 1132, 1133, 1006), (96, 61, 4, 1160, 1161, 1007), (96, 68, 8, 1187, 1188, 1008), (96, 75, 5, 1217, 1218, 1009), (96, 82, 1, 2005, 2006, 1010)]
def zCalls : List (Nat × Nat × Nat × Nat) := [(4, 3, 0, 1100), (10, 3, 0, 2010), (15, 3, 0, 1117), (20, 3, 0, 1038), (42, 3, 0, 1165), (60, 3, 0, 1222), (60, 11, 42, 0), (68, 3, 0, 1032), (68, 32, 20, 0), (84, 3, 0, 1137), (89, 3, 0, 1192), (89, 11, 42, 0), (96, 3, 0, 1024), (96, 11, 68, 0), (96, 18, 20, 0), (96, 35, 4, 0), (96, 49, 15, 0), (96, 56, 84, 0), (96, 63, 42, 0), (96, 70, 89, 0), (96, 77, 60, 0), (96, 84, 10, 0), (136, 1, 0, 4206)]
def zNK : List (String × Nat × MethodName) := [("PushSaidDoor$TextReader", 75, ⟨"PushSaidDoor", "isWithin", "(III)Z"⟩), ("PushSaidDoor$Stranger", 11, xY 42), ("PushSaidDoor$TextReader", 32, xY 20), ("PushSaidDoor$WayFinder", 11, xY 42), ("PushSaidDoor", 11, xY 68), ("PushSaidDoor", 18, xY 20), ("PushSaidDoor", 35, xY 4), ("PushSaidDoor", 49, xY 15), ("PushSaidDoor", 56, xY 84), ("PushSaidDoor", 63, xY 42), ("PushSaidDoor", 70, xY 89), ("PushSaidDoor", 77, xY 60), ("PushSaidDoor", 84, xY 10)]
def zMk : List (Nat × Nat × Nat × Nat) := [(4, 1099, 1098, 1004), (10, 2009, 2008, 1010), (15, 1116, 1115, 1005), (20, 1037, 1036, 1003), (42, 1164, 1163, 1007), (60, 1221, 1220, 1009), (68, 1031, 1030, 1002), (84, 1136, 1135, 1006), (89, 1191, 1190, 1008), (96, 1023, 1022, 1001), (136, 4205, 4204, 1018)]
def zfind {α : Type} (f : α → Bool) : List α → Option α
  | [] => none
  | x :: r => bif f x then some x else zfind f r
theorem zfind_mem {α : Type} {f : α → Bool} : ∀ {L : List α} {x : α}, zfind f L = some x → x ∈ L ∧ f x = true
  | [], _, h => by cases h
  | y :: r, x, h => by
    simp only [zfind] at h
    cases hf : f y with
    | true =>
      rw [hf] at h
      cases h
      exact ⟨List.mem_cons_self, hf⟩
    | false =>
      rw [hf] at h
      obtain ⟨h1, h2⟩ := zfind_mem h
      exact ⟨List.mem_cons_of_mem _ h1, h2⟩
def zdef (ci : Nat) : List Value := match xCl[ci]? with
  | some (_, _, N) => (List.range N).map (fun j => defaultValue (xTy ci j))
  | none => []
def zfit (ty : FieldType) (v : Value) : Bool := match v with
  | .int x => xfits ty x
  | .ref _ => (match ty with
    | .object _ => true
    | .array _ => true
    | _ => false)
  | _ => false
def zput (mid a b : Nat) (G : zG) (st : List Value) (pc : Nat) : Option (Nat × zG × List Value) := match st with
  | v :: .ref x :: s => match G[x]? with
    | some (0, cj, fs) => bif Nat.beq a cj && Nat.blt b fs.length && zfit (xTy a b) v && decide ((xCl[a]?).map (fun q => q.1) = some (xO mid)) then some (pc, G.set x (0, cj, fs.set b v), s) else none
    | _ => none
  | _ => none
def zarr (ty : ArrayType) (G : zG) (st : List Value) (pc : Nat) : Option (Nat × zG × List Value) := match st with
  | .int x :: s => bif decide (¬ x < 0) && Nat.ble x.toNatClampNeg 1000 then (match ty with
    | .int => some (pc, G ++ [(1, x.toNatClampNeg, [])], .ref G.length :: s)
    | .char => some (pc, G ++ [(2, x.toNatClampNeg, [])], .ref G.length :: s)
    | _ => none) else none
  | _ => none
def zstep (mid r pc : Nat) (G : zG) (st : List Value) : Option (Nat × zG × List Value) := match xget (xCode mid) pc with
  | some (i, _, a, b, _, k) => match i with
    | .aload_n j => bif Nat.beq j 0 then some (pc + 1, G, .ref r :: st) else none
    | .iconst n => some (pc + 1, G, .int (Int32.ofInt n) :: st)
    | .bipush n => some (pc + 2, G, .int (Int8.ofInt n).toInt32 :: st)
    | .sipush n => some (pc + 3, G, .int (Int16.ofInt n).toInt32 :: st)
    | .ldc _ => bif decide (k = 0) then none else some (pc + 2, G, .int (Int32.ofInt k) :: st)
    | .dup => (match st with
      | .ref x :: s => some (pc + 1, G, .ref x :: .ref x :: s)
      | _ => none)
    | .newarray ty => zarr ty G st (pc + 2)
    | .new ix => (match zfind (fun q => Nat.beq q.1 mid && Nat.beq q.2.1 ix) zNews with
      | some q => some (pc + 3, G ++ [(0, q.2.2.1, zdef q.2.2.1)], .ref G.length :: st)
      | none => none)
    | .putfield _ => zput mid a b G st (pc + 3)
    | _ => none
  | none => none
/-- a call: which constructor (0: Object's), on which cell, what lies below -/
def zcall (mid pc : Nat) (st : List Value) : Option (Nat × Nat × List Value) := match xget (xCode mid) pc with
  | some (.invokespecial ix, _) => (match zfind (fun q => Nat.beq q.1 mid && Nat.beq q.2.1 ix) zCalls, st with
    | some q, .ref x :: s => bif Nat.ble s.length 4 then some (q.2.2.1, x, s) else none
    | _, _ => none)
  | _ => none
def zret (mid pc : Nat) : Bool := match xget (xCode mid) pc with
  | some (.return_, _) => true
  | _ => false
def zrun : Nat → Nat → Nat → Nat → Nat → zG → List Value → Nat × zG × List Value
  | 0, _, _, _, pc, G, st => (pc, G, st)
  | n + 1, d, mid, r, pc, G, st => match zstep mid r pc G st with
    | some (pc', G', st') => zrun n d mid r pc' G' st'
    | none => match zcall mid pc st with
      | none => (pc, G, st)
      | some (0, _, s) => zrun n d mid r (pc + 3) G s
      | some (mid', x, s) => match d with
        | 0 => (pc, G, st)
        | d' + 1 => match zrun n d' mid' x 0 G [] with
          | (pc1, G1, st1) => bif zret mid' pc1 && st1.isEmpty then zrun n d mid r (pc + 3) G1 s else (pc, G, st)
/-! the tables -/
def zNewOk (q : Nat × Nat × Nat × Nat × Nat × Nat) : Bool := match xCl[q.2.2.1]? with
  | some (R, _, N) => xis q.2.2.2.1 (.classLink (xO q.1) q.2.1 R) && xis q.2.2.2.2.1 (.instantiable R N) && xis q.2.2.2.2.2 (.initialized R)
  | none => false
theorem zNews_ok : zNews.all zNewOk = true := by decide +kernel
def zCallOk (q : Nat × Nat × Nat × Nat) : Bool := bif Nat.beq q.2.2.1 0 then xis q.2.2.2 (.methodLink (xO q.1) q.2.1 objectInit) else Nat.blt q.2.2.1 204 && zNK.any (fun z => decide (z = (xO q.1, q.2.1, xY q.2.2.1))) && zMk.any (fun z => Nat.beq z.1 q.2.2.1)
theorem zCalls_ok : zCalls.all zCallOk = true := by decide +kernel
def zMkOk (q : Nat × Nat × Nat × Nat) : Bool := xis q.2.1 (.code (xY q.1) (xB q.1) (xL q.1) (xRt q.1)) && xis q.2.2.1 (.instanceMethod (xY q.1)) && xis q.2.2.2 (.initialized (xY q.1).cls) && plainName (xY q.1).cls && decide ((xY q.1).name = "<init>") && decide ((parseMethodDescriptor (xY q.1).desc).map (fun d => d.parameters.length) = some 0) && decide ((xY q.1).cls ≠ "java/lang/invoke/MethodHandle") && decide ((xY q.1).cls ≠ "java/lang/invoke/VarHandle") && Nat.ble (xL q.1) 2 && decide (xRt q.1 = none) && (Nat.beq q.1 96 || Nat.beq (xL q.1) 1)
theorem zMk_ok : zMk.all zMkOk = true := by decide +kernel
theorem zoi : xis 1025 (.instanceMethod objectInit) = true ∧ xis 1026 (.code objectInit ⟨#[0xb1]⟩ 1 none) = true ∧ xis 1071 (.arrayClass .int) = true ∧ xis 1070 (.arrayClass .char) = true := by decide +kernel
def zN (U : State) : Prop := ∀ q ∈ zNK, va_Nw (.methodLinkNest q.1 q.2.1 q.2.2 "PushSaidDoor") U
theorem zN.warm {s U : State} (hW : s.WarmedH U.vm) (h : zN s) : zN U := fun q hq => va_Nw.warmM hW (h q hq)
theorem zN.same {u U : State} (e : u.vm = U.vm) (h : zN u) : zN U := fun q hq => va_Nw.same rfl e (h q hq)
theorem zN.x {s : State} (h : zN s) : va_Nw xNw s := h _ List.mem_cons_self
/-! the cells -/
theorem zws_get (ad : Nat → Nat) (cA : Nat → ClassId) : ∀ (G : zG) (a k : Nat), (zws ad cA G a)[k]? = (G[k]?).map (fun e => (ad (a + k), zce ad cA e))
  | [], a, k => by simp [zws]
  | e :: r, a, 0 => by simp [zws]
  | e :: r, a, k + 1 => by
    have h := zws_get ad cA r (a + 1) k
    simp only [zws, List.getElem?_cons_succ]
    rw [h, show a + 1 + k = a + (k + 1) by omega]
theorem zws_at {ad : Nat → Nat} {cA : Nat → ClassId} {G : zG} {a : Nat} {e : Nat × Nat × List Value} (h : G[a]? = some e) : (zws ad cA G 0)[a]? = some (ad a, zce ad cA e) := by
  rw [zws_get, h, Nat.zero_add]
  rfl
theorem zws_set {ad : Nat → Nat} {cA : Nat → ClassId} {G : zG} {x : Nat} {e : Nat × Nat × List Value} : (zws ad cA G 0).set x (ad x, zce ad cA e) = zws ad cA (G.set x e) 0 := by
  apply List.ext_getElem?
  intro i
  rw [List.getElem?_set, zws_get, zws_get, List.getElem?_set]
  have hl : (zws ad cA G 0).length = G.length := by
    have key : ∀ (G : zG) (a : Nat), (zws ad cA G a).length = G.length := by
      intro G
      induction G with
      | nil => intro a; rfl
      | cons e r ih => intro a; simp [zws, ih]
    exact key G 0
  rw [hl]
  by_cases q : x = i
  · subst q
    rw [if_pos rfl, if_pos rfl]
    by_cases z : x < G.length
    · rw [if_pos z, if_pos z]
      simp
    · rw [if_neg z, if_neg z]
      rfl
  · rw [if_neg q, if_neg q]
theorem zxv {n : Nat} {ad ad' : Nat → Nat} (h : ∀ i, i < n → ad' i = ad i) {v : Value} (hv : zvk n v = true) : xv ad' v = xv ad v := by
  cases v with
  | ref k => exact congrArg Value.ref (h k (xblt hv))
  | _ => rfl
theorem zmap {n : Nat} {ad ad' : Nat → Nat} (h : ∀ i, i < n → ad' i = ad i) {st : List Value} (hv : zoks n st) : st.map (xv ad') = st.map (xv ad) := List.map_congr_left (fun v q => zxv h (hv v q))
theorem zws_ext {n : Nat} {ad ad' : Nat → Nat} {cA : Nat → ClassId} (h : ∀ i, i < n → ad' i = ad i) : ∀ (G : zG) (a : Nat), zok n G → a + G.length ≤ n → zws ad' cA G a = zws ad cA G a
  | [], a, _, _ => rfl
  | e :: r, a, hk, hl => by
    simp only [List.length_cons] at hl
    simp only [zws]
    rw [zws_ext h r (a + 1) (fun e q => hk e (List.mem_cons_of_mem _ q)) (by omega), h a (by omega)]
    have e1 : zce ad' cA e = zce ad cA e := by
      obtain ⟨k, c, vs⟩ := e
      have e2 : vs.map (xv ad') = vs.map (xv ad) := zmap h (hk _ List.mem_cons_self)
      unfold zce
      split
      · simp only [e2]
      · rfl
      · rfl
    rw [e1]
theorem zws_app (ad : Nat → Nat) (cA : Nat → ClassId) (e : Nat × Nat × List Value) : ∀ (G : zG) (a : Nat), zws ad cA (G ++ [e]) a = zws ad cA G a ++ [(ad (a + G.length), zce ad cA e)]
  | [], a => rfl
  | b :: r, a => by
    simp only [List.cons_append, zws, List.length_cons]
    rw [zws_app ad cA e r (a + 1), show a + 1 + r.length = a + (r.length + 1) by omega]
theorem zvk_mono {n m : Nat} (h : n ≤ m) {v : Value} (hv : zvk n v = true) : zvk m v = true := by
  cases v with
  | ref k => exact Nat.ble_eq_true_of_le (Nat.lt_of_lt_of_le (xblt hv) h)
  | _ => rfl
theorem zok.mono {n m : Nat} {G : zG} (h : n ≤ m) (hk : zok n G) : zok m G := fun e q v w => zvk_mono h (hk e q v w)
theorem zoks.mono {n m : Nat} {st : List Value} (h : n ≤ m) (hk : zoks n st) : zoks m st := fun v w => zvk_mono h (hk v w)
def zad (ad : Nat → Nat) (n q : Nat) : Nat → Nat := fun i => if i = n then q else ad i
theorem zad_lt (ad : Nat → Nat) (n q : Nat) : ∀ i, i < n → zad ad n q i = ad i := fun i h => if_neg (Nat.ne_of_lt h)
theorem zad_at (ad : Nat → Nat) (n q : Nat) : zad ad n q n = q := if_pos rfl
theorem zws_new {ad : Nat → Nat} {cA : Nat → ClassId} {G : zG} {e : Nat × Nat × List Value} {q : Nat} (hk : zok G.length G) (he : ∀ v ∈ e.2.2, zvk G.length v = true) : zws (zad ad G.length q) cA (G ++ [e]) 0 = zws ad cA G 0 ++ [(q, zce ad cA e)] := by
  rw [zws_app, zws_ext (zad_lt ad G.length q) G 0 hk (by omega), Nat.zero_add, zad_at]
  have e1 : zce (zad ad G.length q) cA e = zce ad cA e := by
    obtain ⟨k, c, vs⟩ := e
    have e2 : vs.map (xv (zad ad G.length q)) = vs.map (xv ad) := zmap (zad_lt ad G.length q) he
    unfold zce
    split
    · simp only [e2]
    · rfl
    · rfl
  rw [e1]
theorem zsz_app (G : zG) (e : Nat × Nat × List Value) : zsz (G ++ [e]) = zsz G + zs1 e := by simp [zsz]
theorem zsz_set : ∀ (G : zG) (x : Nat) (e e' : Nat × Nat × List Value), G[x]? = some e → zs1 e' = zs1 e → zsz (G.set x e') = zsz G
  | [], x, e, e', h, _ => by simp at h
  | b :: r, 0, e, e', h, h2 => by
    simp at h
    subst h
    simp [zsz, h2]
  | b :: r, x + 1, e, e', h, h2 => by
    have := zsz_set r x e e' (by simpa using h) h2
    simp only [zsz, List.set_cons_succ, List.map_cons, List.sum_cons] at this ⊢
    rw [this]
theorem zdef_len {ci : Nat} {R : String} {T : u_T} {N : Nat} (h : xCl[ci]? = some (R, T, N)) : (zdef ci).length = N ∧ ∀ j, j < N → defaultValue (xTy ci j) = vp_V (zdef ci) j := by
  unfold zdef
  rw [h]
  refine ⟨by simp, fun j hj => ?_⟩
  simp [vp_V, List.getD, hj]
theorem zdef_ok (n ci : Nat) : ∀ v ∈ zdef ci, zvk n v = true := by
  intro v hv
  unfold zdef at hv
  split at hv
  · obtain ⟨j, -, rfl⟩ := List.mem_map.mp hv
    cases xTy ci j <;> rfl
  · cases hv
theorem zdef_map (ad : Nat → Nat) (ci : Nat) : (zdef ci).map (xv ad) = zdef ci := by
  have : (zdef ci).map (xv ad) = (zdef ci).map id := List.map_congr_left (fun v q => by
    have := zdef_ok 0 ci v q
    cases v with
    | ref k => exact absurd (xblt this) (Nat.not_lt_zero k)
    | _ => rfl)
  rw [this, List.map_id]
