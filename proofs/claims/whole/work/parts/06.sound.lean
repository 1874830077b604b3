/-! the small machine's cells in the heap -/
def xT : List Jvm.Cond := lw_tbl.filter goodWord
def xv (ad : Nat → Nat) : Value → Value
  | .ref q => .ref (ad q)
  | v => v
def xsv (ad : Nat → Nat) (f : Nat → Int32) : List (Option Nat) → Nat → List Value
  | [], _ => []
  | o :: r, j => (match o with
    | none => Value.int (f j)
    | some q => Value.ref (ad q)) :: xsv ad f r (j + 1)
def xce (ad : Nat → Nat) (cA : Nat → ClassId) (f : Nat → Int32) (e : Nat × Nat × List (Option Nat)) : va_E := match e.1 with
  | 0 => .inr (e.2.1, xsv ad f e.2.2 0)
  | 1 => .inl (cA 0, e.2.1, .inl f)
  | _ => .inl (cA 1, e.2.1, .inl f)
def xws (ad : Nat → Nat) (cA : Nat → ClassId) (M : xM) : xSh → Nat → va_W
  | [], _ => []
  | e :: r, a => (ad a, xce ad cA (M a) e) :: xws ad cA M r (a + 1)
def xtys (cA : Nat → ClassId) : List (ClassId × FieldType) := [(cA 0, .int), (cA 1, .char)]
theorem xws_get (ad : Nat → Nat) (cA : Nat → ClassId) (M : xM) : ∀ (S : xSh) (a k : Nat), (xws ad cA M S a)[k]? = (S[k]?).map (fun e => (ad (a + k), xce ad cA (M (a + k)) e))
  | [], a, k => by simp [xws]
  | e :: r, a, 0 => by simp [xws]
  | e :: r, a, k + 1 => by
    have h := xws_get ad cA M r (a + 1) k
    simp only [xws, List.getElem?_cons_succ]
    rw [h, show a + 1 + k = a + (k + 1) by omega]
theorem xws_at {ad : Nat → Nat} {cA : Nat → ClassId} {M : xM} {S : xSh} {a : Nat} {e : Nat × Nat × List (Option Nat)} (h : S[a]? = some e) : (xws ad cA M S 0)[a]? = some (ad a, xce ad cA (M a) e) := by
  rw [xws_get, h]
  simp
theorem xws_set {ad : Nat → Nat} {cA : Nat → ClassId} {M M' : xM} {S : xSh} {a : Nat} {e : Nat × Nat × List (Option Nat)} (h : S[a]? = some e) (hM : ∀ b, b ≠ a → M' b = M b) : (xws ad cA M S 0).set a (ad a, xce ad cA (M' a) e) = xws ad cA M' S 0 := by
  apply List.ext_getElem?
  intro i
  rw [List.getElem?_set, xws_get, xws_get]
  have hl : a < (xws ad cA M S 0).length := (List.getElem?_eq_some_iff.mp (xws_at (ad := ad) (cA := cA) (M := M) h)).1
  by_cases q : a = i
  · subst q
    rw [if_pos rfl, if_pos hl, h]
    simp
  · rw [if_neg q]
    simp only [Nat.zero_add]
    rw [hM i (fun z => q z.symm)]
theorem xsv_get (ad : Nat → Nat) (f : Nat → Int32) : ∀ (fs : List (Option Nat)) (j k : Nat) (o : Option Nat), fs[k]? = some o → (xsv ad f fs j)[k]? = some (match o with
    | none => Value.int (f (j + k))
    | some q => Value.ref (ad q))
  | [], j, k, o, h => by simp at h
  | p :: r, j, 0, o, h => by
    simp at h
    subst h
    simp [xsv]
  | p :: r, j, k + 1, o, h => by
    simp only [xsv, List.getElem?_cons_succ] at h ⊢
    rw [xsv_get ad f r (j + 1) k o h, show j + 1 + k = j + (k + 1) by omega]
theorem xsv_len (ad : Nat → Nat) (f : Nat → Int32) : ∀ (fs : List (Option Nat)) (j : Nat), (xsv ad f fs j).length = fs.length
  | [], j => rfl
  | p :: r, j => by simp [xsv, xsv_len ad f r (j + 1)]
theorem xsv_congr (ad : Nat → Nat) (f g : Nat → Int32) : ∀ (fs : List (Option Nat)) (j : Nat), (∀ i, j ≤ i → f i = g i) → xsv ad f fs j = xsv ad g fs j
  | [], j, h => rfl
  | p :: r, j, h => by
    simp only [xsv]
    rw [xsv_congr ad f g r (j + 1) (fun i hi => h i (by omega)), h j (Nat.le_refl j)]
theorem xsv_set (ad : Nat → Nat) (f : Nat → Int32) (x : Int32) : ∀ (fs : List (Option Nat)) (j k : Nat), fs[k]? = some none → (xsv ad f fs j).set k (.int x) = xsv ad (upd f (j + k) x) fs j
  | [], j, k, h => by simp at h
  | p :: r, j, 0, h => by
    simp at h
    subst h
    simp only [xsv, List.set_cons_zero, Nat.add_zero]
    rw [xsv_congr ad f (upd f j x) r (j + 1) (fun i hi => by simp [upd, show i ≠ j by omega])]
    simp [upd]
  | p :: r, j, k + 1, h => by
    simp only [List.getElem?_cons_succ] at h
    simp only [xsv, List.set_cons_succ]
    rw [xsv_set ad f x r (j + 1) k h, show j + 1 + k = j + (k + 1) by omega]
    have e : upd f (j + (k + 1)) x j = f j := by simp [upd]
    rw [e]
theorem xv_cat (ad : Nat → Nat) (v : Value) : (xv ad v).category = v.category := by cases v <;> rfl
/-! locals -/
def xLH (ad : Nat → Nat) (ls : Array Slot) (n : Nat) (L : List Value) : Prop := ls.size = n ∧ lv_wf ls ∧ L.length = n ∧ ∀ (i : Nat) (v : Value), L[i]? = some v → v ≠ .null → ls[i]? = some (.val (xv ad v))
def xlv (ad : Nat → Nat) (L : List Value) : List (Nat × Value) := (List.range L.length).filterMap (fun i => match L[i]? with
  | some v => if v = .null then none else some (i, xv ad v)
  | none => none)
theorem xlv_mem {ad : Nat → Nat} {L : List Value} {i : Nat} {w : Value} : (i, w) ∈ xlv ad L ↔ ∃ v, L[i]? = some v ∧ v ≠ .null ∧ w = xv ad v := by
  unfold xlv
  rw [List.mem_filterMap]
  constructor
  · rintro ⟨j, hj, h⟩
    cases hv : L[j]? with
    | none => rw [hv] at h; cases h
    | some v =>
      rw [hv] at h
      by_cases hn : v = .null
      · simp [hn] at h
      · simp [hn] at h
        obtain ⟨rfl, rfl⟩ := h
        exact ⟨v, hv, hn, rfl⟩
  · rintro ⟨v, hv, hn, rfl⟩
    exact ⟨i, List.mem_range.mpr (List.getElem?_eq_some_iff.mp hv).1, by simp [hv, hn]⟩
theorem xLH.has {ad : Nat → Nat} {ls : Array Slot} {n : Nat} {L : List Value} (h : xLH ad ls n L) : lv_has ls n (xlv ad L) := by
  refine ⟨h.1, h.2.1, fun q hq => ?_⟩
  obtain ⟨i, w⟩ := q
  obtain ⟨v, hv, hn, rfl⟩ := xlv_mem.mp hq
  exact h.2.2.2 i v hv hn
theorem xLH.of {ad : Nat → Nat} {ls : Array Slot} {n : Nat} {L : List Value} {lv : List (Nat × Value)} (h : lv_has ls n lv) (hl : L.length = n) (hm : ∀ (i : Nat) (v : Value), L[i]? = some v → v ≠ .null → (i, xv ad v) ∈ lv) : xLH ad ls n L :=
  ⟨h.1, h.2.1, hl, fun i v h1 h2 => h.2.2 _ (hm i v h1 h2)⟩
theorem xclr_len (L : List Value) : ∀ i, (xclr L i).length = L.length
  | 0 => rfl
  | j + 1 => by
    simp only [xclr]
    cases hk : L[j]? with
    | none => rfl
    | some v => cases hb : Nat.beq v.category 2 <;> simp [hb]
theorem xclr_get {L : List Value} {i j : Nat} {u : Value} (h : (xclr L i)[j]? = some u) (hn : u ≠ .null) : L[j]? = some u ∧ ¬ (j + 1 = i ∧ u.category = 2) := by
  cases i with
  | zero => exact ⟨h, by omega⟩
  | succ k =>
    simp only [xclr] at h
    cases hk : L[k]? with
    | none =>
      rw [hk] at h
      refine ⟨h, fun q => ?_⟩
      have : j = k := by omega
      subst this
      rw [hk] at h
      cases h
    | some v =>
      rw [hk] at h
      by_cases hc : v.category = 2
      · have hb : Nat.beq v.category 2 = true := by rw [hc]; rfl
        simp only [hb, cond_true] at h
        rw [List.getElem?_set] at h
        by_cases q : k = j
        · rw [if_pos q] at h
          split at h
          · cases h
            exact absurd rfl hn
          · cases h
        · rw [if_neg q] at h
          exact ⟨h, fun z => q (by omega)⟩
      · have hb : Nat.beq v.category 2 = false := by
          cases hb : Nat.beq v.category 2 with
          | false => rfl
          | true => exact absurd (Nat.eq_of_beq_eq_true hb) hc
        simp only [hb, cond_false] at h
        refine ⟨h, fun z => ?_⟩
        have : j = k := by omega
        subst this
        rw [hk] at h
        cases h
        exact hc z.2
theorem xLH.st1 {ad : Nat → Nat} {ls ls' : Array Slot} {n i : Nat} {L : List Value} {v : Value} (h : xLH ad ls n L) (hv : v.category = 1) (hw : lv_has ls' n ((i, xv ad v) :: (xlv ad L).filter (fun q => !(q.1 == i) && !(q.1 + 1 == i && q.2.category == 2)))) : xLH ad ls' n (xst1 L i v) := by
  refine xLH.of hw (by unfold xst1; rw [List.length_set, xclr_len]; exact h.2.2.1) (fun j u hu hn => ?_)
  unfold xst1 at hu
  rw [List.getElem?_set] at hu
  by_cases q : i = j
  · rw [if_pos q] at hu
    split at hu
    · cases hu
      subst q
      exact List.mem_cons_self
    · cases hu
  · rw [if_neg q] at hu
    obtain ⟨h1, h2⟩ := xclr_get hu hn
    refine List.mem_cons_of_mem _ (List.mem_filter.mpr ⟨xlv_mem.mpr ⟨u, h1, hn, rfl⟩, ?_⟩)
    have e1 : ¬ j = i := fun z => q z.symm
    simp only [xv_cat]
    by_cases z : j + 1 = i
    · have z2 : ¬ u.category = 2 := fun w => h2 ⟨z, w⟩
      simp [e1, z2]
    · simp [e1, z]
theorem xLH.st2 {ad : Nat → Nat} {ls ls' : Array Slot} {n i : Nat} {L : List Value} {v : Value} (h : xLH ad ls n L) (hw : lv_has ls' n ((i, xv ad v) :: (xlv ad L).filter (fun q => !(q.1 == i) && (!(q.1 == i + 1) && !(q.1 + 1 == i && q.2.category == 2))))) : xLH ad ls' n (xst2 L i v) := by
  refine xLH.of hw (by unfold xst2; rw [List.length_set, List.length_set, xclr_len]; exact h.2.2.1) (fun j u hu hn => ?_)
  unfold xst2 at hu
  rw [List.getElem?_set] at hu
  by_cases q1 : i + 1 = j
  · rw [if_pos q1] at hu
    split at hu
    · cases hu
      exact absurd rfl hn
    · cases hu
  rw [if_neg q1, List.getElem?_set] at hu
  by_cases q : i = j
  · rw [if_pos q] at hu
    split at hu
    · cases hu
      subst q
      exact List.mem_cons_self
    · cases hu
  · rw [if_neg q] at hu
    obtain ⟨h1, h2⟩ := xclr_get hu hn
    refine List.mem_cons_of_mem _ (List.mem_filter.mpr ⟨xlv_mem.mpr ⟨u, h1, hn, rfl⟩, ?_⟩)
    have e1 : ¬ j = i := fun z => q z.symm
    have e2 : ¬ j = i + 1 := fun z => q1 z.symm
    simp only [xv_cat]
    by_cases z : j + 1 = i
    · have z2 : ¬ u.category = 2 := fun w => h2 ⟨z, w⟩
      simp [e1, e2, z2]
    · simp [e1, e2, z]
theorem xent_mem (ad : Nat → Nat) : ∀ (vs : List Value) (n i j : Nat) (u : Value), (xent n vs)[j]? = some u → u ≠ .null → (i + j, xv ad u) ∈ lv_args i (vs.map (xv ad))
  | [], n, i, j, u, h, hn => by
    simp only [xent] at h
    exact absurd (List.eq_of_mem_replicate (List.mem_of_getElem? h)) hn
  | v :: vs, n, i, j, u, h, hn => by
    simp only [xent] at h
    simp only [List.map_cons, lv_args, xv_cat]
    by_cases hc : v.category = 2
    · have hb : Nat.beq v.category 2 = true := by rw [hc]; rfl
      simp only [hc, if_true]
      simp only [hb, cond_true] at h
      match j, h with
      | 0, h => simp at h; subst h; exact List.mem_cons_self
      | 1, h => simp at h; exact absurd h.symm hn
      | j + 2, h =>
        simp only [List.getElem?_cons_succ] at h
        have := xent_mem ad vs (n - 2) (i + 2) j u h hn
        rw [show i + (j + 2) = i + 2 + j by omega]
        exact List.mem_cons_of_mem _ this
    · have hb : Nat.beq v.category 2 = false := by
        cases hb : Nat.beq v.category 2 with
        | false => rfl
        | true => exact absurd (Nat.eq_of_beq_eq_true hb) hc
      rw [hb] at h
      simp only [hc, if_false]
      simp only [cond_false] at h
      match j, h with
      | 0, h => simp at h; subst h; exact List.mem_cons_self
      | j + 1, h =>
        simp only [List.getElem?_cons_succ] at h
        have := xent_mem ad vs (n - 1) (i + 1) j u h hn
        rw [show i + (j + 1) = i + 1 + j by omega]
        exact List.mem_cons_of_mem _ this
theorem xent_len : ∀ (vs : List Value) (n : Nat), xsz vs ≤ n → (xent n vs).length = n
  | [], n, h => by simp [xent]
  | v :: vs, n, h => by
    simp only [xsz] at h
    by_cases hc : v.category = 2
    · have hb : Nat.beq v.category 2 = true := by rw [hc]; rfl
      have := xent_len vs (n - 2) (by omega)
      simp only [xent, hb, cond_true, List.length_cons, this]
      omega
    · have hb : Nat.beq v.category 2 = false := by
        cases hb : Nat.beq v.category 2 with
        | false => rfl
        | true => exact absurd (Nat.eq_of_beq_eq_true hb) hc
      have h1 : 1 ≤ v.category := by cases v <;> simp [Value.category]
      have := xent_len vs (n - 1) (by omega)
      simp only [xent, hb, cond_false, List.length_cons, this]
      omega
theorem xsz_sl (ad : Nat → Nat) : ∀ (vs : List Value), (lg_sl (vs.map (xv ad))).length = xsz vs
  | [] => rfl
  | v :: vs => by
    have h := xsz_sl ad vs
    unfold lg_sl at h ⊢
    simp only [List.map_cons, List.flatMap_cons, List.length_append, h, xsz, xv_cat]
    rcases lv_cat v with hc | hc <;> simp [hc]
theorem xentry (ad : Nat → Nat) (vs : List Value) (n : Nat) (h : xsz vs ≤ n) : xLH ad ((lg_sl (vs.map (xv ad)) ++ List.replicate (n - (lg_sl (vs.map (xv ad))).length) Slot.unset).toArray) n (xent n vs) :=
  xLH.of (lv_entry (vs.map (xv ad)) (by rw [xsz_sl]; exact h)) (xent_len vs n h) (fun i v h1 h2 => by
    have := xent_mem ad vs n 0 i v h1 h2
    rwa [Nat.zero_add] at this)
theorem xcat_sum (ad : Nat → Nat) : ∀ (vs : List Value), ((vs.map (xv ad)).map fun v => v.category).sum ≤ 2 * vs.length
  | [] => by simp
  | v :: vs => by
    have h := xcat_sum ad vs
    simp only [List.map_cons, List.sum_cons, xv_cat, List.length_cons]
    rcases lv_cat v with hc | hc <;> omega
/-! what the tables say -/
theorem xis_T {c : Nat} {w : Jvm.Cond} (h : xis c w = true) : w ∈ xT := List.mem_filter.mpr (xis_in h)
theorem xT_good : ∀ w ∈ xT, (w.onTables && w.keeps) = true ∨ ∃ ty, w = .arrayClass ty := fun w h => good_of_word (List.mem_filter.mp h).2
theorem xT_tbl : ∀ w ∈ xT, w ∈ lw_tbl := fun w h => (List.mem_filter.mp h).1
theorem xT_goodIn {ws : List Jvm.Cond} (h : ∀ w ∈ ws, w ∈ xT) : GoodIn xT ws := fun w hw => ⟨h w hw, xT_good w (h w hw)⟩
theorem xcl_spec {ci : Nat} {R : String} {T : u_T} {N : Nat} (h : xCl[ci]? = some (R, T, N)) : (∀ w ∈ u_ws R T N, w ∈ xT) ∧ (∀ k, k < N → parseFieldDescriptor (T k).2.2.1 = some (xTy ci k)) ∧ ∀ a, a < N → ∀ b, b < N → a ≠ b → (T a).2.1 ≠ (T b).2.1 := by
  have hc : ci < 11 := (List.getElem?_eq_some_iff.mp h).1
  have h1 := List.all_eq_true.mp xcl_ok ci (List.mem_range.mpr hc)
  simp only [xclk, h, Bool.and_eq_true, List.all_eq_true, decide_eq_true_eq, List.mem_range, Bool.or_eq_true] at h1
  obtain ⟨⟨h2, h3⟩, h4⟩ := h1
  refine ⟨fun w hw => List.mem_filter.mpr (h2 w hw), h3, fun a ha b hb hab => ?_⟩
  rcases h4 a ha b hb with q | q
  · exact absurd (Nat.eq_of_beq_eq_true q) hab
  · exact q
theorem xget_mem : ∀ (l : List xE) (pc : Nat) (e : Instr × Nat × Nat × Nat × Nat × Int), xget l pc = some e → (pc, e) ∈ l
  | [], pc, e, h => by cases h
  | q :: r, pc, e, h => by
    simp only [xget] at h
    cases hb : Nat.beq q.1 pc with
    | true =>
      rw [hb] at h
      have e1 := Nat.eq_of_beq_eq_true hb
      simp only [cond_true, Option.some.injEq] at h
      rw [← e1, ← h]
      exact List.mem_cons_self
    | false =>
      rw [hb] at h
      exact List.mem_cons_of_mem _ (xget_mem r pc e h)
theorem xlk_of {mid pc : Nat} {e : Instr × Nat × Nat × Nat × Nat × Int} (hm : mid < 204) (h : xget (xCode mid) pc = some e) : xlk mid (pc, e) = true := by
  have h1 := xchk_all mid hm
  simp only [xchk, Bool.and_eq_true] at h1
  exact List.all_eq_true.mp h1.1 _ (xget_mem _ _ _ h)
theorem xfits_ok {ty : FieldType} {x : Int32} (h : xfits ty x = true) : narrow ty (.int x) = .int x ∧ fits ty (.int x) = true := by
  cases ty with
  | int => exact ⟨rfl, rfl⟩
  | boolean =>
    simp only [xfits, Bool.or_eq_true, decide_eq_true_eq] at h
    rcases h with rfl | rfl <;> exact ⟨by decide, by decide⟩
  | char =>
    simp only [xfits, Bool.and_eq_true, decide_eq_true_eq] at h
    obtain ⟨h1, h2⟩ := h
    have e1 : (0 : Int) ≤ x.toInt := by
      have := Int32.le_iff_toInt_le.mp h1
      simpa using this
    have e2 : x.toInt < 65536 := by
      have := Int32.lt_iff_toInt_lt.mp h2
      simpa using this
    have e3 : x = nI x.toInt.toNat := by
      apply Int32.toInt_inj.mp
      rw [nI_toInt (by omega)]
      omega
    rw [e3]
    exact pk_charN (by omega)
  | _ => cases h
