/-! numbers of a text -/
def xfg (T : Nat → Nat) (n p : Nat) : Bool := decide (p < n ∧ 48 ≤ T p ∧ T p ≤ 57)
def xnm (T : Nat → Nat) (n p c : Nat) : Option (Nat × Nat) :=
  if xfg T n p = true then
    (if xfg T n (p + 1) = true then (if p + 1 + 1 < n ∧ T (p + 1 + 1) = c then some (10 * (T p - 48) + (T (p + 1) - 48), p + 1 + 1 + 1) else none)
    else (if p + 1 < n ∧ T (p + 1) = c then some (T p - 48, p + 1 + 1) else none))
  else none
def xns (T : Nat → Nat) (n : Nat) : Nat → Nat → Nat → (Nat → Nat) → Option ((Nat → Nat) × Nat)
  | 0, _, p, f => some (f, p)
  | m + 1, k, p, f => (xnm T n p (if m = 0 then 59 else 44)).bind (fun r => xns T n m (k + 1) r.2 (fun j => if j = k then r.1 else f j))
def xTx (T : Nat → Nat) (n : Nat) : Prop := n ≤ 200 ∧ ∀ j, j < n → 32 ≤ T j ∧ T j ≤ 126
/-- the class's text in memory; the reference's -/
def cT (T : Nat → Nat) (n : Nat) (M : xM) : Prop := M 1 4 = nI n ∧ ∀ j, j < n → M 2 j = nI (T j)
def rT (T : Nat → Nat) (n : Nat) (N : xM) : Prop := N 0 2 = nI n ∧ ∀ j, j < n → N 2 j = nI (T j)
def tcf (M M' : xM) : Prop := (∀ a, a ≠ 1 → a ≠ 3 → M' a = M a) ∧ ∀ j, j ≠ 2 → M' 1 j = M 1 j
def trf (N N' : xM) : Prop := (∀ a, a ≠ 0 → a ≠ 4 → N' a = N a) ∧ ∀ j, j ≠ 4 → N' 0 j = N 0 j
theorem tcf.rf {M : xM} : tcf M M := ⟨fun _ _ _ => rfl, fun _ _ => rfl⟩
theorem trf.rf {M : xM} : trf M M := ⟨fun _ _ _ => rfl, fun _ _ => rfl⟩
theorem tcf.tr {M M1 M2 : xM} (f : tcf M M1) (g : tcf M1 M2) : tcf M M2 := ⟨fun a b c => (g.1 a b c).trans (f.1 a b c), fun j q => (g.2 j q).trans (f.2 j q)⟩
theorem trf.tr {M M1 M2 : xM} (f : trf M M1) (g : trf M1 M2) : trf M M2 := ⟨fun a b c => (g.1 a b c).trans (f.1 a b c), fun j q => (g.2 j q).trans (f.2 j q)⟩
theorem tcf.a {M : xM} {x : Int32} : tcf M (xup M 1 2 x) := ⟨fun a b _ => xup_other b, fun j q => xup_r q⟩
theorem tcf.n {M : xM} {k : Nat} {x : Int32} : tcf M (xup M 3 k x) := ⟨fun a _ c => xup_other c, fun j q => xup_o (by decide)⟩
theorem trf.a {M : xM} {x : Int32} : trf M (xup M 0 4 x) := ⟨fun a b _ => xup_other b, fun j q => xup_r q⟩
theorem trf.n {M : xM} {k : Nat} {x : Int32} : trf M (xup M 4 k x) := ⟨fun a _ c => xup_other c, fun j q => xup_o (by decide)⟩
theorem cT.fr {T : Nat → Nat} {n : Nat} {M M' : xM} (C : cT T n M) (f : tcf M M') : cT T n M' := ⟨by rw [f.2 4 (by decide)]; exact C.1, fun j hj => by rw [f.1 2 (by decide) (by decide)]; exact C.2 j hj⟩
theorem rT.fr {T : Nat → Nat} {n : Nat} {M M' : xM} (C : rT T n M) (f : trf M M') : rT T n M' := ⟨by rw [f.2 2 (by decide)]; exact C.1, fun j hj => by rw [f.1 2 (by decide) (by decide)]; exact C.2 j hj⟩
theorem xfg_t {T : Nat → Nat} {n p : Nat} (h : xfg T n p = true) : p < n ∧ 48 ≤ T p ∧ T p ≤ 57 := of_decide_eq_true h
theorem xfg_f {T : Nat → Nat} {n p : Nat} (h : ¬ xfg T n p = true) : ¬ (p < n ∧ 48 ≤ T p ∧ T p ≤ 57) := fun z => h (decide_eq_true z)
theorem xnm_b {T : Nat → Nat} {n p c v q : Nat} (h : xnm T n p c = some (v, q)) : v ≤ 99 ∧ p < q ∧ q ≤ n := by
  unfold xnm at h
  by_cases a : xfg T n p = true
  · have a2 := xfg_t a
    rw [if_pos a] at h
    by_cases b : xfg T n (p + 1) = true
    · have b2 := xfg_t b
      rw [if_pos b] at h
      by_cases d : p + 1 + 1 < n ∧ T (p + 1 + 1) = c
      · rw [if_pos d] at h
        simp only [Option.some.injEq, Prod.mk.injEq] at h
        omega
      · rw [if_neg d] at h
        cases h
    · rw [if_neg b] at h
      by_cases d : p + 1 < n ∧ T (p + 1) = c
      · rw [if_pos d] at h
        simp only [Option.some.injEq, Prod.mk.injEq] at h
        omega
      · rw [if_neg d] at h
        cases h
  · rw [if_neg a] at h
    cases h
section C52
variable {M N : xM} {Q : Option Value → xM → Prop} {T : Nat → Nat} {n : Nat}
theorem c83 {p : Nat} (X : xTx T n) (C : cT T n M) (hp : p < 2 ^ 20) : xW xSC 83 0 [.ref 1, .int (nI p), .null] [] M Q = Q (some (.int (nI (if p < n then T p else 0)))) M := by
  have n2 := X.1
  have m4 := C.1
  by_cases z : p < n
  · have m2 := C.2 p z
    have := X.2 p z
    rw [if_pos z]
    simp (disch := first | decide | omega) only [s83, nI_nneg, if_false, m4, nI_lt_t, if_true, h83_26, i12, m2, h83_41]
  · rw [if_neg z]
    simp (disch := first | decide | omega) only [s83, nI_nneg, if_false, m4, nI_lt_f, h83_25, h83_26, i00, if_true, h83_41]
theorem c82 {p : Nat} (X : xTx T n) (C : cT T n M) (hp : p < 2 ^ 20) : xW xSC 82 0 [.ref 1, .int (nI p), .null] [] M Q = Q (some (.int (if xfg T n p = true then nI (T p - 48) else -1))) M := by
  by_cases z : p < n
  · have := X.2 p z
    by_cases y : 48 ≤ T p
    · by_cases w : T p ≤ 57
      · have e : xfg T n p = true := decide_eq_true ⟨z, y, w⟩
        rw [if_pos e]
        simp (disch := first | decide | omega) only [s82, c83 X C hp, if_pos z, xpush_s, nI_lt_f, if_false, pk_sub, h82_26]
      · have e : ¬ xfg T n p = true := fun q => w (xfg_t q).2.2
        rw [if_neg e]
        simp (disch := first | decide | omega) only [s82, c83 X C hp, if_pos z, xpush_s, nI_lt_f, nI_lt_t, if_true, if_false, h82_25, h82_26]
    · have e : ¬ xfg T n p = true := fun q => y (xfg_t q).2.1
      rw [if_neg e]
      simp (disch := first | decide | omega) only [s82, c83 X C hp, if_pos z, xpush_s, nI_lt_t, if_true, h82_25, h82_26]
  · have e : ¬ xfg T n p = true := fun q => z (xfg_t q).1
    rw [if_neg e]
    simp (disch := first | decide | omega) only [s82, c83 X C hp, if_neg z, xpush_s, nI_lt_t, if_true, h82_25, h82_26]
theorem chq {p c : Nat} (X : xTx T n) (hc : c = 44 ∨ c = 59) : (nI (if p < n then T p else 0) = nI c) = (p < n ∧ T p = c) := by
  by_cases z : p < n
  · have := X.2 p z
    rw [if_pos z, nI_eq (by omega) (by omega)]
    exact propext ⟨fun q => ⟨z, q⟩, fun q => q.2⟩
  · rw [if_neg z, nI_eq (by omega) (by omega)]
    exact propext ⟨fun q => by omega, fun q => absurd q.1 z⟩
theorem c80 {many : Nat} (X : xTx T n) (C : cT T n M) (hm : many ≤ 6) : ∀ (m k p : Nat) (f : Nat → Nat) (M1 : xM) (x3 x4 : Value), k + m = many → p ≤ n → tcf M M1 → M1 1 2 = nI p → (∀ j, j < k → M1 3 j = nI (f j)) → (xns T n m k p f = none → ∀ M', tcf M M' → Q (some (.int (nI 0))) M') → (∀ g z, xns T n m k p f = some (g, z) → ∀ M', tcf M M' → M' 1 2 = nI z → (∀ j, j < many → M' 3 j = nI (g j)) → Q (some (.int (nI 1))) M') → xW xSC 80 12 [.ref 1, .int (nI many), .int (nI k), x3, x4] [] M1 Q := by
  have n2 := X.1
  have b01 : nI 0 = (0 : Int32) ∨ nI 0 = 1 := by decide
  have b11 : nI 1 = (0 : Int32) ∨ nI 1 = 1 := by decide
  have n1 : ((-1 : Int32) < nI 0) = True := by decide
  intro m
  induction m with
  | zero =>
    intro k p f M1 x3 x4 hk hp fr at' nu q0 q1
    have hk : k = many := hk
    rw [h80_12]
    rw [hk] at nu ⊢
    simp (disch := first | decide | omega) only [s80, nI_lt_f, if_false]
    exact q1 f p rfl M1 fr at' nu
  | succ m ih =>
    intro k p f M1 x3 x4 hk hp fr at' nu q0 q1
    have C1 := C.fr fr
    have hch : (if m = 0 then 59 else 44) = 44 ∨ (if m = 0 then 59 else 44) = 59 := by split <;> omega
    have c82p := fun (Q : Option Value → xM → Prop) => c82 (Q := Q) (p := p) X C1 (by omega)
    have tail : ∀ (p' v : Nat) (M2 : xM), p' ≤ n → v ≤ 99 → tcf M M2 → M2 1 2 = nI p' → (∀ j, j < k → M2 3 j = nI (f j)) → xnm T n p (if m = 0 then 59 else 44) = (if p' < n ∧ T p' = (if m = 0 then 59 else 44) then some (v, p' + 1) else none) → xW xSC 80 22 [.ref 1, .int (nI many), .int (nI k), .int (nI v), x4] [] M2 Q := by
      intro p' v M2 hp' hv f2 at2 nu2 e
      have C2 := C.fr f2
      have C2' := fun (Q : Option Value → xM → Prop) => c83 (Q := Q) (p := p') X C2 (by omega)
      simp only [xns, e] at q0 q1
      by_cases y : p' < n ∧ T p' = (if m = 0 then 59 else 44)
      · rw [if_pos y] at q0 q1
        simp only [Option.bind_some] at q0 q1
        have step : ∀ (ch : Nat), ch = (if m = 0 then 59 else 44) → xW xSC 80 36 [.ref 1, .int (nI many), .int (nI k), .int (nI v), x4] [.int (nI ch)] M2 Q := by
          intro ch hc
          have eq := chq (p := p') (c := ch) X (by omega)
          have eq : (nI (if p' < n then T p' else 0) = nI ch) = True := by rw [eq, hc]; exact eq_true y
          rw [h80_36]
          simp (disch := first | decide | omega) only [s80, nI_nneg, if_false, at2, C2', xpush_s, eq, if_true, nI_add, cS, xpush_n]
          refine ih (k + 1) (p' + 1) _ _ _ _ (by omega) (by omega) (f2.tr (tcf.a.tr tcf.n)) (by rw [xup_o (by decide), xup_rs]) (fun j hj => ?_) q0 q1
          by_cases w : j = k
          · rw [w, xup_rs, if_pos rfl]
          · rw [xup_r w, xup_o (by decide), if_neg w]
            exact nu2 j (by omega)
        by_cases w : m = 0
        · simp (disch := first | decide | omega) only [s80, nI_add, nI_lt_f, if_false]
          exact step 59 (by rw [if_pos w])
        · simp (disch := first | decide | omega) only [s80, nI_add, nI_lt_t, if_true]
          exact step 44 (by rw [if_neg w])
      · rw [if_neg y] at q0
        have q0 := q0 rfl M2 f2
        have step : ∀ (ch : Nat), ch = (if m = 0 then 59 else 44) → xW xSC 80 36 [.ref 1, .int (nI many), .int (nI k), .int (nI v), x4] [.int (nI ch)] M2 Q := by
          intro ch hc
          have eq := chq (p := p') (c := ch) X (by omega)
          have eq : (nI (if p' < n then T p' else 0) = nI ch) = False := by rw [eq, hc]; exact eq_false y
          rw [h80_36]
          simp (disch := first | decide | omega) only [s80, nI_nneg, if_false, at2, C2', xpush_s, eq, h80_55]
          exact q0
        by_cases w : m = 0
        · simp (disch := first | decide | omega) only [s80, nI_add, nI_lt_f, if_false]
          exact step 59 (by rw [if_pos w])
        · simp (disch := first | decide | omega) only [s80, nI_add, nI_lt_t, if_true]
          exact step 44 (by rw [if_neg w])
    rw [h80_12]
    by_cases a : xfg T n p = true
    · have a2 := xfg_t a
      have C2 := C1.fr (tcf.a (x := nI (p + 1)))
      have c82q := fun (Q : Option Value → xM → Prop) => c82 (Q := Q) (p := p + 1) X C2 (by omega)
      by_cases b : xfg T n (p + 1) = true
      · have b2 := xfg_t b
        have t := tail (p + 1 + 1) (10 * (T p - 48) + (T (p + 1) - 48)) (xup (xup M1 1 2 (nI (p + 1))) 1 2 (nI (p + 1 + 1))) (by omega) (by omega) (fr.tr (tcf.a.tr tcf.a)) (xup_rs _ _ _ _) (fun j hj => by rw [xup_o (by decide), xup_o (by decide)]; exact nu j hj) (by unfold xnm; rw [if_pos a, if_pos b])
        simp (disch := first | decide | omega) only [s80, nI_add] at t
        simp (disch := first | decide | omega) only [s80, nI_lt_t, if_true, s81, at', c82p, if_pos a, xpush_s, nI_nneg, if_false, nI_add, xup_rs, c82q, if_pos b, pk_mul]
        exact t
      · have t := tail (p + 1) (T p - 48) (xup M1 1 2 (nI (p + 1))) (by omega) (by omega) (fr.tr tcf.a) (xup_rs _ _ _ _) (fun j hj => by rw [xup_o (by decide)]; exact nu j hj) (by unfold xnm; rw [if_pos a, if_neg b])
        simp (disch := first | decide | omega) only [s80, nI_add] at t
        simp (disch := first | decide | omega) only [s80, nI_lt_t, if_true, s81, at', c82p, if_pos a, xpush_s, nI_nneg, if_false, nI_add, xup_rs, c82q, if_neg b, n1]
        exact t
    · have e : xnm T n p (if m = 0 then 59 else 44) = none := by unfold xnm; rw [if_neg a]
      have q0 := q0 (by simp only [xns, e]; rfl) M1 fr
      by_cases w : m = 0
      · simp (disch := first | decide | omega) only [s80, nI_lt_t, nI_lt_f, if_true, if_false, s81, at', c82p, if_neg a, xpush_s, n1, nI_add, h80_36, h80_55]
        exact q0
      · simp (disch := first | decide | omega) only [s80, nI_lt_t, if_true, s81, at', c82p, if_neg a, xpush_s, n1, nI_add, h80_36, h80_55]
        exact q0
end C52
