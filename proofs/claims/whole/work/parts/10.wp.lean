/-! what a run comes to, as an equation of each step -/
def xW (S : xSh) (mid pc : Nat) (L st : List Value) (M : xM) (Q : Option Value → xM → Prop) : Prop := ∃ (n : Nat) (v : Option Value) (M' : xM), xrun S n mid pc L st M = some (v, M') ∧ Q v M'
def xpush : Option Value → List Value → List Value
  | some v, st => v :: st
  | none, st => st
theorem xpush_s (v : Value) (st : List Value) : xpush (some v) st = v :: st := rfl
theorem xpush_n (st : List Value) : xpush none st = st := rfl
theorem xpush_eq (v : Option Value) (st : List Value) : v.toList ++ st = xpush v st := by cases v <;> rfl
theorem xrun_mono {S : xSh} : ∀ (n : Nat) {mid pc : Nat} {L st : List Value} {M : xM} {r : Option Value × xM}, xrun S n mid pc L st M = some r → ∀ k, xrun S (n + k) mid pc L st M = some r
  | 0, _, _, _, _, _, _, h, _ => by cases h
  | n + 1, mid, pc, L, st, M, r, h, k => by
    rw [show n + 1 + k = (n + k) + 1 by omega]
    simp only [xrun] at h ⊢
    split at h
    · cases h
    · exact xrun_mono n h k
    · rename_i mid' as r0 e
      split at h
      · cases h
      · rename_i v M1 e1
        simp only [xrun_mono n e1 k]
        exact xrun_mono n h k
    · exact h
section XW
variable {S : xSh} {mid pc pc' : Nat} {L L' st st' : List Value} {M M' : xM} {Q : Option Value → xM → Prop}
theorem xW_next (h : xstep S mid pc L st M = some (.inl (pc', L', st', M'))) : xW S mid pc L st M Q = xW S mid pc' L' st' M' Q := by
  apply propext
  constructor
  · rintro ⟨n, v, M1, e, q⟩
    cases n with
    | zero => cases e
    | succ n =>
      simp only [xrun, h] at e
      exact ⟨n, v, M1, e, q⟩
  · rintro ⟨n, v, M1, e, q⟩
    exact ⟨n + 1, v, M1, by simp only [xrun, h]; exact e, q⟩
theorem xW_ret {v : Option Value} (h : xstep S mid pc L st M = some (.inr (.inr v))) : xW S mid pc L st M Q = Q v M := by
  apply propext
  constructor
  · rintro ⟨n, v, M1, e, q⟩
    cases n with
    | zero => cases e
    | succ n =>
      simp only [xrun, h] at e
      cases e
      exact q
  · intro q
    exact ⟨1, v, M, by simp only [xrun, h], q⟩
theorem xW_call {mid' : Nat} {as r L0 : List Value} (h : xstep S mid pc L st M = some (.inr (.inl (mid', as, r)))) (h0 : xent (xL mid') as = L0) : xW S mid pc L st M Q = xW S mid' 0 L0 [] M (fun v M' => xW S mid (pc + 3) L (xpush v r) M' Q) := by
  subst h0
  apply propext
  constructor
  · rintro ⟨n, v, M1, e, q⟩
    cases n with
    | zero => cases e
    | succ n =>
      simp only [xrun, h] at e
      split at e
      · cases e
      · rename_i v0 M0 e0
        rw [xpush_eq] at e
        exact ⟨n, v0, M0, e0, n, v, M1, e, q⟩
  · rintro ⟨n, v0, M0, e0, n1, v, M1, e, q⟩
    refine ⟨n + n1 + 1, v, M1, ?_, q⟩
    simp only [xrun, h]
    rw [xrun_mono n e0 n1]
    simp only [xpush_eq]
    rw [show n + n1 = n1 + n by omega]
    exact xrun_mono n1 e n
theorem xW_br {c : Prop} [Decidable c] {a b : Nat} (h : xstep S mid pc L st M = xbr (decide c) a b L' st' M) : xW S mid pc L st M Q = if c then xW S mid a L' st' M Q else xW S mid b L' st' M Q := by
  by_cases hc : c
  · rw [if_pos hc]
    exact xW_next (by rw [h, decide_eq_true hc]; rfl)
  · rw [if_neg hc]
    exact xW_next (by rw [h, decide_eq_false hc]; rfl)
theorem xW_mono {Q' : Option Value → xM → Prop} (h : xW S mid pc L st M Q) (hq : ∀ v M', Q v M' → Q' v M') : xW S mid pc L st M Q' := by
  obtain ⟨n, v, M', e, q⟩ := h
  exact ⟨n, v, M', e, hq _ _ q⟩
variable {len a b c : Nat} {k : Int}
theorem xs_of {i : Instr} {z : Option xR} (h : xget (xCode mid) pc = some (i, len, a, b, c, k)) (hz : xdo S mid i a b k pc L st M = z) : xstep S mid pc L st M = z := by
  simp only [xstep, h]
  exact hz
/-- a plain step -/
theorem xw_s {i : Instr} (h : xget (xCode mid) pc = some (i, len, a, b, c, k)) (hz : xdo S mid i a b k pc L st M = some (.inl (pc', L', st', M'))) : xW S mid pc L st M Q = xW S mid pc' L' st' M' Q := xW_next (xs_of h hz)
theorem xw_ret (h : xget (xCode mid) pc = some (.ireturn, len, a, b, c, k)) {x : Int32} (hr : xRt mid = some .int) : xW S mid pc L [.int x] M Q = Q (some (.int x)) M := xW_ret (xs_of h (by simp only [xdo, xret, hr, xfits, cond_true]))
theorem xw_retz (h : xget (xCode mid) pc = some (.ireturn, len, a, b, c, k)) {x : Int32} (hr : xRt mid = some .boolean) (hx : x = 0 ∨ x = 1) : xW S mid pc L [.int x] M Q = Q (some (.int x)) M := xW_ret (xs_of h (by
  have e : (decide (x = 0) || decide (x = 1)) = true := by
    rcases hx with rfl | rfl <;> rfl
  simp only [xdo, xret, hr, xfits, e, cond_true]))
theorem xw_retc (h : xget (xCode mid) pc = some (.ireturn, len, a, b, c, k)) {j : Nat} (hr : xRt mid = some .char) (hj : j < 65536) : xW S mid pc L [.int (nI j)] M Q = Q (some (.int (nI j))) M := xW_ret (xs_of h (by
  have e : (decide (0 ≤ nI j) && decide (nI j < 65536)) = true := by
    have e1 : (65536 : Int32) = nI 65536 := rfl
    rw [e1]
    have h0 : 0 ≤ nI j := nI_pos' (by omega)
    have h1 : nI j < nI 65536 := nI_lt hj (by omega)
    simp [h0, h1]
  simp only [xdo, xret, hr, xfits, e, cond_true]))
theorem xw_retv (h : xget (xCode mid) pc = some (.return_, len, a, b, c, k)) (hr : xRt mid = none) : xW S mid pc L [] M Q = Q none M := xW_ret (xs_of h (by simp only [xdo, xretv, hr]))
theorem xw_call {i : Instr} {mid' : Nat} {as r L0 : List Value} (h : xget (xCode mid) pc = some (i, len, a, b, c, k)) (hz : xdo S mid i a b k pc L st M = some (.inr (.inl (mid', as, r)))) (h0 : xent (xL mid') as = L0) : xW S mid pc L st M Q = xW S mid' 0 L0 [] M (fun v M' => xW S mid (pc + 3) L (xpush v r) M' Q) := xW_call (xs_of h hz) h0
theorem xw_br {i : Instr} {c0 : Prop} [Decidable c0] {a1 b1 : Nat} (h : xget (xCode mid) pc = some (i, len, a, b, c, k)) (hz : xdo S mid i a b k pc L st M = xbr (decide c0) a1 b1 L' st' M) : xW S mid pc L st M Q = if c0 then xW S mid a1 L' st' M Q else xW S mid b1 L' st' M Q := xW_br (xs_of h hz)
/-- the branch that stands the other way round -/
theorem xw_brn {i : Instr} {c0 c1 : Prop} [Decidable c0] [Decidable c1] {a1 b1 : Nat} (h : xget (xCode mid) pc = some (i, len, a, b, c, k)) (hz : xdo S mid i a b k pc L st M = xbr (decide c0) a1 b1 L' st' M) (hc : c0 ↔ ¬ c1) : xW S mid pc L st M Q = if c1 then xW S mid b1 L' st' M Q else xW S mid a1 L' st' M Q := by
  rw [xw_br h hz]
  by_cases hq : c1
  · rw [if_pos hq, if_neg (fun z => hc.mp z hq)]
  · rw [if_neg hq, if_pos (hc.mpr hq)]
theorem xin_nI {j n : Nat} (h : j < n) (hn : n < 2 ^ 31) : xin (nI j) n = true := decide_eq_true (nI_in h hn)
theorem xw_ald {kd n j p : Nat} {fs : List (Option Nat)} {i : Instr} (h : xget (xCode mid) pc = some (i, len, a, b, c, k)) (hi : xdo S mid i a b k pc L (.int (nI j) :: .ref p :: st) M = xald kd S L (.int (nI j) :: .ref p :: st) (pc + 1) M) (hS : S[p]? = some (kd, n, fs)) (hn : n < 2 ^ 31) (hj : j < n) : xW S mid pc L (.int (nI j) :: .ref p :: st) M Q = xW S mid (pc + 1) L (.int (M p j) :: st) M Q := by
  refine xW_next (xs_of h (hi.trans ?_))
  simp only [xald, hS, xin_nI hj hn, nI_clamp (show j < 2 ^ 31 by omega), xgo, show Nat.beq kd kd = true from Nat.beq_refl kd, Bool.and_self, cond_true]
theorem xw_ast {kd n j p : Nat} {x : Int32} {f : Int32 → Int32} {fs : List (Option Nat)} {i : Instr} (h : xget (xCode mid) pc = some (i, len, a, b, c, k)) (hi : xdo S mid i a b k pc L (.int x :: .int (nI j) :: .ref p :: st) M = xast kd f S L (.int x :: .int (nI j) :: .ref p :: st) (pc + 1) M) (hS : S[p]? = some (kd, n, fs)) (hn : n < 2 ^ 31) (hj : j < n) : xW S mid pc L (.int x :: .int (nI j) :: .ref p :: st) M Q = xW S mid (pc + 1) L st (xup M p j (f x)) Q := by
  refine xW_next (xs_of h (hi.trans ?_))
  simp only [xast, hS, xin_nI hj hn, nI_clamp (show j < 2 ^ 31 by omega), xgo, show Nat.beq kd kd = true from Nat.beq_refl kd, Bool.and_self, cond_true]
theorem xw_putz {p ci q : Nat} {x : Int32} {fs : List (Option Nat)} {ix : Nat} (h : xget (xCode mid) pc = some (.putfield ix, len, ci, q, c, k)) (hS : S[p]? = some (0, ci, fs)) (hf : xfin ci q = false) (ht : xTy ci q = .boolean) (hq : fs[q]? = some none) (hx : x = 0 ∨ x = 1) : xW S mid pc L (.int x :: .ref p :: st) M Q = xW S mid (pc + 3) L st (xup M p q x) Q := by
  refine xW_next (xs_of h ?_)
  have e : (decide (x = 0) || decide (x = 1)) = true := by
    rcases hx with rfl | rfl <;> rfl
  simp only [xdo, xputf, hS, hf, ht, xfits, e, hq, xgo, show Nat.beq ci ci = true from Nat.beq_refl ci, Bool.not_false, Bool.and_self, cond_true]
theorem xw_div {x y : Int32} {i : Instr} {f : Int32 → Int32 → Int32} (h : xget (xCode mid) pc = some (i, len, a, b, c, k)) (hi : xdo S mid i a b k pc L (.int y :: .int x :: st) M = xd2 f L (.int y :: .int x :: st) (pc + 1) M) (hy : ¬ y = 0) : xW S mid pc L (.int y :: .int x :: st) M Q = xW S mid (pc + 1) L (.int (f x y) :: st) M Q := by
  refine xW_next (xs_of h (hi.trans ?_))
  simp only [xd2, if_neg hy, xgo]
theorem xw_ldiv {x y : Int64} {i : Instr} {f : Int64 → Int64 → Int64} (h : xget (xCode mid) pc = some (i, len, a, b, c, k)) (hi : xdo S mid i a b k pc L (.long y :: .long x :: st) M = xdl2 f L (.long y :: .long x :: st) (pc + 1) M) (hy : ¬ y = 0) : xW S mid pc L (.long y :: .long x :: st) M Q = xW S mid (pc + 1) L (.long (f x y) :: st) M Q := by
  refine xW_next (xs_of h (hi.trans ?_))
  simp only [xdl2, if_neg hy, xgo]
end XW
theorem i0 : (0 : Int32) = nI 0 := rfl
theorem i1 : (1 : Int32) = nI 1 := rfl
theorem xge (x y : Int32) : y ≤ x ↔ ¬ x < y := Int32.not_lt.symm
/-- the shapes: the class's cells, the reference's -/
def xSC : xSh := [(0, 9, [some 1, some 9, some 14, some 19, none, some 24, some 26, none, some 27, some 31, some 33, some 34, some 39, some 41]), (0, 6, [some 2, some 3, none, none, none, some 4]), (2, 200, []), (1, 6, []), (0, 3, [none, none, none, some 5, some 6, some 7, some 8]), (1, 48, []), (1, 15, []), (1, 80, []), (1, 10, []), (0, 3, [none, none, none, some 10, some 11, some 12, some 13]), (1, 48, []), (1, 15, []), (1, 80, []), (1, 10, []), (0, 3, [none, none, none, some 15, some 16, some 17, some 18]), (1, 48, []), (1, 15, []), (1, 80, []), (1, 10, []), (0, 3, [none, none, none, some 20, some 21, some 22, some 23]), (1, 48, []), (1, 15, []), (1, 80, []), (1, 10, []), (0, 0, [some 25, none, none]), (1, 48, []), (1, 12, []), (0, 2, [some 28, some 29, some 30, none]), (1, 8, []), (1, 8, []), (1, 8, []), (0, 7, [none, none, none, some 32]), (1, 16, []), (0, 4, [none, none, none, none]), (0, 8, [some 35, some 36, some 37, some 38, none, none]), (0, 4, [none, none, none, none]), (1, 64, []), (1, 32, []), (1, 32, []), (0, 5, [some 40, none, none, none, none]), (0, 4, [none, none, none, none]), (0, 1, [some 42, some 43, some 44, none]), (1, 8, []), (1, 8, []), (1, 8, [])]
def xSR : xSh := [(0, 10, [some 1, some 2, none, some 3, none, some 4, some 5, none, none, some 6, none, none, some 7, some 8, some 9, some 10, none, some 11, none, some 12]), (1, 156, []), (1, 200, []), (1, 156, []), (1, 6, []), (1, 3, []), (1, 48, []), (1, 12, []), (1, 156, []), (1, 32, []), (1, 32, []), (1, 32, []), (1, 312, [])]
theorem lN_ne0 {n : Nat} (h0 : 0 < n) (h : n < 2 ^ 31) : ¬ lN n = 0 := fun e => by
  have := (lN_eq (a := n) (b := 0) h (by decide)).mp e
  omega
