/-! what can be undone -/
def RCu (S : xA) (M : xM) : Prop := ∃ nx, nx < 8 ∧ M 24 1 = nI nx ∧ M 24 2 = nI (S 2 4) ∧ ∀ i, i < S 2 4 → cE nx (S 2 4) i (xes S i) M
def RRu (S : xA) (M : xM) : Prop := M 0 10 = nI (S 2 4) ∧ ∀ i, i < S 2 4 → rE i (xes S i) M
def xun1 (u : Nat) : Nat := if u = 8 then 8 else u + 1
def xush (u : Nat) : Nat := if u = 8 then 1 else 0
/-- one more entry, the oldest of eight goes -/
def xpu (S : xA) (e : Nat → Nat) : xA := sN (sA S 10 (fun j => if j / 6 = xun1 (S 2 4) - 1 then e (j % 6) else S 10 ((j / 6 + xush (S 2 4)) * 6 + j % 6))) 4 (xun1 (S 2 4))
theorem xpu_u (S : xA) (e : Nat → Nat) : xpu S e 2 4 = xun1 (S 2 4) := by
  unfold xpu
  rw [sN_s]
theorem xpu_o {S : xA} {e : Nat → Nat} {a : Nat} (h : a ≠ 2) (h2 : a ≠ 10) : xpu S e a = S a := by
  unfold xpu
  rw [sN_a h, sA_o h2]
theorem xpu_2 {S : xA} {e : Nat → Nat} {j : Nat} (h : j ≠ 4) : xpu S e 2 j = S 2 j := by
  unfold xpu
  rw [sN_o h, sA_o (by decide)]
theorem xpu_es {S : xA} {e : Nat → Nat} {i f : Nat} (hf : f < 6) : xes (xpu S e) i f = if i = xun1 (S 2 4) - 1 then e f else xes S (i + xush (S 2 4)) f := by
  unfold xes xpu
  rw [sN_a (by decide), sA_s]
  simp only [show (i * 6 + f) / 6 = i by omega, show (i * 6 + f) % 6 = f by omega]
theorem cE_congr {nx u i : Nat} {e e' : Nat → Nat} {M : xM} (h : ∀ f, f < 6 → e f = e' f) (q : cE nx u i e' M) : cE nx u i e M := by
  intro f hf
  rw [h 0 (by decide)] at hf
  have h6 : f < 6 := by split at hf <;> omega
  rw [h f h6]
  exact q f hf
theorem rE_congr {i : Nat} {e e' : Nat → Nat} {M : xM} (h : ∀ f, f < 6 → e f = e' f) (q : rE i e' M) : rE i e M := by
  unfold rE at q ⊢
  rw [h 0 (by decide), h 1 (by decide), h 2 (by decide), h 3 (by decide), h 4 (by decide), h 5 (by decide)]
  exact q
theorem xen_congr {h e e' : Nat → Nat} (q : ∀ f, f < 6 → e f = e' f) (z : xen h e') : xen h e := by
  unfold xen at z ⊢
  rw [q 0 (by decide), q 1 (by decide), q 2 (by decide), q 3 (by decide), q 4 (by decide), q 5 (by decide)]
  exact z
theorem RCu.push {S : xA} {e : Nat → Nat} {M M' : xM} {nx : Nat} (hn : nx < 8) (hu : S 2 4 ≤ 8) (C : ∀ i, i < S 2 4 → cE nx (S 2 4) i (xes S i) M) (h1 : M' 24 1 = nI ((nx + 1) % 8)) (h2 : M' 24 2 = nI (xun1 (S 2 4))) (h3 : ∀ f, f < (if e 0 = 0 then 6 else 4) → M' 25 (nx * 6 + f) = nI (e f)) (h4 : ∀ j, j < nx * 6 ∨ nx * 6 + 6 ≤ j → M' 25 j = M 25 j) : RCu (xpu S e) M' := by
  have u1 : xun1 (S 2 4) = if S 2 4 = 8 then 8 else S 2 4 + 1 := rfl
  have u2 : xush (S 2 4) = if S 2 4 = 8 then 1 else 0 := rfl
  refine ⟨(nx + 1) % 8, by omega, h1, by rw [xpu_u]; exact h2, fun i hi => ?_⟩
  rw [xpu_u] at hi ⊢
  by_cases q : i = xun1 (S 2 4) - 1
  · refine cE_congr (e' := e) (fun f hf => by rw [xpu_es hf, if_pos q]) (fun f hf => ?_)
    have e1 : ((nx + 1) % 8 + 8 - xun1 (S 2 4) + i) % 8 = nx := by split at u1 <;> omega
    rw [e1]
    exact h3 f hf
  · refine cE_congr (e' := xes S (i + xush (S 2 4))) (fun f hf => by rw [xpu_es hf, if_neg q]) (fun f hf => ?_)
    have hl : i + xush (S 2 4) < S 2 4 := by split at u1 <;> split at u2 <;> omega
    have e1 : ((nx + 1) % 8 + 8 - xun1 (S 2 4) + i) % 8 = (nx + 8 - S 2 4 + (i + xush (S 2 4))) % 8 := by split at u1 <;> split at u2 <;> omega
    have e2 : (nx + 8 - S 2 4 + (i + xush (S 2 4))) % 8 ≠ nx := by split at u1 <;> split at u2 <;> omega
    have h6 : f < 6 := by split at hf <;> omega
    rw [e1, h4 _ (by omega)]
    exact C _ hl f hf
theorem RRu.push {S : xA} {e : Nat → Nat} {M M' : xM} (hu : S 2 4 ≤ 8) (C : ∀ i, i < S 2 4 → rE i (xes S i) M) (h1 : M' 0 10 = nI (xun1 (S 2 4))) (h3 : rE (xun1 (S 2 4) - 1) e M') (h4 : ∀ i f, i < xun1 (S 2 4) - 1 → f < 6 → M' 6 (6 * i + f) = M 6 (6 * (i + xush (S 2 4)) + f)) : RRu (xpu S e) M' := by
  have u1 : xun1 (S 2 4) = if S 2 4 = 8 then 8 else S 2 4 + 1 := rfl
  have u2 : xush (S 2 4) = if S 2 4 = 8 then 1 else 0 := rfl
  refine ⟨by rw [xpu_u]; exact h1, fun i hi => ?_⟩
  rw [xpu_u] at hi
  by_cases q : i = xun1 (S 2 4) - 1
  · refine rE_congr (e' := e) (fun f hf => by rw [xpu_es hf, if_pos q]) ?_
    rw [q]
    exact h3
  · refine rE_congr (e' := xes S (i + xush (S 2 4))) (fun f hf => by rw [xpu_es hf, if_neg q]) ?_
    have hl : i + xush (S 2 4) < S 2 4 := by split at u1 <;> split at u2 <;> omega
    have := C _ hl
    unfold rE at this ⊢
    have z0 := h4 i 0 (by omega) (by decide)
    rw [Nat.add_zero, Nat.add_zero] at z0
    rw [z0, h4 i 1 (by omega) (by decide), h4 i 2 (by omega) (by decide), h4 i 3 (by omega) (by decide), h4 i 4 (by omega) (by decide), h4 i 5 (by omega) (by decide)]
    exact this
/-- entries: of a door, of a person -/
def xed (d cl v : Nat) : Nat → Nat := fun f => if f = 0 then 1 else if f = 1 then d else if f = 2 then cl else v
def xeg (i s t rm la : Nat) : Nat → Nat := fun f => if f = 0 then 0 else if f = 1 then i else if f = 2 then s else if f = 3 then t else if f = 4 then rm else la
section C26
variable {M N : xM} {Q : Option Value → xM → Prop} {S : xA}
theorem c8 {nx u : Nat} (h1 : M 24 1 = nI nx) (h2 : M 24 2 = nI u) (hn : nx < 8) (hu : u ≤ 8) : xW xSC 8 0 [.ref 24] [] M Q = Q none (xup (xup M 24 1 (nI ((nx + 1) % 8))) 24 2 (nI (xun1 u))) := by
  have e : min (u + 1) 8 = xun1 u := by
    unfold xun1
    split
    · rw [Nat.min_eq_right (by omega)]
    · rw [Nat.min_eq_left (by omega)]
  simp (disch := first | decide | omega) only [s8, j8, h1, nI_add, pk_rem, xup_r, h2, xmin_nI, e]
theorem c7 {d cl v : Nat} (C : RCu S M) (hu : S 2 4 ≤ 8) (hQ : ∀ M', xfr 24 25 M M' → RCu (xpu S (xed d cl v)) M' → Q none M') : xW xSC 7 0 [.ref 24, .int (nI d), .int (nI cl), .int (nI v), .null] [] M Q := by
  obtain ⟨nx, hn, g1, g2, g3⟩ := C
  simp (disch := first | decide | omega) only [s7, j7, g1, pk_mul, nI_add, cS, xpush_n]
  rw [c8 (nx := nx) (u := S 2 4) (by rw [xup_o (by decide), xup_o (by decide), xup_o (by decide), xup_o (by decide)]; exact g1) (by rw [xup_o (by decide), xup_o (by decide), xup_o (by decide), xup_o (by decide)]; exact g2) hn hu]
  simp (disch := first | decide | omega) only [s7, j7, xpush_n]
  refine hQ _ (fun a q => by rw [xup_other (by omega), xup_other (by omega), xup_other (by omega), xup_other (by omega), xup_other (by omega), xup_other (by omega)]) (RCu.push hn hu g3 ?_ ?_ (fun f hf => ?_) (fun j hj => ?_))
  · rw [xup_r (by decide), xup_rs]
  · rw [xup_rs]
  · rw [xup_o (by decide), xup_o (by decide)]
    have hf : f < 4 := hf
    rcases (show f = 0 ∨ f = 1 ∨ f = 2 ∨ f = 3 by omega) with rfl | rfl | rfl | rfl
    · rw [xup_r (by omega), xup_r (by omega), xup_r (by omega), Nat.add_zero, xup_rs]; rfl
    · rw [xup_r (by omega), xup_r (by omega), xup_rs]; rfl
    · rw [xup_r (by omega), xup_rs]; rfl
    · rw [xup_rs]; rfl
  · rw [xup_o (by decide), xup_o (by decide), xup_r (by omega), xup_r (by omega), xup_r (by omega), xup_r (by omega)]
theorem c6 {i s : Nat} (C : RCu S M) (H : cH 9 (S 0) M) (W : xWF (S 0)) (hu : S 2 4 ≤ 8) (hi : i < S 0 2) (hs : s < 16) (hQ : ∀ M', xfr 24 25 M M' → RCu (xpu S (xeg i s (xTi (S 0) i s) (xRm2 (S 0) i) (xLa (S 0) i))) M' → Q none M') : xW xSC 6 0 [.ref 24, .ref 9, .int (nI i), .int (nI s), .null] [] M Q := by
  have h5 := W.1.2.2.2
  obtain ⟨nx, hn, g1, g2, g3⟩ := C
  have m0 : M 12 (i * 16 + s) = nI (xTi (S 0) i s) := H.2.2.2.1 _ (by omega)
  have m1 : M 11 (i * 3 + 0) = nI (xRm2 (S 0) i) := H.2.2.1 _ (by omega)
  have m2 : M 11 (i * 3 + 2) = nI (xLa (S 0) i) := H.2.2.1 _ (by omega)
  simp (disch := first | decide | omega) only [s6, j6, g1, pk_mul, nI_add, cS, xpush_n, xpush_s, c32, xup_other, m0, c30, m1, m2]
  rw [c8 (nx := nx) (u := S 2 4) (by simp (disch := first | decide | omega) only [xup_o, g1]) (by simp (disch := first | decide | omega) only [xup_o, g2]) hn hu]
  simp (disch := first | decide | omega) only [s6, j6, xpush_n]
  refine hQ _ (fun a q => by rw [xup_other (by omega), xup_other (by omega), xup_other (by omega), xup_other (by omega), xup_other (by omega), xup_other (by omega), xup_other (by omega), xup_other (by omega)]) (RCu.push hn hu g3 ?_ ?_ (fun f hf => ?_) (fun j hj => ?_))
  · rw [xup_r (by decide), xup_rs]
  · rw [xup_rs]
  · rw [xup_o (by decide), xup_o (by decide)]
    have hf : f < 6 := hf
    rcases (show f = 0 ∨ f = 1 ∨ f = 2 ∨ f = 3 ∨ f = 4 ∨ f = 5 by omega) with rfl | rfl | rfl | rfl | rfl | rfl
    · rw [xup_r (by omega), xup_r (by omega), xup_r (by omega), xup_r (by omega), xup_r (by omega), Nat.add_zero, xup_rs]; rfl
    · rw [xup_r (by omega), xup_r (by omega), xup_r (by omega), xup_r (by omega), xup_rs]; rfl
    · rw [xup_r (by omega), xup_r (by omega), xup_r (by omega), xup_rs]; rfl
    · rw [xup_r (by omega), xup_r (by omega), xup_rs]; rfl
    · rw [xup_r (by omega), xup_rs]; rfl
    · rw [xup_rs]; rfl
  · rw [xup_o (by decide), xup_o (by decide), xup_r (by omega), xup_r (by omega), xup_r (by omega), xup_r (by omega), xup_r (by omega), xup_r (by omega)]
/-- the reference notes what a call changes -/
theorem r172 {a b c : Nat} {e : Nat → Nat} (R : RRu S N) (hu : S 2 4 ≤ 8) (ha : a < 156) (hb : b < 156) (hc : c < 156) (hE : ∀ (i : Nat) (N' : xM), N' 6 (6 * i) = nI a → N' 6 (6 * i + 1) = N 1 a → N' 6 (6 * i + 2) = nI b → N' 6 (6 * i + 3) = N 1 b → N' 6 (6 * i + 4) = nI c → N' 6 (6 * i + 5) = N 1 c → rE i e N')
    (hQ : ∀ N', (∀ k, k ≠ 0 → k ≠ 6 → N' k = N k) → (∀ j, j ≠ 10 → N' 0 j = N 0 j) → RRu (xpu S e) N' → Q none N') : xW xSR 172 0 [.ref 0, .int (nI a), .int (nI b), .int (nI c), .null] [] N Q := by
  obtain ⟨g1, g2⟩ := R
  have tail : ∀ (u : Nat) (v : Value) (N1 : xM), u < 8 → xun1 (S 2 4) = u + 1 → N1 0 10 = nI u → (∀ k, k ≠ 0 → k ≠ 6 → N1 k = N k) → (∀ j, j ≠ 10 → N1 0 j = N 0 j) → (∀ i f, i < u → f < 6 → N1 6 (6 * i + f) = N 6 (6 * (i + xush (S 2 4)) + f)) → xW xSR 172 49 [.ref 0, .int (nI a), .int (nI b), .int (nI c), v] [] N1 Q := by
    intro u v N1 h8 hu1 k0 k1 k2 k3
    have e1 : N1 1 = N 1 := k1 1 (by decide) (by decide)
    simp only [h172_49]
    simp (disch := first | decide | omega) only [s172, j172, k0, pk_mul, nI_add, xup_o, e1]
    refine hQ _ (fun k h0 h6 => ?_) (fun j hj => ?_) (RRu.push hu g2 ?_ ?_ (fun i f hi hf => ?_))
    · rw [xup_other h0, xup_other h6, xup_other h6, xup_other h6, xup_other h6, xup_other h6, xup_other h6]
      exact k1 k h0 h6
    · rw [xup_r hj, xup_o (by decide), xup_o (by decide), xup_o (by decide), xup_o (by decide), xup_o (by decide), xup_o (by decide)]
      exact k2 j hj
    · rw [xup_rs, hu1]
    · rw [hu1, Nat.add_sub_cancel]
      refine hE u _ ?_ ?_ ?_ ?_ ?_ ?_
      · rw [xup_o (by decide), xup_r (by omega), xup_r (by omega), xup_r (by omega), xup_r (by omega), xup_r (by omega), xup_rs]
      · rw [xup_o (by decide), xup_r (by omega), xup_r (by omega), xup_r (by omega), xup_r (by omega), xup_rs]
      · rw [xup_o (by decide), xup_r (by omega), xup_r (by omega), xup_r (by omega), xup_rs]
      · rw [xup_o (by decide), xup_r (by omega), xup_r (by omega), xup_rs]
      · rw [xup_o (by decide), xup_r (by omega), xup_rs]
      · rw [xup_o (by decide), xup_rs]
    · rw [xup_o (by decide), xup_r (by omega), xup_r (by omega), xup_r (by omega), xup_r (by omega), xup_r (by omega), xup_r (by omega)]
      exact k3 i f (by omega) hf
  by_cases q : S 2 4 = 8
  · have u2 : xush (S 2 4) = 1 := by unfold xush; rw [if_pos q]
    have u1 : xun1 (S 2 4) = 8 := by unfold xun1; rw [if_pos q]
    have key : ∀ (n k : Nat) (N1 : xM), k + n = 48 → 6 ≤ k → (∀ c, c ≠ 6 → N1 c = N c) → (∀ j, N1 6 j = if j < k - 6 then N 6 (j + 6) else N 6 j) → xW xSR 172 13 [.ref 0, .int (nI a), .int (nI b), .int (nI c), .int (nI k)] [] N1 Q := by
      intro n
      induction n with
      | zero =>
        intro k N1 hk h6 k1 k2
        rw [h172_13]
        simp (disch := first | decide | omega) only [s172, nI_lt_f, if_false]
        refine tail 7 _ _ (by decide) u1 (xup_rs _ _ _ _) (fun c h0 h6 => by rw [xup_other h0]; exact k1 c h6) (fun j hj => by rw [xup_r hj, k1 0 (by decide)]) (fun i f hi hf => ?_)
        rw [xup_o (by decide), k2, if_pos (by omega), u2]
        congr 1
        omega
      | succ n ih =>
        intro k N1 hk h6 k1 k2
        rw [h172_13]
        simp (disch := first | decide | omega) only [s172, nI_lt_t, if_true, pk_sub, nI_add]
        refine ih (k + 1) _ (by omega) (by omega) (fun c hc => by rw [xup_other hc]; exact k1 c hc) (fun j => ?_)
        by_cases z : j = k - 6
        · rw [z, xup_rs, if_pos (by omega), k2, if_neg (by omega)]
          congr 1
          omega
        · rw [xup_r z, k2]
          by_cases y : j < k - 6
          · rw [if_pos y, if_pos (by omega)]
          · rw [if_neg y, if_neg (by omega)]
    rw [q] at g1
    simp (disch := first | decide | omega) only [s172, g1, nI_eq_t, if_true]
    exact key 42 6 N rfl (by decide) (fun _ _ => rfl) (fun j => by rw [if_neg (by omega)])
  · have u2 : xush (S 2 4) = 0 := by unfold xush; rw [if_neg q]
    have u1 : xun1 (S 2 4) = S 2 4 + 1 := by unfold xun1; rw [if_neg q]
    simp (disch := first | decide | omega) only [s172, g1, nI_eq_f, if_false]
    exact tail (S 2 4) _ N (by omega) u1 g1 (fun _ _ _ => rfl) (fun _ _ => rfl) (fun i f hi hf => by rw [u2, Nat.add_zero])
end C26
