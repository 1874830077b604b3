/-! undone -/
def xpB (h : Nat → Nat) (i s t : Nat) : Nat → Nat := fun j => if j = s then t else xTi h i j
def xback (h e : Nat → Nat) : Nat → Nat := if e 0 = 0 then xleave h (e 1) (e 4) (e 5) (xpB h (e 1) (e 2) (e 3)) else hset h (3 + (e 1 * 6 + e 2)) (e 3)
section C29
variable {M N : xM} {Q : Option Value → xM → Prop} {S S1 : xA} {h : Nat → Nat}
theorem cH.go {k i s t rm la : Nat} (H : cH k h M) (hi : i < h 2) (h5 : h 2 ≤ 5) (hs : s < 16) : cH k (xleave h i rm la (xpB h i s t)) (xup (xup (xup M (k + 3) (i * 16 + s) (nI t)) (k + 2) (i * 3 + 0) (nI rm)) (k + 2) (i * 3 + 2) (nI la)) := by
  obtain ⟨⟨h1, h2, h3⟩, h4, hp, hw, h7⟩ := H
  have hi5 : i < 5 := by omega
  refine ⟨⟨?_, ?_, ?_⟩, fun j q => ?_, fun j q => ?_, fun j q => ?_, fun j q => ?_⟩
  · rw [xup_o (by omega), xup_o (by omega), xup_o (by omega), xleave_o (by omega) hi5]; exact h1
  · rw [xup_o (by omega), xup_o (by omega), xup_o (by omega), xleave_o (by omega) hi5]; exact h2
  · rw [xup_o (by omega), xup_o (by omega), xup_o (by omega), xleave_o (by omega) hi5]; exact h3
  · rw [xup_o (by omega), xup_o (by omega), xup_o (by omega), xleave_o (by omega) hi5]; exact h4 j q
  · rw [xleave_o (by omega) hi5] at q
    unfold xleave
    by_cases z2 : j = i * 3 + 2
    · rw [z2, xup_rs, if_neg (by omega), if_pos rfl]
    · rw [xup_r z2]
      by_cases z0 : j = i * 3 + 0
      · rw [z0, xup_rs, if_pos rfl]
      · rw [xup_r z0, xup_o (by omega), if_neg (by omega), if_neg (by omega), if_neg (by omega)]
        exact hp j q
  · rw [xup_o (by omega), xup_o (by omega)]
    unfold xleave
    rw [if_neg (by omega), if_neg (by omega)]
    by_cases z : j = i * 16 + s
    · rw [z, xup_rs, if_pos (by omega)]
      unfold xpB
      rw [if_pos (by omega)]
    · rw [xup_r z, hw j q]
      by_cases y : 66 + i * 16 ≤ 66 + j ∧ 66 + j < 66 + (i * 16 + 16)
      · rw [if_pos y]
        unfold xpB xTi
        rw [if_neg (by omega)]
        congr 2
        omega
      · rw [if_neg y]
  · rw [xup_o (by omega), xup_o (by omega), xup_o (by omega), xleave_o (by omega) hi5]; exact h7 j q
theorem rH.go {i s t rm la : Nat} {N' : xM} (R : rH 1 h N) (hi : i < 5) (hs : s < 16) (k2 : N' 1 = (xup (xup (xup N 1 (51 + 3 * i) (nI rm)) 1 (51 + 3 * i + 2) (rli la)) 1 (66 + 16 * i + s) (nI t)) 1) : rH 1 (xleave h i rm la (xpB h i s t)) N' := by
  constructor
  · intro j a b
    unfold rla at b
    rw [k2]
    by_cases z0 : j = 51 + 3 * i
    · rw [xup_r (by omega), xup_r (by omega), z0, xup_rs]
      unfold xleave
      rw [if_pos (by omega)]
    · by_cases z1 : j = 66 + 16 * i + s
      · rw [z1, xup_rs]
        unfold xleave
        rw [if_neg (by omega), if_neg (by omega), if_pos (by omega)]
        unfold xpB
        rw [if_pos (by omega)]
      · rw [xup_r z1, xup_r (by omega), xup_r z0, R.1 j a (by unfold rla; exact b)]
        congr 1
        unfold xleave
        rw [if_neg (by omega), if_neg (by omega)]
        by_cases z2 : 66 + i * 16 ≤ j ∧ j < 66 + (i * 16 + 16)
        · rw [if_pos z2]
          unfold xpB xTi
          rw [if_neg (by omega)]
          congr 1
          omega
        · rw [if_neg z2]
  · intro j a
    rw [k2]
    by_cases z : j = 51 + 3 * i + 2
    · rw [xup_r (by omega), z, xup_rs]
      have e1 : xleave h i rm la (xpB h i s t) (51 + 3 * i + 2) = la := by
        unfold xleave
        rw [if_neg (by omega), if_pos (by omega)]
      rw [e1]
      rfl
    · unfold rla at a
      rw [xup_r (by omega), xup_r z, xup_r (by omega), R.2 j (by unfold rla; exact a)]
      have e1 : xleave h i rm la (xpB h i s t) j = h j := by
        unfold xleave
        rw [if_neg (by omega), if_neg (by omega), if_neg (by omega)]
      rw [e1]
theorem c9 {nx u : Nat} {e : Nat → Nat} (H : cH 9 h M) (W : xWF h) (hn : nx < 8) (hu : u < 8) (g1 : M 24 1 = nI nx) (g2 : M 24 2 = nI (u + 1)) (E : xen h e) (g3 : ∀ f, f < (if e 0 = 0 then 6 else 4) → M 25 ((nx + 8 - 1) % 8 * 6 + f) = nI (e f)) (hQ : ∀ M', (∀ a, a ≠ 10 → a ≠ 11 → a ≠ 12 → a ≠ 24 → M' a = M a) → M' 24 1 = nI ((nx + 8 - 1) % 8) → M' 24 2 = nI u → cH 9 (xback h e) M' → Q none M') : xW xSC 9 0 [.ref 24, .ref 9, .null, .null, .null, .null] [] M Q := by
  have h8 := W.1.2.2.1
  have h5 := W.1.2.2.2
  have o10 : ∀ (M : xM) k x j y, (xup (xup M 24 k x) 24 j y) 25 = M 25 := fun M k x j y => by rw [xup_other (by decide), xup_other (by decide)]
  have u1 : u + 1 - 1 = u := rfl
  have fr24 : ∀ (M : xM) k x j y, cH 9 h M → cH 9 h (xup (xup M 24 k x) 24 j y) := fun M k x j y H => H.mono (fun a q1 q2 => by rw [xup_other (by omega), xup_other (by omega)])
  rcases E with ⟨x0, x1, x2, x3, x4, x5⟩ | ⟨x0, x1, x2⟩
  · rw [x0, if_pos rfl] at g3
    have r0 := g3 0 (by decide)
    rw [Nat.add_zero, x0] at r0
    have r1 := g3 1 (by decide)
    have r2 := g3 2 (by decide)
    have r3 := g3 3 (by decide)
    have r4 := g3 4 (by decide)
    have r5 := g3 5 (by decide)
    have n01 : (nI 0 = nI 1) = False := by simp; decide
    have o2 : ∀ (M : xM) j x, (xup M 12 j x) 25 = M 25 := fun M j x => xup_other (by decide)
    have o3 : ∀ (M : xM) j x, (xup M 11 j x) 25 = M 25 := fun M j x => xup_other (by decide)
    simp (disch := first | decide | omega) only [s9, j9, g1, nI_add, pk_sub, pk_rem, xup_r, xup_rs, g2, u1, pk_mul, cG, xpush_s, o10, r0, r1, r2, r3, n01, if_false, c33, xpush_n, o2, r4, c31, o3, r5]
    have H2 := (fr24 M 1 (nI ((nx + 8 - 1) % 8)) 2 (nI u) H).go (i := e 1) (s := e 2) (t := e 3) (rm := e 4) (la := e 5) x1 h5 (by omega)
    refine hQ _ (fun a q1 q2 q3 q4 => by rw [xup_other (by omega), xup_other (by omega), xup_other (by omega), xup_other (by omega), xup_other (by omega)]) ?_ ?_ ?_
    · rw [xup_o (by decide), xup_o (by decide), xup_o (by decide), xup_r (by decide), xup_rs]
    · rw [xup_o (by decide), xup_o (by decide), xup_o (by decide), xup_rs]
    · unfold xback
      rw [if_pos x0]
      exact H2
  · rw [x0, if_neg (by decide)] at g3
    have r0 := g3 0 (by decide)
    rw [Nat.add_zero, x0] at r0
    have r1 := g3 1 (by decide)
    have r2 := g3 2 (by decide)
    have r3 := g3 3 (by decide)
    have x3 : e 2 < 6 := by omega
    simp (disch := first | decide | omega) only [s9, j9, g1, nI_add, pk_sub, pk_rem, xup_r, xup_rs, g2, u1, pk_mul, cG, xpush_s, o10, r0, r1, r2, r3, if_true, c29, xpush_n]
    refine hQ _ (fun a q1 q2 q3 q4 => by rw [xup_other (by omega), xup_other (by omega), xup_other (by omega)]) ?_ ?_ ?_
    · rw [xup_o (by decide), xup_r (by decide), xup_rs]
    · rw [xup_o (by decide), xup_rs]
    · unfold xback
      rw [if_neg (by omega)]
      exact (fr24 M 1 (nI ((nx + 8 - 1) % 8)) 2 (nI u) H).door (by omega)
theorem xback_sm {e : Nat → Nat} (W : xWF h) (E : xen h e) : xsm h (xback h e) ∧ xWF (xback h e) ∧ ∀ d, d < h 1 → h (3 + (d * 6 + 2)) ≤ 1 → xback h e (3 + (d * 6 + 2)) ≤ 1 := by
  have h8 := W.1.2.2.1
  have h5 := W.1.2.2.2
  rcases E with ⟨x0, x1, x2, x3, x4, x5⟩ | ⟨x0, x1, x2⟩
  · unfold xback
    rw [if_pos x0]
    refine ⟨⟨xleave_o (by omega) (by omega), xleave_o (by omega) (by omega), xleave_o (by omega) (by omega)⟩, W.leave (by omega) x4 x5 (fun j hj => ?_), fun d hd q => by rw [xleave_o (by omega) (by omega)]; exact q⟩
    unfold xpB
    split
    · exact x3
    · exact xTi_99 W (show e 1 < 5 by omega) j hj
  · unfold xback
    rw [if_neg (by omega)]
    refine ⟨⟨by unfold hset; rw [if_neg (by omega)], by unfold hset; rw [if_neg (by omega)], by unfold hset; rw [if_neg (by omega)]⟩, ?_, fun d hd q => ?_⟩
    · rcases x2 with ⟨a, b, -⟩ | ⟨a, b⟩
      · rw [a]
        exact W.hang b (by omega)
      · exact W.sign a b (by omega)
    · unfold hset
      rcases x2 with ⟨a, b, -⟩ | ⟨a, b⟩
      · split <;> omega
      · rw [if_neg (by omega)]; exact q
theorem A_undo (C : RC S M) (R : RR S N) (W : WA S) : Agr S M N 110 [.ref 0] 177 [.ref 0, .null] := by
  have h8 := W.2.1.1.2.2.1
  have h5 := W.2.1.1.2.2.2
  have hu8 := W.2.2.2.2.2.1
  obtain ⟨nx, hn, g1, g2, g3⟩ := C.2.2.2.2.2
  obtain ⟨k1, k2⟩ := R.2.2.2.2.2
  rcases (show S 2 4 = 0 ∨ ∃ u, S 2 4 = u + 1 from by cases q : S 2 4 with | zero => exact Or.inl rfl | succ n => exact Or.inr ⟨n, rfl⟩) with q | ⟨u, q⟩
  · rw [q] at g2 k1
    refine Agr.same W (-2) ?_ ?_
    · simp (disch := first | decide | omega) only [s110, j110, g2, nI_lt_t, if_true]
      exact ⟨trivial, C⟩
    · simp (disch := first | decide | omega) only [s177, j177, k1, if_true]
      exact ⟨trivial, R⟩
  · have E := W.2.2.2.2.2.2 u (by omega)
    obtain ⟨b1, b2, b3⟩ := xback_sm W.2.1 E
    have e2 : ∀ i, xes (sN S 4 u) i = xes S i := fun i => by unfold xes; rw [sN_a (by decide)]
    have gl := g3 u (by omega)
    have gk := k2 u (by omega)
    rw [q] at g2 k1
    refine ⟨nI u, sA (sN S 4 u) 0 (xback (S 0) (xes S u)), W.new (fun a h1 h2 => sN_a h1) (fun j => sN_o) b2 b1 (by rw [sN_s]; omega) (fun i hi => ?_), ?_, ?_⟩
    · rw [sN_s] at hi
      rw [e2]
      exact (W.2.2.2.2.2.2 i (by omega)).mono b1 b3
    · simp (disch := first | decide | omega) only [s110, j110, g2, nI_lt_f, if_false]
      refine c9 C.2.1 W.2.1 hn (show u < 8 by omega) g1 g2 E (fun f hf => ?_) (fun M1 f1 m1 m2 H1 => ?_)
      · rw [← gl f hf, show (nx + 8 - S 2 4 + u) % 8 = (nx + 8 - 1) % 8 by omega]
      · simp (disch := first | decide | omega) only [s110, j110, xpush_n, m2]
        refine ⟨trivial, C.new (fun a h1 h2 => sN_a h1) (fun j => sN_o) H1 ⟨(nx + 8 - 1) % 8, by omega, m1, by rw [sN_s]; exact m2, fun i hi => ?_⟩ (fun a z => f1 a (by omega) (by omega) (by omega) (by omega)) (by rw [f1 1 (by decide) (by decide) (by decide) (by decide)])⟩
        rw [sN_s] at hi ⊢
        rw [e2]
        have g := g3 i (by omega)
        intro f hf
        rw [f1 25 (by decide) (by decide) (by decide) (by decide), ← g f hf, show (nx + 8 - S 2 4 + i) % 8 = ((nx + 8 - 1) % 8 + 8 - u + i) % 8 by omega]
    · have n0 : (nI (u + 1) = nI 0) = False := nI_eq_f (by omega) (by omega) (by omega)
      have u1 : u + 1 - 1 = u := rfl
      have fin : ∀ N' : xM, (∀ a, a ≠ 0 → a ≠ 1 → N' a = N a) → (∀ j, j ≠ 10 → N' 0 j = N 0 j) → N' 0 10 = nI u → rH 1 (xback (S 0) (xes S u)) N' → RR (sA (sN S 4 u) 0 (xback (S 0) (xes S u))) N' := by
        intro N' f1 f2 f3 H
        refine R.new (fun a h1 h2 => sN_a h1) (fun j => sN_o) H ⟨by rw [sN_s]; exact f3, fun i hi => ?_⟩ (fun a z => f1 a (by omega) (by omega)) (fun j z => f2 j (by omega))
        rw [sN_s] at hi
        rw [e2]
        have := k2 i (by omega)
        unfold rE at this ⊢
        rw [f1 6 (by decide) (by decide)]
        exact this
      rcases E with ⟨x0, x1, x2, x3, x4, x5⟩ | ⟨x0, x1, x2⟩
      · obtain ⟨a0, a1, a2, a3, a4, a5⟩ := gk.1 x0
        have o6 : ∀ (M : xM) j x, (xup M 1 j x) 6 = M 6 := fun M j x => xup_other (by decide)
        have o60 : ∀ (M : xM) j x, (xup M 0 j x) 6 = M 6 := fun M j x => xup_other (by decide)
        have o10 : ∀ (M : xM) j x, (xup M 1 j x) 0 = M 0 := fun M j x => xup_other (by decide)
        simp (disch := first | decide | omega) only [s177, j177, k1, n0, if_false, pk_sub, u1, xup_rs, pk_mul]
        rw [h177_28]
        simp (disch := first | decide | omega) only [s177, j177, xup_rs, pk_mul, nI_add, nI_lt_t, if_true, o6, o60, a0, a1]
        rw [h177_28]
        simp (disch := first | decide | omega) only [s177, j177, xup_rs, pk_mul, nI_add, nI_lt_t, if_true, o6, o60, o10, a2, show 6 * u + 2 + 1 = 6 * u + 3 from rfl, a3]
        rw [h177_28]
        simp (disch := first | decide | omega) only [s177, j177, xup_rs, pk_mul, nI_add, nI_lt_t, if_true, o6, o60, o10, show 6 * u + 2 + 2 = 6 * u + 4 from rfl, a4, show 6 * u + 4 + 1 = 6 * u + 5 from rfl, a5]
        rw [h177_28]
        simp (disch := first | decide | omega) only [s177, j177, xup_rs, pk_mul, nI_add, nI_lt_f, if_false, o10]
        refine ⟨trivial, fin _ (fun a z0 z1 => by rw [xup_other z1, xup_other z1, xup_other z1, xup_other z0]) (fun j z => by rw [o10, o10, o10, xup_r z]) (by rw [o10, o10, o10, xup_rs]) ?_⟩
        unfold xback
        rw [if_pos x0]
        refine rH.go (N := xup N 0 10 (nI u)) (R.2.1.mono (xup_other (by decide))) (by omega) (by omega) rfl
      · obtain ⟨a0, a1, a2, a3, a4, a5⟩ := gk.2 x0
        have x3 : xes S u 2 < 6 := by omega
        have o6 : ∀ (M : xM) j x, (xup M 1 j x) 6 = M 6 := fun M j x => xup_other (by decide)
        have o60 : ∀ (M : xM) j x, (xup M 0 j x) 6 = M 6 := fun M j x => xup_other (by decide)
        have o10 : ∀ (M : xM) j x, (xup M 1 j x) 0 = M 0 := fun M j x => xup_other (by decide)
        simp (disch := first | decide | omega) only [s177, j177, k1, n0, if_false, pk_sub, u1, xup_rs, pk_mul]
        rw [h177_28]
        simp (disch := first | decide | omega) only [s177, j177, xup_rs, pk_mul, nI_add, nI_lt_t, if_true, o6, o60, a0, a1]
        rw [h177_28]
        simp (disch := first | decide | omega) only [s177, j177, xup_rs, pk_mul, nI_add, nI_lt_t, if_true, o6, o60, o10, a2, show 6 * u + 2 + 1 = 6 * u + 3 from rfl, a3]
        rw [h177_28]
        simp (disch := first | decide | omega) only [s177, j177, xup_rs, pk_mul, nI_add, nI_lt_t, if_true, o6, o60, o10, show 6 * u + 2 + 2 = 6 * u + 4 from rfl, a4, show 6 * u + 4 + 1 = 6 * u + 5 from rfl, a5]
        rw [h177_28]
        simp (disch := first | decide | omega) only [s177, j177, xup_rs, pk_mul, nI_add, nI_lt_f, if_false, o10, xup_xup]
        refine ⟨trivial, fin _ (fun a z0 z1 => by rw [xup_other z1, xup_other z0]) (fun j z => by rw [o10, xup_r z]) (by rw [o10, xup_rs]) ?_⟩
        unfold xback
        rw [if_neg (by omega)]
        have R2 := (R.2.1.mono (M' := xup N 0 10 (nI u)) (xup_other (by decide))).up (j0 := 3 + 6 * xes S u 1 + xes S u 2) (v := xes S u 3) (by unfold rla; omega)
        rw [show 3 + 6 * xes S u 1 + xes S u 2 = 3 + (xes S u 1 * 6 + xes S u 2) by omega] at R2 ⊢
        exact R2
end C29
