/-! signs put, doors hung -/
def hset (h : Nat → Nat) (k v : Nat) : Nat → Nat := fun j => if j = k then v else h j
theorem cH.door {k j0 v : Nat} {h : Nat → Nat} {M : xM} (H : cH k h M) (hj : j0 < 48) : cH k (hset h (3 + j0) v) (xup M (k + 1) j0 (nI v)) := by
  obtain ⟨⟨h1, h2, h3⟩, h4, h5, h6, h7⟩ := H
  have e : ∀ j, j ≠ 3 + j0 → hset h (3 + j0) v j = h j := fun j q => by unfold hset; rw [if_neg q]
  refine ⟨⟨?_, ?_, ?_⟩, fun j q => ?_, fun j q => ?_, fun j q => ?_, fun j q => ?_⟩
  · rw [xup_o (by omega), e 0 (by omega)]; exact h1
  · rw [xup_o (by omega), e 1 (by omega)]; exact h2
  · rw [xup_o (by omega), e 2 (by omega)]; exact h3
  · by_cases z : j = j0
    · subst z
      rw [xup_rs]
      unfold hset
      rw [if_pos rfl]
    · rw [xup_r z, e _ (by omega)]
      exact h4 j q
  · rw [e 2 (by omega)] at q
    rw [xup_o (by omega), e _ (by omega)]; exact h5 j q
  · rw [xup_o (by omega), e _ (by omega)]; exact h6 j q
  · rw [xup_o (by omega), e _ (by omega)]; exact h7 j q
theorem rH.up {c j0 v : Nat} {h : Nat → Nat} {M : xM} (R : rH c h M) (hj : ¬ rla j0) : rH c (hset h j0 v) (xup M c j0 (nI v)) := by
  constructor
  · intro j a b
    unfold hset
    by_cases z : j = j0
    · rw [if_pos z, z, xup_rs]
    · rw [if_neg z, xup_r z]
      exact R.1 j a b
  · intro j a
    have z : j ≠ j0 := fun q => hj (q ▸ a)
    unfold hset
    rw [if_neg z, xup_r z]
    exact R.2 j a
theorem xWF.sign {h : Nat → Nat} (W : xWF h) {d c v : Nat} (hc : c = 4 ∨ c = 5) (hv : v < 64) (hd : d < 8) : xWF (hset h (3 + (d * 6 + c)) v) := by
  have e : ∀ j, j ≠ 3 + (d * 6 + c) → hset h (3 + (d * 6 + c)) v j = h j := fun j q => by unfold hset; rw [if_neg q]
  have e2 : ∀ j, h j < 64 → hset h (3 + (d * 6 + c)) v j < 64 := fun j q => by
    unfold hset
    split <;> omega
  obtain ⟨⟨a1, a2, a3, a4⟩, b, c1, c2, c3⟩ := W
  refine ⟨⟨by rw [e 0 (by omega)]; exact a1, by rw [e 0 (by omega)]; exact a2, by rw [e 1 (by omega)]; exact a3, by rw [e 2 (by omega)]; exact a4⟩, fun d' hd' => ?_, fun i hi => ?_, fun j hj => by rw [e _ (by omega)]; exact c2 j hj, fun j hj => by rw [e _ (by omega)]; exact c3 j hj⟩
  · rw [e 1 (by omega)] at hd'
    obtain ⟨b1, b2, b3, b4, b5, b6, b7, b8⟩ := b d' hd'
    rw [e (3 + (d' * 6 + 0)) (by omega), e (3 + (d' * 6 + 1)) (by omega), e (3 + (d' * 6 + 2)) (by omega), e (3 + (d' * 6 + 3)) (by omega), e 0 (by omega)]
    exact ⟨b1, b2, b3, b4, b5, b6, e2 _ b7, e2 _ b8⟩
  · rw [e 2 (by omega)] at hi
    rw [e (51 + (i * 3 + 0)) (by omega), e (51 + (i * 3 + 1)) (by omega), e (51 + (i * 3 + 2)) (by omega), e 0 (by omega)]
    exact c1 i hi
theorem xWF.hang {h : Nat → Nat} (W : xWF h) {d v : Nat} (hv : v ≤ 1) (hd : d < 8) : xWF (hset h (3 + (d * 6 + 2)) v) := by
  have e : ∀ j, j ≠ 3 + (d * 6 + 2) → hset h (3 + (d * 6 + 2)) v j = h j := fun j q => by unfold hset; rw [if_neg q]
  have e2 : ∀ j, h j ≤ 2 → hset h (3 + (d * 6 + 2)) v j ≤ 2 := fun j q => by
    unfold hset
    split <;> omega
  obtain ⟨⟨a1, a2, a3, a4⟩, b, c1, c2, c3⟩ := W
  refine ⟨⟨by rw [e 0 (by omega)]; exact a1, by rw [e 0 (by omega)]; exact a2, by rw [e 1 (by omega)]; exact a3, by rw [e 2 (by omega)]; exact a4⟩, fun d' hd' => ?_, fun i hi => ?_, fun j hj => by rw [e _ (by omega)]; exact c2 j hj, fun j hj => by rw [e _ (by omega)]; exact c3 j hj⟩
  · rw [e 1 (by omega)] at hd'
    obtain ⟨b1, b2, b3, b4, b5, b6, b7, b8⟩ := b d' hd'
    rw [e (3 + (d' * 6 + 0)) (by omega), e (3 + (d' * 6 + 1)) (by omega), e (3 + (d' * 6 + 3)) (by omega), e (3 + (d' * 6 + (4 + 0))) (by omega), e (3 + (d' * 6 + (4 + 1))) (by omega), e 0 (by omega)]
    exact ⟨b1, b2, b3, e2 _ b4, b5, b6, b7, b8⟩
  · rw [e 2 (by omega)] at hi
    rw [e (51 + (i * 3 + 0)) (by omega), e (51 + (i * 3 + 1)) (by omega), e (51 + (i * 3 + 2)) (by omega), e 0 (by omega)]
    exact c1 i hi
section C27
variable {M N : xM} {Q : Option Value → xM → Prop} {S S1 : xA}
theorem RC.new {h' : Nat → Nat} {M' : xM} (C : RC S M) (e1 : ∀ a, a ≠ 2 → a ≠ 10 → S1 a = S a) (e2 : ∀ j, j ≠ 4 → S1 2 j = S 2 j) (H : cH 9 h' M') (U : RCu S1 M') (f : ∀ a, a = 0 ∨ a = 2 ∨ (14 ≤ a ∧ a ≤ 23) ∨ (26 ≤ a ∧ a ≤ 30) → M' a = M a) (f1 : M' 1 4 = M 1 4) : RC (sA S1 0 h') M' := by
  obtain ⟨⟨a1, a2⟩, -, ⟨c1, c2⟩, ⟨d1, d2⟩, ⟨x1, x2, x3⟩, -⟩ := C
  obtain ⟨nx, g0, g1, g2, g3⟩ := U
  simp (disch := first | decide | omega) only [RC, sA_s, sA_o, e2, e1]
  refine ⟨⟨by rw [f1]; exact a1, by rw [f 2 (by omega)]; exact a2⟩, H, ⟨by rw [f 0 (by omega)]; exact c1, by rw [f 26 (by omega)]; exact c2⟩, ⟨by rw [f 27 (by omega)]; exact d1, by rw [f 28 (by omega), f 29 (by omega), f 30 (by omega)]; exact d2⟩, ⟨by rw [f 0 (by omega)]; exact x1, fun h => (x2 h).mono (fun a _ _ => f a (by omega)), fun h => (x3 h).mono (fun a _ _ => f a (by omega))⟩, nx, g0, g1, g2, fun i hi => ?_⟩
  have := g3 i hi
  unfold xes at this ⊢
  simp (disch := first | decide | omega) only [sA_o]
  exact this
theorem RR.new {h' : Nat → Nat} {M' : xM} (R : RR S M) (e1 : ∀ a, a ≠ 2 → a ≠ 10 → S1 a = S a) (e2 : ∀ j, j ≠ 4 → S1 2 j = S 2 j) (H : rH 1 h' M') (U : RRu S1 M') (f : ∀ a, a = 2 ∨ a = 7 ∨ a = 11 ∨ a = 12 → M' a = M a) (f1 : ∀ j, j = 2 ∨ j = 11 ∨ j = 16 ∨ j = 18 → M' 0 j = M 0 j) : RR (sA S1 0 h') M' := by
  obtain ⟨⟨a1, a2⟩, -, ⟨c1, c2⟩, ⟨d1, d2⟩, ⟨x1, x2, x3⟩, -⟩ := R
  obtain ⟨g1, g2⟩ := U
  simp (disch := first | decide | omega) only [RR, sA_s, sA_o, e2, e1]
  refine ⟨⟨by rw [f1 2 (by omega)]; exact a1, by rw [f 2 (by omega)]; exact a2⟩, H, ⟨by rw [f1 11 (by omega)]; exact c1, by rw [f 7 (by omega)]; exact c2⟩, ⟨by rw [f1 16 (by omega)]; exact d1, by rw [f 11 (by omega)]; exact d2⟩, ⟨by rw [f1 18 (by omega)]; exact x1, by rw [f 12 (by omega)]; exact x2, by rw [f 12 (by omega)]; exact x3⟩, g1, fun i hi => ?_⟩
  have := g2 i hi
  unfold xes at this ⊢
  simp (disch := first | decide | omega) only [sA_o]
  exact this
theorem WA.new {h' : Nat → Nat} (W : WA S) (e1 : ∀ a, a ≠ 2 → a ≠ 10 → S1 a = S a) (e2 : ∀ j, j ≠ 4 → S1 2 j = S 2 j) (H : xWF h') (hs : xsm (S 0) h') (hu : S1 2 4 ≤ 8) (hx : ∀ i, i < S1 2 4 → xen h' (xes S1 i)) : WA (sA S1 0 h') := by
  obtain ⟨a, -, ⟨c1, c2⟩, ⟨d1, d2⟩, ⟨x1, x2, x3⟩, -⟩ := W
  obtain ⟨s0, s1, s2⟩ := hs
  simp (disch := first | decide | omega) only [WA, sA_s, sA_o, e2, e1]
  refine ⟨a, H, ⟨c1, fun j hj => by rw [s1]; exact c2 j hj⟩, ⟨d1, fun j hj => by rw [s1]; exact d2 j hj⟩, ⟨x1, fun h => ?_, fun h => ?_⟩, hu, fun i hi => ?_⟩
  · obtain ⟨q1, q2, q3, q4⟩ := x2 h
    exact ⟨q1, by rw [s0]; exact q2, by rw [s1]; exact q3, by rw [s2]; exact q4⟩
  · obtain ⟨q1, q2, q3, q4⟩ := x3 h
    exact ⟨q1, by rw [s0]; exact q2, by rw [s1]; exact q3, by rw [s2]; exact q4⟩
  · have := hx i hi
    unfold xes at this ⊢
    simp (disch := first | decide | omega) only [sA_o]
    exact this
theorem xen.mono {h h' e : Nat → Nat} (q : xen h e) (hs : xsm h h') (hw : ∀ d, d < h 1 → h (3 + (d * 6 + 2)) ≤ 1 → h' (3 + (d * 6 + 2)) ≤ 1) : xen h' e := by
  obtain ⟨s0, s1, s2⟩ := hs
  unfold xen at q ⊢
  rw [s0, s1, s2]
  rcases q with q | ⟨q1, q2, q3⟩
  · exact Or.inl q
  · refine Or.inr ⟨q1, q2, ?_⟩
    rcases q3 with ⟨a, b, c⟩ | q3
    · exact Or.inl ⟨a, b, hw _ q2 c⟩
    · exact Or.inr q3
/-- what can be undone, with one entry more -/
theorem xen.push {h' e : Nat → Nat} (W : WA S) (hs : xsm (S 0) h') (hw : ∀ d, d < S 0 1 → S 0 (3 + (d * 6 + 2)) ≤ 1 → h' (3 + (d * 6 + 2)) ≤ 1) (he : xen h' e) : xpu S e 2 4 ≤ 8 ∧ ∀ i, i < xpu S e 2 4 → xen h' (xes (xpu S e) i) := by
  obtain ⟨g1, g2⟩ := W.2.2.2.2.2
  have u1 : xun1 (S 2 4) = if S 2 4 = 8 then 8 else S 2 4 + 1 := rfl
  have u2 : xush (S 2 4) = if S 2 4 = 8 then 1 else 0 := rfl
  rw [xpu_u]
  refine ⟨by split at u1 <;> omega, fun i hi => ?_⟩
  by_cases q : i = xun1 (S 2 4) - 1
  · exact xen_congr (e' := e) (fun f hf => by rw [xpu_es hf, if_pos q]) he
  · refine xen_congr (e' := xes S (i + xush (S 2 4))) (fun f hf => by rw [xpu_es hf, if_neg q]) ?_
    exact (g2 _ (by split at u1 <;> split at u2 <;> omega)).mono hs hw
theorem A_put (C : RC S M) (R : RR S N) (W : WA S) (x y z : Int32) : Agr S M N 108 [.ref 0, .int x, .int y, .int z, .null] 175 [.ref 0, .int x, .int y, .int z, .null, .null] := by
  have h8 := W.2.1.1.2.2.1
  have h5 := W.2.1.1.2.2.2
  obtain ⟨cn0, cn1, cn2⟩ := C.n
  obtain ⟨rn0, rn1, rn2⟩ := R.n
  have l0 : S 0 0 < 2 ^ 31 := by have := W.2.1.1.2.1; omega
  have l1 : S 0 1 < 2 ^ 31 := by omega
  have l2 : S 0 2 < 2 ^ 31 := by omega
  cases hx : xok x (S 0 1) <;> cases hy : xok y 2 <;> cases hz : xbw z 0 (63 + 1)
  all_goals try (refine Agr.same W (-1) ?_ ?_ <;> (simp (disch := first | decide | omega) only [s108, j108, c133 l1 cn1, cWi, s175, j175, r140 l1 rn1, r142, r135w, hx, hy, hz, xpush_s, Bool.false_eq_true, if_true, if_false, i12, i00, Bool.and_true, Bool.and_false, Bool.true_and, Bool.false_and]; exact ⟨trivial, by first | exact C | exact R⟩))
  obtain ⟨d, hd, rfl⟩ := xok_nI hx l1
  obtain ⟨e, he, rfl⟩ := xok_nI hy (by decide)
  obtain ⟨s, -, hs, rfl⟩ := xbw_nI hz (by decide)
  have m1 : M 10 (d * 6 + (4 + e)) = nI (xg (S 0) d e) := C.2.1.2.1 _ (by omega)
  have m2 : N 1 (3 + 6 * d + 4 + e) = nI (xg (S 0) d e) := R.2.1.at _ (by omega) (by omega) (by omega)
  have g64 := W.2.1.g hd he
  have ea : nI (3 + 6 * d + 4 + e) = nI (3 + 6 * xed d (4 + e) (xg (S 0) d e) 1 + xed d (4 + e) (xg (S 0) d e) 2) := by
    show nI (3 + 6 * d + 4 + e) = nI (3 + 6 * d + (4 + e))
    rw [Nat.add_assoc]
  have hp := xen.push (h' := hset (S 0) (3 + (d * 6 + (4 + e))) s) (e := xed d (4 + e) (xg (S 0) d e)) W ⟨by unfold hset; rw [if_neg (by omega)], by unfold hset; rw [if_neg (by omega)], by unfold hset; rw [if_neg (by omega)]⟩ (fun d' hd' q => by unfold hset; rw [if_neg (by omega)]; exact q) (Or.inr ⟨rfl, by show d < hset _ _ _ 1; unfold hset; rw [if_neg (by omega)]; exact hd, Or.inr ⟨by show 4 + e = 4 ∨ 4 + e = 5; omega, g64⟩⟩)
  refine ⟨nI (xg (S 0) d e), sA (xpu S (xed d (4 + e) (xg (S 0) d e))) 0 (hset (S 0) (3 + (d * 6 + (4 + e))) s), W.new (fun a => xpu_o) (fun j => xpu_2) (W.2.1.sign (by omega) (by omega) (by omega)) ⟨by unfold hset; rw [if_neg (by omega)], by unfold hset; rw [if_neg (by omega)], by unfold hset; rw [if_neg (by omega)]⟩ hp.1 hp.2, ?_, ?_⟩
  · simp (disch := first | decide | omega) only [s108, j108, c133 l1 cn1, hx, hy, hz, Bool.and_true, cWi, xpush_s, if_true, if_false, i12, c36, m1, nI_add]
    refine c7 C.2.2.2.2.2 W.2.2.2.2.2.1 (fun M1 f1 U => ?_)
    simp (disch := first | decide | omega) only [s108, j108, xpush_n, nI_add, c29]
    refine ⟨trivial, C.new (fun a => xpu_o) (fun j => xpu_2) ((C.2.1.fr f1 (by omega)).door (k := 9) (by omega)) ?_ (fun a q => by rw [xup_other (by omega)]; exact f1 a (by omega)) (by rw [xup_o (by decide), f1 1 (by omega)])⟩
    obtain ⟨nx, u0, u1, u2, u3⟩ := U
    exact ⟨nx, u0, by rw [xup_o (by decide)]; exact u1, by rw [xup_o (by decide)]; exact u2, fun i hi f hf => by rw [xup_o (by decide)]; exact u3 i hi f hf⟩
  · simp (disch := first | decide | omega) only [s175, j175, r140 l1 rn1, hx, r142, hy, r135w, hz, xpush_s, if_true, if_false, i12, pk_mul, nI_add]
    refine r172 (e := xed d (4 + e) (xg (S 0) d e)) R.2.2.2.2.2 W.2.2.2.2.2.1 (by omega) (by omega) (by omega) (fun i N' a b c d2 e2 f => ⟨fun q => absurd (show (1 : Nat) = 0 from q) (by decide), fun _ => ⟨by rw [a, ea], by rw [b, m2]; rfl, by rw [c, ea], by rw [d2, m2]; rfl, by rw [e2, ea], by rw [f, m2]; rfl⟩⟩) (fun N1 k1 k2 U => ?_)
    have e1 : N1 1 = N 1 := k1 1 (by decide) (by decide)
    simp (disch := first | decide | omega) only [s175, j175, xpush_n, e1, m2]
    have R1 : rH 1 (S 0) N1 := R.2.1.mono e1
    have R2 := R1.up (j0 := 3 + 6 * d + 4 + e) (v := s) (by unfold rla; omega)
    rw [show 3 + 6 * d + 4 + e = 3 + (d * 6 + (4 + e)) by omega] at R2 ⊢
    refine ⟨trivial, R.new (fun a => xpu_o) (fun j => xpu_2) R2 ?_ (fun a q => by rw [xup_other (by omega)]; exact k1 a (by omega) (by omega)) (fun j q => by rw [xup_o (by decide)]; exact k2 j (by omega))⟩
    obtain ⟨u1, u2⟩ := U
    exact ⟨by rw [xup_o (by decide)]; exact u1, fun i hi => by
      have := u2 i hi
      unfold rE at this ⊢
      rw [xup_other (by decide)]
      exact this⟩
theorem A_hang (C : RC S M) (R : RR S N) (W : WA S) (x : Int32) : Agr S M N 109 [.ref 0, .int x, .null] 176 [.ref 0, .int x, .null] := by
  have h8 := W.2.1.1.2.2.1
  have h5 := W.2.1.1.2.2.2
  obtain ⟨cn0, cn1, cn2⟩ := C.n
  obtain ⟨rn0, rn1, rn2⟩ := R.n
  have l0 : S 0 0 < 2 ^ 31 := by have := W.2.1.1.2.1; omega
  have l1 : S 0 1 < 2 ^ 31 := by omega
  have l2 : S 0 2 < 2 ^ 31 := by omega
  cases hx : xok x (S 0 1) with
  | false =>
    refine Agr.same W (-1) ?_ ?_
    · simp (disch := first | decide | omega) only [s109, j109, c24r l1 cn1, hx, xpush_s, Bool.false_eq_true, if_false, i00, if_true]
      exact ⟨trivial, C⟩
    · simp (disch := first | decide | omega) only [s176, j176, r140 l1 rn1, hx, xpush_s, Bool.false_eq_true, if_false, i00, if_true]
      exact ⟨trivial, R⟩
  | true =>
    obtain ⟨d, hd, rfl⟩ := xok_nI hx l1
    obtain ⟨-, -, -, hw, -, -, -, -⟩ := W.2.1.2.1 d hd
    obtain ⟨w, hwe⟩ : ∃ w, w = S 0 (3 + (d * 6 + 2)) := ⟨_, rfl⟩
    rw [← hwe] at hw
    have m1 : M 10 (d * 6 + 2) = nI w := by rw [hwe]; exact C.2.1.2.1 _ (by omega)
    have m2 : N 1 (3 + 6 * d + 2) = nI w := by rw [hwe]; exact R.2.1.at _ (by omega) (by omega) (by omega)
    by_cases q : w = 2
    · rw [q] at m1 m2
      refine Agr.same W (-2) ?_ ?_
      · simp (disch := first | decide | omega) only [s109, j109, c24r l1 cn1, hx, xpush_s, if_false, if_true, i12, c28, m1, nI_eq_t]
        exact ⟨trivial, C⟩
      · simp (disch := first | decide | omega) only [s176, j176, r140 l1 rn1, hx, xpush_s, if_false, if_true, i12, pk_mul, nI_add, m2, nI_eq_t]
        exact ⟨trivial, R⟩
    · have hp := xen.push (h' := hset (S 0) (3 + (d * 6 + 2)) (1 - w)) (e := xed d 2 w) W ⟨by unfold hset; rw [if_neg (by omega)], by unfold hset; rw [if_neg (by omega)], by unfold hset; rw [if_neg (by omega)]⟩ (fun d' hd' q => by unfold hset; split <;> omega) (Or.inr ⟨rfl, by show d < hset _ _ _ 1; unfold hset; rw [if_neg (by omega)]; exact hd, Or.inl ⟨rfl, by show w ≤ 1; omega, by show hset _ _ _ (3 + (d * 6 + 2)) ≤ 1; unfold hset; rw [if_pos rfl]; omega⟩⟩)
      have ea : nI (3 + 6 * d + 2) = nI (3 + 6 * xed d 2 w 1 + xed d 2 w 2) := rfl
      refine ⟨nI (1 - w), sA (xpu S (xed d 2 w)) 0 (hset (S 0) (3 + (d * 6 + 2)) (1 - w)), W.new (fun a => xpu_o) (fun j => xpu_2) (W.2.1.hang (by omega) (by omega)) ⟨by unfold hset; rw [if_neg (by omega)], by unfold hset; rw [if_neg (by omega)], by unfold hset; rw [if_neg (by omega)]⟩ hp.1 hp.2, ?_, ?_⟩
      · simp (disch := first | decide | omega) only [s109, j109, c24r l1 cn1, hx, xpush_s, if_false, if_true, i12, c28, m1, nI_eq_f]
        refine c7 C.2.2.2.2.2 W.2.2.2.2.2.1 (fun M1 f1 U => ?_)
        simp (disch := first | decide | omega) only [s109, j109, xpush_n, c29, pk_sub]
        refine ⟨trivial, C.new (fun a => xpu_o) (fun j => xpu_2) ((C.2.1.fr f1 (by omega)).door (k := 9) (by omega)) ?_ (fun a q => by rw [xup_other (by omega)]; exact f1 a (by omega)) (by rw [xup_o (by decide), f1 1 (by omega)])⟩
        obtain ⟨nx, u0, u1, u2, u3⟩ := U
        exact ⟨nx, u0, by rw [xup_o (by decide)]; exact u1, by rw [xup_o (by decide)]; exact u2, fun i hi f hf => by rw [xup_o (by decide)]; exact u3 i hi f hf⟩
      · simp (disch := first | decide | omega) only [s176, j176, r140 l1 rn1, hx, xpush_s, if_false, if_true, i12, pk_mul, nI_add, m2, nI_eq_f]
        refine r172 (e := xed d 2 w) R.2.2.2.2.2 W.2.2.2.2.2.1 (by omega) (by omega) (by omega) (fun i N' a b c d2 e2 f => ⟨fun q => absurd (show (1 : Nat) = 0 from q) (by decide), fun _ => ⟨by rw [a, ea], by rw [b, m2]; rfl, by rw [c, ea], by rw [d2, m2]; rfl, by rw [e2, ea], by rw [f, m2]; rfl⟩⟩) (fun N1 k1 k2 U => ?_)
        have e1 : N1 1 = N 1 := k1 1 (by decide) (by decide)
        simp (disch := first | decide | omega) only [s176, j176, xpush_n, e1, m2, pk_sub, xup_rs]
        have R1 : rH 1 (S 0) N1 := R.2.1.mono e1
        have R2 := R1.up (j0 := 3 + 6 * d + 2) (v := 1 - w) (by unfold rla; omega)
        rw [show 3 + 6 * d + 2 = 3 + (d * 6 + 2) by omega] at R2 ⊢
        refine ⟨trivial, R.new (fun a => xpu_o) (fun j => xpu_2) R2 ?_ (fun a q => by rw [xup_other (by omega)]; exact k1 a (by omega) (by omega)) (fun j q => by rw [xup_o (by decide)]; exact k2 j (by omega))⟩
        obtain ⟨u1, u2⟩ := U
        exact ⟨by rw [xup_o (by decide)]; exact u1, fun i hi => by
          have := u2 i hi
          unfold rE at this ⊢
          rw [xup_other (by decide)]
          exact this⟩
end C27
