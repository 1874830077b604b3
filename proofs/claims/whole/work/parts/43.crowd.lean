/-! how soon a crowd is out: alike -/
section C43
variable {M N : xM} {Q : Option Value → xM → Prop} {S S1 : xA} {h h' : Nat → Nat}
theorem A_crowd (C : RC S M) (R : RR S N) (W : WA S) (x1 x2 x3 : Int32) : Agr S M N 123 [.ref 0, .int x1, .int x2, .int x3, .null, .null] 196 [.ref 0, .int x1, .int x2, .int x3, .null, .null, .null, .null] := by
  have h8 := W.2.1.1.2.2.1
  have h5 := W.2.1.1.2.2.2
  obtain ⟨cn0, cn1, cn2⟩ := C.n
  obtain ⟨rn0, rn1, rn2⟩ := R.n
  have l0 : S 0 0 < 2 ^ 31 := by have := W.2.1.1.2.1; omega
  have l1 : S 0 1 < 2 ^ 31 := by omega
  have l2 : S 0 2 < 2 ^ 31 := by omega
  have n1 : ((-1 : Int32) < nI 0) = True := by decide
  by_cases q3 : x3 = -1
  · have e3 : (x3 = -1) = True := eq_true q3
    have n3 : (x3 < nI 0) = True := by rw [q3]; exact n1
    cases hx : xbw x1 1 (99 + 1) <;> cases hr : xok x2 (S 0 0)
    all_goals try (refine Agr.same W (-1) ?_ ?_ <;> (simp (disch := first | decide | omega) only [s123, h123_10, h123_49, h123_51, cWi, c23r l0 cn0, c24r l1 cn1, s196, h196_33, h196_35, r135w, r139 l0 rn0, r140 l1 rn1, hx, hr, e3, xpush_s, Bool.false_eq_true, if_true, if_false, i12, i00, Bool.and_true, Bool.and_false, Bool.true_and, Bool.false_and]; exact ⟨trivial, by first | exact C | exact R⟩))
    obtain ⟨n, n2, n3', rfl⟩ := xbw_nI hx (by decide)
    obtain ⟨r, r1, rfl⟩ := xok_nI hr l0
    refine Agr.same W (xsk (fun s => xsR (S 0) r (fun _ => true) s (S 0 1)) n 1 102) ?_ ?_
    · simp (disch := first | decide | omega) only [s123, e3, if_true, h123_10, cWi, hx, xpush_s, i12, if_false, c23r l0 cn0, hr, h123_51]
      exact c123k C.2.1 W.2.1 (by omega) r1 (fun k _ => ⟨fun z => absurd z (by decide), fun _ => rfl⟩) (fun M' f => ⟨rfl, C.fr (cfr.x f (by decide))⟩)
    · rw [← xsk_109 (S 0) r n (S 0 1) (fun _ => true) (by omega)]
      simp (disch := first | decide | omega) only [s196, r135w, hx, xpush_s, i12, if_true, if_false, r139 l0 rn0, hr, e3, h196_35, n3]
      exact r196k R.2.1 W.2.1 (by omega) r1 (fun k _ => ⟨fun z => absurd (by rw [n3]; trivial) z, fun _ => rfl⟩) (fun N' f => ⟨rfl, R.fr f⟩)
  · have e3 : (x3 = -1) = False := eq_false q3
    cases hx : xbw x1 1 (99 + 1) <;> cases hr : xok x2 (S 0 0) <;> cases hd : xok x3 (S 0 1)
    all_goals try (refine Agr.same W (-1) ?_ ?_ <;> (simp (disch := first | decide | omega) only [s123, h123_10, h123_49, h123_51, cWi, c23r l0 cn0, c24r l1 cn1, s196, h196_33, h196_35, r135w, r139 l0 rn0, r140 l1 rn1, hx, hr, hd, e3, xpush_s, Bool.false_eq_true, if_true, if_false, i12, i00, Bool.and_true, Bool.and_false, Bool.true_and, Bool.false_and]; exact ⟨trivial, by first | exact C | exact R⟩))
    obtain ⟨n, n2, n3', rfl⟩ := xbw_nI hx (by decide)
    obtain ⟨r, r1, rfl⟩ := xok_nI hr l0
    obtain ⟨d, d1, rfl⟩ := xok_nI hd l1
    have ld : ¬ nI d < nI 0 := by rw [nI_nneg (by omega)]; exact fun z => z
    obtain ⟨x1, x2, -, -, -, -, -, -⟩ := W.2.1.2.1 d d1
    have x1 : xdr (S 0) d 0 < S 0 0 := x1
    have x2 : xdr (S 0) d 1 < S 0 0 := x2
    have a0 : M 10 (d * 6 + 0) = nI (xdr (S 0) d 0) := C.2.1.2.1 _ (by omega)
    have a1 : M 10 (d * 6 + 1) = nI (xdr (S 0) d 1) := C.2.1.2.1 _ (by omega)
    have sd : (if nI (xdr (S 0) d 0) = nI r then nI 0 else if nI (xdr (S 0) d 1) = nI r then nI 1 else -1) = xsd (S 0) d r := rfl
    have sde := xsd_se (h := S 0) (k := d) (r := r) (by omega) (by omega) (by omega)
    have le := xse_le (S 0) d r
    have r171' := fun (Q : Option Value → xM → Prop) => r171 (M := N) (Q := Q) (d := d) (rr := nI r) R.2.1 (show d < 8 by omega)
    by_cases y : xse (S 0) d r = 2
    · rw [if_pos y] at sde
      refine Agr.same W (-2) ?_ ?_
      · simp (disch := first | decide | omega) only [s123, e3, if_false, h123_10, cWi, hx, xpush_s, i12, i00, if_true, c23r l0 cn0, hr, c24r l1 cn1, hd, h123_51, c40, a0, a1, sd, sde, n1]
        exact ⟨trivial, C⟩
      · simp (disch := first | decide | omega) only [s196, r135w, hx, xpush_s, i12, if_true, if_false, r139 l0 rn0, hr, e3, r140 l1 rn1, hd, h196_35, nI_nneg, r171', sd, sde, n1]
        exact ⟨trivial, R⟩
    · rw [if_neg y] at sde
      have se : ∀ k, k < S 0 1 → (nI k = nI d) = ((fun k => decide (k = d)) k = true) := fun k hk => by
        rw [nI_eq (by omega) (by omega)]
        exact propext ⟨fun z => decide_eq_true z, fun z => of_decide_eq_true z⟩
      refine Agr.same W (xsk (fun s => xsR (S 0) r (fun k => decide (k = d)) s (S 0 1)) n 1 102) ?_ ?_
      · simp (disch := first | decide | omega) only [s123, e3, if_false, h123_10, cWi, hx, xpush_s, i12, i00, if_true, c23r l0 cn0, hr, c24r l1 cn1, hd, h123_51, c40, a0, a1, sd, sde, nI_nneg]
        exact c123k C.2.1 W.2.1 (by omega) r1 (fun k hk => ⟨fun _ => se k hk, fun z => absurd rfl z⟩) (fun M' f => ⟨rfl, C.fr (cfr.x f (by decide))⟩)
      · rw [← xsk_109 (S 0) r n (S 0 1) (fun k => decide (k = d)) (by omega)]
        simp (disch := first | decide | omega) only [s196, r135w, hx, xpush_s, i12, if_true, if_false, r139 l0 rn0, hr, e3, r140 l1 rn1, hd, h196_35, nI_nneg, r171', sd, sde]
        exact r196k R.2.1 W.2.1 (by omega) r1 (fun k hk => ⟨fun _ => by rw [← se k hk]; exact propext ⟨fun z => z.symm, fun z => z.symm⟩, fun z => absurd z ld⟩) (fun N' f => ⟨rfl, R.fr f⟩)
end C43
