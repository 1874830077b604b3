/-! what spoils -/
section C33
variable {M N : xM} {Q : Option Value → xM → Prop} {S S1 : xA} {h h' : Nat → Nat}
theorem nsub_max {a b : Nat} (ha : a < 2 ^ 31) (hb : b < 2 ^ 31) : xmax (nI a - nI b) (nI 0) = nI (a - b) := by
  by_cases q : b ≤ a
  · rw [pk_sub q, xmax_nI (by omega) (by omega), Nat.max_eq_left (by omega)]
  · have z : nI a - nI b < nI 0 := by
      rw [Int32.lt_iff_toInt_lt, Int32.toInt_sub, nI_toInt ha, nI_toInt hb, nI_toInt (by decide), Int.bmod_eq_of_le_mul_two (by omega) (by omega)]
      omega
    unfold xmax
    rw [if_pos z, show a - b = 0 by omega]
theorem A_spoilt (C : RC S M) (R : RR S N) (W : WA S) (x y z u w : Int32) : Agr S M N 116 [.ref 0, .int x, .int y, .int z, .int u, .int w, .null, .null] 186 [.ref 0, .int x, .int y, .int z, .int u, .int w, .null, .null, .null, .null, .null] := by
  have h8 := W.2.1.1.2.2.1
  have h5 := W.2.1.1.2.2.2
  obtain ⟨cn0, cn1, cn2⟩ := C.n
  obtain ⟨rn0, rn1, rn2⟩ := R.n
  have l0 : S 0 0 < 2 ^ 31 := by have := W.2.1.1.2.1; omega
  have l1 : S 0 1 < 2 ^ 31 := by omega
  have l2 : S 0 2 < 2 ^ 31 := by omega
  cases hx : xok x (S 0 2) <;> cases hy : xok y (S 0 1) <;> cases hz : xok z 2 <;> cases hu : xok u (S 0 1) <;> cases hw : xok w 2
  all_goals try (refine Agr.same W (-1) ?_ ?_ <;> (simp (disch := first | decide | omega) only [s116, j116, c134 l1 l2 cn1 cn2, c133 l1 cn1, s186, j186, r141 l2 rn2, r140 l1 rn1, r142, hx, hy, hz, hu, hw, xpush_s, Bool.false_eq_true, if_true, if_false, i12, i00, Bool.and_true, Bool.and_false, Bool.true_and, Bool.false_and]; exact ⟨trivial, by first | exact C | exact R⟩))
  obtain ⟨i, hi, rfl⟩ := xok_nI hx l2
  obtain ⟨d, hd, rfl⟩ := xok_nI hy l1
  obtain ⟨e, he, rfl⟩ := xok_nI hz (by decide)
  obtain ⟨g, hg, rfl⟩ := xok_nI hu l1
  obtain ⟨f, hf, rfl⟩ := xok_nI hw (by decide)
  by_cases q : d = g
  · subst q
    refine Agr.same W (-1) ?_ ?_
    · simp (disch := first | decide | omega) only [s116, j116, c134 l1 l2 cn1 cn2, c133 l1 cn1, hx, hy, hz, hu, hw, xpush_s, if_true, if_false, i12, Bool.and_true, eq_self]
      exact ⟨trivial, C⟩
    · simp (disch := first | decide | omega) only [s186, j186, r141 l2 rn2, r140 l1 rn1, r142, hx, hy, hz, hu, hw, xpush_s, if_true, if_false, i12, eq_self]
      exact ⟨trivial, R⟩
  · have hT := xTi_99 W.2.1 (show i < 5 by omega)
    have t99 := hT (2 * g + f) (by omega)
    obtain ⟨w1, w2, w3⟩ := W.2.1.2.2.1 i hi
    have w3 : xLa (S 0) i ≤ 3 := w3
    have kk : 66 + 16 * i + 2 * g + f = 66 + (i * 16 + (2 * g + f)) := by omega
    have mt : N 1 (66 + (i * 16 + (2 * g + f))) = nI (xTi (S 0) i (2 * g + f)) := R.2.1.at _ (by omega) (by omega) (by omega)
    have ml : N 1 (51 + 3 * i + 2) = rli (xLa (S 0) i) := R.2.1.la (by omega)
    obtain ⟨v, hv⟩ : ∃ v, v = min (xTi (S 0) i (2 * g + f) + 10) 99 := ⟨_, rfl⟩
    have hv99 : v ≤ 99 := by omega
    have hT2 := xpB_99 W.2.1 (i := i) (s := 2 * g + f) (v := v) (by omega) hv99
    obtain ⟨b1, b2, b3, b4⟩ := xAA_le W.2.1 (xLa (S 0) i) 0 (d := d) (e := e) (by omega) hT
    obtain ⟨b5, b6, b7, b8⟩ := xAA_le W.2.1 (xLa (S 0) i) 0 (d := d) (e := e) (by omega) hT2
    have p1 := xpa_le W.2.1 (xLa (S 0) i) 0 (d := d) (e := e) (by omega) hT
    have p2 := xpa_le W.2.1 (xLa (S 0) i) 0 (d := d) (e := e) (by omega) hT2
    refine Agr.same W (nI (xpa (S 0) (xpB (S 0) i (2 * g + f) v) (xLa (S 0) i) 0 d e - xpa (S 0) (xTi (S 0) i) (xLa (S 0) i) 0 d e)) ?_ ?_
    · simp (disch := first | decide | omega) only [s116, j116, c134 l1 l2 cn1 cn2, c133 l1 cn1, hx, hy, hz, hu, hw, xpush_s, if_true, if_false, i12, Bool.and_true, nI_eq_f, q]
      refine c85 C.2.1 W.2.1 hi (fun M1 f1 K => ?_)
      have K1 : cK (xRm2 (S 0) i) 0 (xLa (S 0) i) (xTi (S 0) i) (xup M1 31 1 (nI 0)) := by
        obtain ⟨k0, k1, k2, k3⟩ := K
        exact ⟨by rw [xup_r (by decide)]; exact k0, xup_rs _ _ _ _, by rw [xup_r (by decide)]; exact k2, fun j hj => by rw [xup_o (by decide)]; exact k3 j hj⟩
      have g1 : xfr 31 32 M (xup M1 31 1 (nI 0)) := fun a q => by rw [xup_other (by omega)]; exact f1 a q
      have H1 := C.2.1.fr g1 (by omega)
      have f0 := cfr.x g1 (by decide)
      generalize xup M1 31 1 (nI 0) = M2 at *
      have fx := xsf_fr (s := 33) (p := xPP (S 0) (xTi (S 0) i) (xLa (S 0) i) d e) (r := xQQ (S 0) (xTi (S 0) i) (xLa (S 0) i) d e) (a := xAA (S 0) (xTi (S 0) i) (xLa (S 0) i) 0 d e) (b := xBB (S 0) (xTi (S 0) i) (xLa (S 0) i) d e) (M := M2)
      have K3 := K1.fr fx (by omega)
      have H3 := H1.fr fx (by omega)
      have f4 := f0.tr (cfr.x fx (by decide))
      simp (disch := first | decide | omega) only [s116, xpush_n, xpush_s, c50_33 H1 K1 W.2.1 hd he w3 (show 0 ≤ 1 by omega) hT, c55_33 (xsf_2 _ _ _ _ _ _) (xsf_3 _ _ _ _ _ _) (show xAA (S 0) (xTi (S 0) i) (xLa (S 0) i) 0 d e < 2 ^ 31 by omega) (show xBB (S 0) (xTi (S 0) i) (xLa (S 0) i) d e < 2 ^ 31 by omega) (show 1000 < 2 ^ 31 by omega) b2]
      generalize xsf 33 (xPP (S 0) (xTi (S 0) i) (xLa (S 0) i) d e) (xQQ (S 0) (xTi (S 0) i) (xLa (S 0) i) d e) (xAA (S 0) (xTi (S 0) i) (xLa (S 0) i) 0 d e) (xBB (S 0) (xTi (S 0) i) (xLa (S 0) i) d e) M2 = M3 at *
      have ms : M3 32 (2 * g + f) = nI (xTi (S 0) i (2 * g + f)) := K3.2.2.2 _ (by omega)
      have K4 : cK (xRm2 (S 0) i) 0 (xLa (S 0) i) (xpB (S 0) i (2 * g + f) v) (xup M3 32 (2 * g + f) (nI v)) := cK.put (u := xTi (S 0) i (2 * g + f)) (by rw [xpB_self]; exact K3)
      have f32 : xfr 32 32 M3 (xup M3 32 (2 * g + f) (nI v)) := fun a q => xup_other (by omega)
      have H4 := H3.fr f32 (by omega)
      simp (disch := first | decide | omega) only [s116, pk_mul, nI_add, cG, xpush_s, ms, xmin_nI, ← hv, cS, xpush_n, c50_33 H4 K4 W.2.1 hd he w3 (show 0 ≤ 1 by omega) hT2, c55_33 (xsf_2 _ _ _ _ _ _) (xsf_3 _ _ _ _ _ _) (show xAA (S 0) (xpB (S 0) i (2 * g + f) v) (xLa (S 0) i) 0 d e < 2 ^ 31 by omega) (show xBB (S 0) (xpB (S 0) i (2 * g + f) v) (xLa (S 0) i) d e < 2 ^ 31 by omega) (show 1000 < 2 ^ 31 by omega) b6]
      rw [nsub_max (by unfold xpa at p2; omega) (by unfold xpa at p1; omega)]
      exact ⟨rfl, C.fr (f4.tr ((cfr.x f32 (by decide)).tr (cfr.x xsf_fr (by decide))))⟩
    · have Wh : xWF (hset (S 0) (66 + (i * 16 + (2 * g + f))) v) := W.2.1.times (by omega) (by omega) hv99
      have E : xeq (S 0) (hset (S 0) (66 + (i * 16 + (2 * g + f))) v) := hset_xeq (by omega) (by omega)
      have e0 : hset (S 0) (66 + (i * 16 + (2 * g + f))) v 1 = S 0 1 := E 1 (by omega)
      have eP := E.pa (T := xpB (S 0) i (2 * g + f) v) (la := xLa (S 0) i) (tr := 0) (show d < 8 by omega) he h8
      simp (disch := first | decide | omega) only [s186, j186, r141 l2 rn2, r140 l1 rn1, r142, hx, hy, hz, hu, hw, xpush_s, if_true, if_false, i12, nI_eq_f, q, pk_mul, nI_add, ml]
      refine r169 R.2.1 W.2.1 hd he (show i < 5 by omega) w3 (show 0 ≤ 1 by omega) (fun N1 g1 _ _ => ?_)
      have R1 := R.2.1.fr g1
      have m1 : N1 1 (66 + (i * 16 + (2 * g + f))) = nI (xTi (S 0) i (2 * g + f)) := R1.at _ (by omega) (by omega) (by omega)
      have R2 := R1.up (j0 := 66 + (i * 16 + (2 * g + f))) (v := v) (by unfold rla; omega)
      have next : xW xSR 186 117 [.ref 0, .int (nI i), .int (nI d), .int (nI e), .int (nI g), .int (nI f), .int (rli (xLa (S 0) i)), .int (nI (xpa (S 0) (xTi (S 0) i) (xLa (S 0) i) 0 d e)), .int (nI (66 + (i * 16 + (2 * g + f)))), .int (nI (xTi (S 0) i (2 * g + f))), .null] [.int (nI v), .int (nI (66 + (i * 16 + (2 * g + f)))), .ref 1] N1 (fun r N' => r = some (.int (nI (xpa (S 0) (xpB (S 0) i (2 * g + f) v) (xLa (S 0) i) 0 d e - xpa (S 0) (xTi (S 0) i) (xLa (S 0) i) 0 d e))) ∧ RR S N') := by
        simp (disch := first | decide | omega) only [s186, h186_117]
        refine r169 R2 Wh (show d < _ by rw [e0]; exact hd) he (show i < 5 by omega) w3 (show 0 ≤ 1 by omega) (fun N2 g2 _ _ => ?_)
        rw [hset_ti, eP]
        have R3 := (R2.fr g2).up (j0 := 66 + (i * 16 + (2 * g + f))) (v := xTi (S 0) i (2 * g + f)) (by unfold rla; omega)
        rw [hset_hset, show hset (S 0) (66 + (i * 16 + (2 * g + f))) (xTi (S 0) i (2 * g + f)) = S 0 from hset_self _ _] at R3
        have RR3 := R.fra ((g1.fa.tr (rfa.k1 (fun k q => xup_other q))).tr (g2.fa.tr (rfa.k1 (fun k q => xup_other q)))) R3
        by_cases z : xpa (S 0) (xTi (S 0) i) (xLa (S 0) i) 0 d e < xpa (S 0) (xpB (S 0) i (2 * g + f) v) (xLa (S 0) i) 0 d e
        · simp (disch := first | decide | omega) only [s186, xpush_s, nI_lt_t, if_true, pk_sub, h186_155]
          exact ⟨trivial, RR3⟩
        · simp (disch := first | decide | omega) only [s186, xpush_s, nI_lt_f, if_false, h186_155]
          exact ⟨by rw [show xpa (S 0) (xpB (S 0) i (2 * g + f) v) (xLa (S 0) i) 0 d e - xpa (S 0) (xTi (S 0) i) (xLa (S 0) i) 0 d e = 0 by omega], RR3⟩
      by_cases z : 89 < xTi (S 0) i (2 * g + f)
      · have hv2 : v = 99 := by omega
        simp (disch := first | decide | omega) only [s186, xpush_s, r158, kk, m1, nI_lt_t, if_true]
        rw [hv2] at next
        simpa only [hv2] using next
      · have hv2 : v = xTi (S 0) i (2 * g + f) + 10 := by omega
        simp (disch := first | decide | omega) only [s186, xpush_s, r158, kk, m1, nI_lt_f, if_false, nI_add, ← hv2]
        exact next
end C33
