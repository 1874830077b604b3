/-! what is learnt -/
section C32
variable {M N : xM} {Q : Option Value → xM → Prop} {S S1 : xA} {h h' : Nat → Nat}
theorem hset_ti (h : Nat → Nat) (i s v : Nat) : xTi (hset h (66 + (i * 16 + s)) v) i = xpB h i s v := by
  funext j
  unfold xTi hset xpB
  by_cases q : j = s
  · rw [if_pos (by omega), if_pos q]
  · rw [if_neg (by omega), if_neg q]
    rfl
theorem hset_hset (h : Nat → Nat) (k a b : Nat) : hset (hset h k a) k b = hset h k b := by
  funext j
  unfold hset
  split <;> rfl
theorem hset_self (h : Nat → Nat) (k : Nat) : hset h k (h k) = h := by
  funext j
  unfold hset
  split
  · next q => rw [q]
  · rfl
theorem hset_xeq {i s v : Nat} (hi : i < 5) (hs : s < 16) : xeq h (hset h (66 + (i * 16 + s)) v) := fun j q => by unfold hset; rw [if_neg (by omega)]
theorem xWF.times (W : xWF h) {i s v : Nat} (hi : i < 5) (hs : s < 16) (hv : v ≤ 99) : xWF (hset h (66 + (i * 16 + s)) v) := by
  have e : ∀ j, j < 66 ∨ 146 ≤ j → hset h (66 + (i * 16 + s)) v j = h j := fun j q => by unfold hset; rw [if_neg (by omega)]
  obtain ⟨⟨a1, a2, a3, a4⟩, b, c1, c2, c3⟩ := W
  refine ⟨⟨by rw [e 0 (by omega)]; exact a1, by rw [e 0 (by omega)]; exact a2, by rw [e 1 (by omega)]; exact a3, by rw [e 2 (by omega)]; exact a4⟩, fun d' hd' => ?_, fun k hk => ?_, fun j hj => ?_, fun j hj => by rw [e _ (by omega)]; exact c3 j hj⟩
  · rw [e 1 (by omega)] at hd'
    rw [e (3 + (d' * 6 + 0)) (by omega), e (3 + (d' * 6 + 1)) (by omega), e (3 + (d' * 6 + 2)) (by omega), e (3 + (d' * 6 + 3)) (by omega), e (3 + (d' * 6 + (4 + 0))) (by omega), e (3 + (d' * 6 + (4 + 1))) (by omega), e 0 (by omega)]
    exact b d' hd'
  · rw [e 2 (by omega)] at hk
    rw [e (51 + (k * 3 + 0)) (by omega), e (51 + (k * 3 + 1)) (by omega), e (51 + (k * 3 + 2)) (by omega), e 0 (by omega)]
    exact c1 k hk
  · unfold hset
    split
    · exact hv
    · exact c2 j hj
theorem cK.put {rm tr la i s u v : Nat} (K : cK rm tr la (xpB h i s u) M) : cK rm tr la (xpB h i s v) (xup M 32 s (nI v)) := by
  obtain ⟨k0, k1, k2, k3⟩ := K
  refine ⟨by rw [xup_o (by decide)]; exact k0, by rw [xup_o (by decide)]; exact k1, by rw [xup_o (by decide)]; exact k2, fun j hj => ?_⟩
  by_cases q : j = s
  · rw [q, xup_rs]
    unfold xpB
    rw [if_pos rfl]
  · rw [xup_r q, k3 j hj]
    unfold xpB
    rw [if_neg q, if_neg q]
theorem xpB_99 (W : xWF h) {i s v : Nat} (hi : i < 5) (hv : v ≤ 99) : ∀ j, j < 16 → xpB h i s v j ≤ 99 := fun j hj => by
  unfold xpB
  split
  · exact hv
  · exact xTi_99 W hi j hj
theorem xpB_self (h : Nat → Nat) (i s : Nat) : xpB h i s (xTi h i s) = xTi h i := by
  funext j
  unfold xpB
  split
  · next q => rw [q]
  · rfl
theorem learnt_sim {i d e x rm : Nat} (C : RC S M) (R : RR S N) (W : WA S) (hi : i < S 0 2) (hd : d < S 0 1) (he : e < 2) (hx : x ≤ 99) : ∀ (n t u : Nat) (M1 N1 : xM), t + n = 100 → u ≤ 99 → cfr M M1 → cK rm 0 3 (xpB (S 0) i (2 * d + e) u) M1 → rH 1 (hset (S 0) (66 + (i * 16 + (2 * d + e))) u) N1 → rfa N N1 →
    ∃ v : Int32, xW xSC 115 54 [.ref 0, .int (nI i), .int (nI d), .int (nI e), .int (nI x), .int (nI t)] [] M1 (fun r M' => r = some (.int v) ∧ RC S M') ∧ xW xSR 185 62 [.ref 0, .int (nI i), .int (nI d), .int (nI e), .int (nI x), .int (nI (66 + 16 * i + 2 * d + e)), .int (nI (xTi (S 0) i (2 * d + e))), .int (-4), .int (nI t)] [] N1 (fun r N' => r = some (.int v) ∧ RR S N') := by
  have h8 := W.2.1.1.2.2.1
  have h5 := W.2.1.1.2.2.2
  have kk : 66 + 16 * i + 2 * d + e = 66 + (i * 16 + (2 * d + e)) := by omega
  have back : ∀ (v t : Int32) (u : Nat) (N1 : xM), rH 1 (hset (S 0) (66 + (i * 16 + (2 * d + e))) u) N1 → rfa N N1 → xW xSR 185 133 [.ref 0, .int (nI i), .int (nI d), .int (nI e), .int (nI x), .int (nI (66 + 16 * i + 2 * d + e)), .int (nI (xTi (S 0) i (2 * d + e))), .int v, .int t] [] N1 (fun r N' => r = some (.int v) ∧ RR S N') := by
    intro v t u N1 Rh fa
    simp (disch := first | decide | omega) only [j185, s185]
    have R2 := Rh.up (j0 := 66 + (i * 16 + (2 * d + e))) (v := xTi (S 0) i (2 * d + e)) (by unfold rla; omega)
    rw [hset_hset, ← kk] at R2
    have e2 : hset (S 0) (66 + 16 * i + 2 * d + e) (xTi (S 0) i (2 * d + e)) = S 0 := by
      rw [kk]
      exact hset_self _ _
    rw [e2] at R2
    exact ⟨trivial, R.fra (fa.tr (rfa.k1 (fun k q => xup_other q))) R2⟩
  intro n
  induction n with
  | zero =>
    intro t u M1 N1 ht hu f K Rh fa
    refine ⟨-4, ?_, ?_⟩
    · rw [h115_54]
      simp (disch := first | decide | omega) only [s115, j115, nI_lt_t, if_true]
      exact ⟨trivial, C.fr f⟩
    · rw [h185_62]
      simp (disch := first | decide | omega) only [s185, nI_lt_f, if_false]
      exact back _ _ u _ Rh fa
  | succ n ih =>
    intro t u M1 N1 ht hu f K Rh fa
    have C1 := C.fr f
    have Wh : xWF (hset (S 0) (66 + (i * 16 + (2 * d + e))) t) := W.2.1.times (by omega) (by omega) (by omega)
    have E : xeq (S 0) (hset (S 0) (66 + (i * 16 + (2 * d + e))) t) := hset_xeq (by omega) (by omega)
    have K2 : cK rm 0 3 (xpB (S 0) i (2 * d + e) t) (xup M1 32 (2 * d + e) (nI t)) := K.put
    have hT := xpB_99 W.2.1 (i := i) (s := 2 * d + e) (v := t) (by omega) (by omega)
    have f32 : xfr 32 32 M1 (xup M1 32 (2 * d + e) (nI t)) := fun a q => xup_other (by omega)
    have H1 := C1.2.1.fr f32 (by omega)
    obtain ⟨b1, b2, b3, b4⟩ := xAA_le W.2.1 3 0 (d := d) (e := e) (by omega) hT
    have eA := E.AA (T := xpB (S 0) i (2 * d + e) t) (la := 3) (tr := 0) (show d < 8 by omega) he h8
    have eB := E.BB (T := xpB (S 0) i (2 * d + e) t) (la := 3) (show d < 8 by omega) he h8
    have R2 := Rh.up (j0 := 66 + (i * 16 + (2 * d + e))) (v := t) (by unfold rla; omega)
    rw [hset_hset] at R2
    have e0 : hset (S 0) (66 + (i * 16 + (2 * d + e))) t 1 = S 0 1 := E 1 (by omega)
    obtain ⟨r3, N2, ⟨rfl, g3, g4, g5⟩, hr2⟩ := xW_ex (r169 (Q := fun r N' => r = some (.int (nI (xpa (hset (S 0) (66 + (i * 16 + (2 * d + e))) t) (xTi (hset (S 0) (66 + (i * 16 + (2 * d + e))) t) i) 3 0 d e))) ∧ rfr (xup N1 1 (66 + (i * 16 + (2 * d + e))) (nI t)) N' ∧ N' 0 7 = nI (xAA (S 0) (xpB (S 0) i (2 * d + e) t) 3 0 d e / Nat.gcd (xAA (S 0) (xpB (S 0) i (2 * d + e) t) 3 0 d e) (xBB (S 0) (xpB (S 0) i (2 * d + e) t) 3 d e)) ∧ N' 0 8 = nI (xBB (S 0) (xpB (S 0) i (2 * d + e) t) 3 d e / Nat.gcd (xAA (S 0) (xpB (S 0) i (2 * d + e) t) 3 0 d e) (xBB (S 0) (xpB (S 0) i (2 * d + e) t) 3 d e))) R2 Wh (by omega) he (show i < 5 by omega) (show 3 ≤ 3 by omega) (show 0 ≤ 1 by omega) (fun N' a b c => ⟨rfl, a, by rw [b, hset_ti, eA, eB], by rw [c, hset_ti, eA, eB]⟩))
    rw [show rli 3 = -4 from rfl] at hr2
    have fa2 : rfa N N2 := fa.tr ((rfa.k1 (fun k q => xup_other q)).tr g3.fa)
    have Rh2 := R2.fr g3
    have cnt := gcd_div (a := xAA (S 0) (xpB (S 0) i (2 * d + e) t) 3 0 d e) 100 b2
    have gp : 0 < Nat.gcd (xAA (S 0) (xpB (S 0) i (2 * d + e) t) 3 0 d e) (xBB (S 0) (xpB (S 0) i (2 * d + e) t) 3 d e) := Nat.gcd_pos_of_pos_right _ b2
    have q1 := Nat.div_le_self (xAA (S 0) (xpB (S 0) i (2 * d + e) t) 3 0 d e) (Nat.gcd (xAA (S 0) (xpB (S 0) i (2 * d + e) t) 3 0 d e) (xBB (S 0) (xpB (S 0) i (2 * d + e) t) 3 d e))
    have q2 := Nat.div_le_self (xBB (S 0) (xpB (S 0) i (2 * d + e) t) 3 d e) (Nat.gcd (xAA (S 0) (xpB (S 0) i (2 * d + e) t) 3 0 d e) (xBB (S 0) (xpB (S 0) i (2 * d + e) t) 3 d e))
    have q3 : 0 < xBB (S 0) (xpB (S 0) i (2 * d + e) t) 3 d e / Nat.gcd (xAA (S 0) (xpB (S 0) i (2 * d + e) t) 3 0 d e) (xBB (S 0) (xpB (S 0) i (2 * d + e) t) 3 d e) := Nat.div_pos (Nat.le_of_dvd b2 (Nat.gcd_dvd_right _ _)) gp
    have q4 : xAA (S 0) (xpB (S 0) i (2 * d + e) t) 3 0 d e * 100 / xBB (S 0) (xpB (S 0) i (2 * d + e) t) 3 d e ≤ 150 := by
      rw [Nat.div_le_iff_le_mul_add_pred b2]
      omega
    have nm4 : (nI t = -4) = False := eq_false (fun q => by
      have a : (nI t < nI 0) = False := nI_nneg (by omega)
      rw [q] at a
      exact a.mp (by decide))
    have m7 : N2 0 7 = nI (xAA (S 0) (xpB (S 0) i (2 * d + e) t) 3 0 d e / Nat.gcd (xAA (S 0) (xpB (S 0) i (2 * d + e) t) 3 0 d e) (xBB (S 0) (xpB (S 0) i (2 * d + e) t) 3 d e)) := g4
    have fx := xsf_fr (s := 33) (p := xPP (S 0) (xpB (S 0) i (2 * d + e) t) 3 d e) (r := xQQ (S 0) (xpB (S 0) i (2 * d + e) t) 3 d e) (a := xAA (S 0) (xpB (S 0) i (2 * d + e) t) 3 0 d e) (b := xBB (S 0) (xpB (S 0) i (2 * d + e) t) 3 d e) (M := xup M1 32 (2 * d + e) (nI t))
    have f3 := f.tr ((cfr.x f32 (by decide)).tr (cfr.x fx (by decide)))
    have K3 := K2.fr fx (by omega)
    by_cases q : xAA (S 0) (xpB (S 0) i (2 * d + e) t) 3 0 d e * 100 / xBB (S 0) (xpB (S 0) i (2 * d + e) t) 3 d e ≤ x
    · refine ⟨nI t, ?_, ?_⟩
      · rw [h115_54]
        simp (disch := first | decide | omega) only [s115, nI_lt_f, if_false, pk_mul, nI_add, cS, xpush_n, c50_33 H1 K2 W.2.1 hd he (show 3 ≤ 3 by omega) (show 0 ≤ 1 by omega) hT, c55_33 (xsf_2 _ _ _ _ _ _) (xsf_3 _ _ _ _ _ _) (show xAA (S 0) (xpB (S 0) i (2 * d + e) t) 3 0 d e < 2 ^ 31 by omega) (show xBB (S 0) (xpB (S 0) i (2 * d + e) t) 3 d e < 2 ^ 31 by omega) (show 100 < 2 ^ 31 by omega) b2, xpush_s]
        exact ⟨trivial, C.fr f3⟩
      · rw [h185_62]
        simp (disch := first | decide | omega) only [s185, nI_lt_t, if_true, eq_self, kk]
        refine hr2 _ ?_
        simp (disch := first | decide | omega) only [s185, xpush_s, m7, g5, nI_l, lN_mul, pk_lDiv, cnt, lgc_gt, pk_lLT, show ¬ x < xAA (S 0) (xpB (S 0) i (2 * d + e) t) 3 0 d e * 100 / xBB (S 0) (xpB (S 0) i (2 * d + e) t) 3 d e by omega, if_false, h185_125, nI_add]
        rw [← kk, h185_62]
        by_cases z : t + 1 < 100
        · simp (disch := first | decide | omega) only [s185, nI_lt_t, if_true, nm4, if_false]
          exact back _ _ _ _ Rh2 fa2
        · simp (disch := first | decide | omega) only [s185, nI_lt_f, if_false]
          exact back _ _ _ _ Rh2 fa2
    · obtain ⟨v, v1, v2⟩ := ih (t + 1) t _ N2 (by omega) (by omega) f3 K3 Rh2 fa2
      refine ⟨v, ?_, ?_⟩
      · rw [h115_54]
        simp (disch := first | decide | omega) only [s115, nI_lt_f, nI_lt_t, if_true, if_false, pk_mul, nI_add, cS, xpush_n, c50_33 H1 K2 W.2.1 hd he (show 3 ≤ 3 by omega) (show 0 ≤ 1 by omega) hT, c55_33 (xsf_2 _ _ _ _ _ _) (xsf_3 _ _ _ _ _ _) (show xAA (S 0) (xpB (S 0) i (2 * d + e) t) 3 0 d e < 2 ^ 31 by omega) (show xBB (S 0) (xpB (S 0) i (2 * d + e) t) 3 d e < 2 ^ 31 by omega) (show 100 < 2 ^ 31 by omega) b2, xpush_s]
        exact v1
      · rw [h185_62]
        simp (disch := first | decide | omega) only [s185, nI_lt_t, if_true, eq_self, kk]
        refine hr2 _ ?_
        simp (disch := first | decide | omega) only [s185, xpush_s, m7, g5, nI_l, lN_mul, pk_lDiv, cnt, lgc_gt, pk_lLT, show x < xAA (S 0) (xpB (S 0) i (2 * d + e) t) 3 0 d e * 100 / xBB (S 0) (xpB (S 0) i (2 * d + e) t) 3 d e by omega, if_true, h185_125, nI_add]
        rw [← kk]
        exact v2
theorem A_learnt (C : RC S M) (R : RR S N) (W : WA S) (x y z w : Int32) : Agr S M N 115 [.ref 0, .int x, .int y, .int z, .int w, .null] 185 [.ref 0, .int x, .int y, .int z, .int w, .null, .null, .null, .null] := by
  have h8 := W.2.1.1.2.2.1
  have h5 := W.2.1.1.2.2.2
  obtain ⟨cn0, cn1, cn2⟩ := C.n
  obtain ⟨rn0, rn1, rn2⟩ := R.n
  have l0 : S 0 0 < 2 ^ 31 := by have := W.2.1.1.2.1; omega
  have l1 : S 0 1 < 2 ^ 31 := by omega
  have l2 : S 0 2 < 2 ^ 31 := by omega
  cases hx : xok x (S 0 2) <;> cases hy : xok y (S 0 1) <;> cases hz : xok z 2 <;> cases hw : xbw w 0 (99 + 1)
  all_goals try (refine Agr.same W (-1) ?_ ?_ <;> (simp (disch := first | decide | omega) only [s115, j115, c134 l1 l2 cn1 cn2, cWi, s185, j185, r141 l2 rn2, r140 l1 rn1, r142, r135w, hx, hy, hz, hw, xpush_s, Bool.false_eq_true, if_true, if_false, i12, i00, Bool.and_true, Bool.and_false, Bool.true_and, Bool.false_and]; exact ⟨trivial, by first | exact C | exact R⟩))
  obtain ⟨i, hi, rfl⟩ := xok_nI hx l2
  obtain ⟨d, hd, rfl⟩ := xok_nI hy l1
  obtain ⟨e, he, rfl⟩ := xok_nI hz (by decide)
  obtain ⟨k, -, hk, rfl⟩ := xbw_nI hw (by decide)
  have t99 := xTi_99 W.2.1 (show i < 5 by omega) (2 * d + e) (by omega)
  have mt : N 1 (66 + 16 * i + 2 * d + e) = nI (xTi (S 0) i (2 * d + e)) := R.2.1.at _ (by omega) (by omega) (by omega)
  obtain ⟨r2, M1, ⟨rfl, f1, K⟩, hc⟩ := xW_ex (c85 (Q := fun r M' => r = none ∧ xfr 31 32 M M' ∧ cK (xRm2 (S 0) i) (xTr (S 0) i) (xLa (S 0) i) (xTi (S 0) i) M') C.2.1 W.2.1 hi (fun M' a b => ⟨rfl, a, b⟩))
  have K2 : cK (xRm2 (S 0) i) 0 3 (xpB (S 0) i (2 * d + e) (xTi (S 0) i (2 * d + e))) (xup (xup M1 31 1 (nI 0)) 31 2 (nI 3)) := by
    rw [xpB_self]
    obtain ⟨k0, k1, k2, k3⟩ := K
    exact ⟨by rw [xup_r (by decide), xup_r (by decide)]; exact k0, by rw [xup_r (by decide), xup_rs], xup_rs _ _ _ _, fun j hj => by rw [xup_o (by decide), xup_o (by decide)]; exact k3 j hj⟩
  have hh : hset (S 0) (66 + (i * 16 + (2 * d + e))) (xTi (S 0) i (2 * d + e)) = S 0 := hset_self _ _
  obtain ⟨v, v1, v2⟩ := learnt_sim C R W hi hd he (show k ≤ 99 by omega) 100 0 (xTi (S 0) i (2 * d + e)) _ N (by omega) t99 (cfr.x (lo := 31) (hi := 32) (fun a q => by rw [xup_other (by omega), xup_other (by omega)]; exact f1 a q) (by decide)) K2 (by rw [hh]; exact R.2.1) ⟨fun _ _ => rfl, fun _ _ => rfl⟩
  refine Agr.same W v ?_ ?_
  · simp (disch := first | decide | omega) only [s115, j115, c134 l1 l2 cn1 cn2, hx, hy, hz, Bool.and_true, cWi, hw, xpush_s, if_true, if_false, i12]
    refine hc _ ?_
    simp (disch := first | decide | omega) only [s115, xpush_n]
    exact v1
  · simp (disch := first | decide | omega) only [s185, j185, r141 l2 rn2, r140 l1 rn1, r142, r135w, hx, hy, hz, hw, xpush_s, if_true, if_false, i12, r158, mt]
    exact v2
end C32
