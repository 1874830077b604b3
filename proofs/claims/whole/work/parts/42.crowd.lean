/-! how soon a crowd is out: both -/
theorem xsR_le (h : Nat → Nat) (r : Nat) (sel : Nat → Bool) (s : Nat) : ∀ k, xsR h r sel s k ≤ 2 * (s + 1) * k
  | 0 => Nat.zero_le _
  | k + 1 => by
    have a := xsR_le h r sel s k
    have b := xo3_le (xfo4 h k (xse h k r)) (xlv2 h k) (xw h k (xse h k r)) s
    simp only [xsR, xot]
    rw [Nat.mul_add]
    split <;> omega
theorem xsk_no (F : Nat → Nat) (n : Nat) : ∀ q s, (∀ j, s ≤ j → ¬ n ≤ F j) → xsk F n s q = -4
  | 0, _, _ => rfl
  | q + 1, s, h => by
    simp only [xsk]
    rw [if_neg (h s (Nat.le_refl s))]
    exact xsk_no F n q (s + 1) (fun j hj => h j (by omega))
theorem xsk_ext (F : Nat → Nat) (n q : Nat) : ∀ m s, ((∃ j, s ≤ j ∧ j < s + m ∧ n ≤ F j) ∨ ∀ j, s + m ≤ j → ¬ n ≤ F j) → xsk F n s (m + q) = xsk F n s m
  | 0, s, h => by
    rcases h with ⟨j, a, b, _⟩ | h
    · omega
    · rw [Nat.zero_add]
      exact xsk_no F n q s (fun j hj => h j (by omega))
  | m + 1, s, h => by
    rw [show m + 1 + q = m + q + 1 by omega]
    simp only [xsk]
    by_cases y : n ≤ F s
    · rw [if_pos y, if_pos y]
    · rw [if_neg y, if_neg y]
      refine xsk_ext F n q m (s + 1) ?_
      rcases h with ⟨j, a, b, c⟩ | h
      · have : j ≠ s := fun z => y (z ▸ c)
        exact Or.inl ⟨j, by omega, by omega, c⟩
      · exact Or.inr (fun j hj => h j (by omega))
theorem xfo4_or (h : Nat → Nat) (d e : Nat) : xfo4 h d e = 4 ∨ xfo4 h d e = 1 := by
  unfold xfo4
  split <;> omega
theorem xsR_far (h : Nat → Nat) (r : Nat) (sel : Nat → Bool) : ∀ k, 99 ≤ xsR h r sel 102 k ∨ ∀ s, 102 ≤ s → xsR h r sel s k = xsR h r sel 102 k
  | 0 => Or.inr (fun _ _ => rfl)
  | k + 1 => by
    simp only [xsR]
    rcases xsR_far h r sel k with a | a
    · exact Or.inl (by omega)
    · by_cases el : sel k = true ∧ xse h k r < 2
      · simp only [if_pos el]
        unfold xot xo3 xo1
        have b := xfo4_or h k (xse h k r)
        have m1 : ∀ s, 102 ≤ s → 99 ≤ xo2 (xlv2 h k) (s + 1 - xfo4 h k (xse h k r)) := fun s hs => by unfold xo2; split <;> omega
        by_cases w : xw h k (xse h k r) = 1
        · refine Or.inr (fun s hs => ?_)
          have c := m1 s hs
          have d := m1 102 (Nat.le_refl _)
          rw [if_pos w, if_pos w, a s hs, Nat.min_eq_right (by omega), Nat.min_eq_right (by omega)]
        · have d := m1 102 (Nat.le_refl _)
          refine Or.inl ?_
          rw [if_neg w]
          omega
      · simp only [if_neg el]
        exact Or.inr (fun s hs => by rw [a s hs])
theorem xsk_109 (h : Nat → Nat) (r n k : Nat) (sel : Nat → Bool) (hn : n ≤ 99) : xsk (fun s => xsR h r sel s k) n 1 109 = xsk (fun s => xsR h r sel s k) n 1 102 := by
  refine xsk_ext (fun s => xsR h r sel s k) n 7 102 1 ?_
  by_cases y : n ≤ xsR h r sel 102 k
  · exact Or.inl ⟨102, by omega, by omega, y⟩
  · refine Or.inr (fun j hj z => ?_)
    rcases xsR_far h r sel k with a | a
    · omega
    · have := a j (by omega)
      have z : n ≤ xsR h r sel j k := z
      omega
section C42
variable {M N : xM} {Q : Option Value → xM → Prop} {S S1 : xA} {h h' : Nat → Nat}
theorem r195 {d e s : Nat} (R : rH 1 h N) (W : xWF h) (hd : d < h 1) (he : e < 2) (hs : s ≤ 109) (hQ : ∀ N', rfr N N' → Q (some (.int (nI (xot h d e s)))) N') : xW xSR 195 0 [.ref 0, .int (nI d), .int (nI e), .int (nI s), .null, .null, .null] [] N Q := by
  have h8 := W.1.2.2.1
  obtain ⟨-, -, -, -, hv1, hv2, -, -⟩ := W.2.1 d hd
  have hv : xlv2 h d ≤ 2 := hv2
  have lp := xSP_le W (xw h d e) (xg h d e) (xg h d (1 - e))
  have lq := xSQ_le W (xw h d e) (xg h d e) (xg h d (1 - e))
  have hu : xw h d e < 3 := xwt_lt _ _
  simp (disch := first | decide | omega) only [s195, r161 R W hd he, xpush_s]
  refine r164s R W hd he (fun N1 f a b => ?_)
  have R1 := R.fr (rfr.hand f)
  have hQ := hQ N1 (rfr.hand f)
  have ml : N1 1 (3 + 6 * d + 3) = nI (xlv2 h d) := R1.at _ (by omega) (by omega) (by omega)
  have seg : ∀ (x : Nat) (i5 i6 : Int32), x ≤ 300 → xW xSR 195 80 [.ref 0, .int (nI d), .int (nI e), .int (nI s), .int (nI (xw h d e)), .int i5, .int i6] [.int (nI x)] N1 Q = Q (some (.int (nI (xo1 (xw h d e) (xo2 (xlv2 h d) x))))) N1 := by
    intro x i5 i6 hx
    have seg2 : ∀ (y : Nat) (i6 : Int32), y ≤ 600 → xW xSR 195 121 [.ref 0, .int (nI d), .int (nI e), .int (nI s), .int (nI (xw h d e)), .int i5, .int i6] [.int (nI y)] N1 Q = Q (some (.int (nI (xo1 (xw h d e) y)))) N1 := by
      intro y i6 hy
      rw [h195_121]
      unfold xo1
      by_cases z : xw h d e = 1
      · rw [if_pos z]
        by_cases z2 : 5 < y
        · rw [Nat.min_eq_right (by omega)]
          simp (disch := first | decide | omega) only [s195, nI_eq_t, if_true, nI_lt_t, h195_141]
        · rw [Nat.min_eq_left (by omega)]
          simp (disch := first | decide | omega) only [s195, nI_eq_t, if_true, nI_lt_f, if_false, h195_139, h195_141]
      · rw [if_neg z]
        simp (disch := first | decide | omega) only [s195, nI_eq_f, if_false, h195_139, h195_141]
    rw [h195_80]
    unfold xo2
    by_cases z : xlv2 h d = 2
    · by_cases z2 : 10 < x
      · rw [if_pos ⟨z, z2⟩, show x + (x - 10) = 10 + 2 * (x - 10) by omega]
        simp (disch := first | decide | omega) only [s195, pk_mul, nI_add, ml, nI_eq_t, if_true, nI_lt_t, pk_sub, seg2]
      · rw [if_neg (fun q => z2 q.2)]
        simp (disch := first | decide | omega) only [s195, pk_mul, nI_add, ml, nI_eq_t, if_true, nI_lt_f, if_false, h195_119, seg2]
    · rw [if_neg (fun q => z q.1)]
      simp (disch := first | decide | omega) only [s195, pk_mul, nI_add, ml, nI_eq_f, if_false, h195_119, seg2]
  unfold xot xo3 at hQ
  have slow : xfo4 h d e = 4 → xW xSR 195 53 [.ref 0, .int (nI d), .int (nI e), .int (nI s), .int (nI (xw h d e)), .null, .null] [.int (nI 1)] N1 Q := by
    intro q
    rw [q, show s + 1 - 4 = s - 3 by omega] at hQ
    rw [h195_53]
    by_cases z : s < 3
    · have z1 : (nI s - nI 3 < nI 0) = True := eq_true (pk_sneg (by decide) z)
      rw [show s - 3 = 0 by omega] at hQ
      simp (disch := first | decide | omega) only [s195, i12, if_false, h195_66, z1, if_true, seg]
      exact hQ
    · simp (disch := first | decide | omega) only [s195, i12, if_false, h195_66, pk_sub, nI_nneg, seg]
      exact hQ
  have fast : xfo4 h d e = 1 → xW xSR 195 53 [.ref 0, .int (nI d), .int (nI e), .int (nI s), .int (nI (xw h d e)), .null, .null] [.int (nI 0)] N1 Q := by
    intro q
    rw [q, show s + 1 - 1 = s - 0 by omega] at hQ
    rw [h195_53]
    simp (disch := first | decide | omega) only [s195, i00, if_true, h195_66, pk_sub, nI_nneg, if_false, seg]
    exact hQ
  unfold xfo4 xslow at slow fast
  rcases (show xw h d e = 0 ∨ xw h d e = 1 ∨ xw h d e = 2 by omega) with u | u | u
  · rw [u] at slow fast a b ⊢
    simp (disch := first | decide | omega) only [s195, xpush_n, nI_lt_t, if_true, a, b, pk_mul, nI_add]
    have e1 : xag 0 (1 + xSP h 0 (xg h d e) (xg h d (1 - e))) (1 + xSQ h 0 (xg h d e) (xg h d (1 - e))) = 1 + xSQ h 0 (xg h d e) (xg h d (1 - e)) := rfl
    rw [e1] at slow fast
    rw [u] at lp lq
    by_cases z : 2 * (1 + xSP h 0 (xg h d e) (xg h d (1 - e))) < 1 + xSP h 0 (xg h d e) (xg h d (1 - e)) + (1 + xSQ h 0 (xg h d e) (xg h d (1 - e)))
    · simp (disch := first | decide | omega) only [s195, nI_lt_t, if_true]
      exact slow (by rw [if_pos (decide_eq_true (by omega))])
    · simp (disch := first | decide | omega) only [s195, nI_lt_f, if_false, h195_52]
      exact fast (by rw [if_neg]; rw [decide_eq_true_iff]; omega)
  · rw [u] at slow fast a b ⊢
    simp (disch := first | decide | omega) only [s195, xpush_n, nI_lt_t, if_true, a, b, pk_mul, nI_add]
    have e1 : xag 1 (1 + xSP h 1 (xg h d e) (xg h d (1 - e))) (1 + xSQ h 1 (xg h d e) (xg h d (1 - e))) = 1 + xSP h 1 (xg h d e) (xg h d (1 - e)) := rfl
    rw [e1] at slow fast
    rw [u] at lp lq
    by_cases z : 2 * (1 + xSQ h 1 (xg h d e) (xg h d (1 - e))) < 1 + xSP h 1 (xg h d e) (xg h d (1 - e)) + (1 + xSQ h 1 (xg h d e) (xg h d (1 - e)))
    · simp (disch := first | decide | omega) only [s195, nI_lt_t, if_true]
      exact slow (by rw [if_pos (decide_eq_true (by omega))])
    · simp (disch := first | decide | omega) only [s195, nI_lt_f, if_false, h195_52]
      exact fast (by rw [if_neg]; rw [decide_eq_true_iff]; omega)
  · rw [u] at slow fast ⊢
    simp (disch := first | decide | omega) only [s195, xpush_n, nI_lt_f, if_false, h195_52]
    have e1 : xag 2 (1 + xSP h 2 (xg h d e) (xg h d (1 - e))) (1 + xSQ h 2 (xg h d e) (xg h d (1 - e))) = 0 := rfl
    rw [e1] at fast
    exact fast (by rw [if_neg]; rw [decide_eq_true_iff]; omega)
/-- the class adds its doors -/
theorem c123k {n r : Nat} {x3 ba : Int32} {sel : Nat → Bool} (H : cH 9 h M) (W : xWF h) (hn : n ≤ 99) (hr : r < h 0) (hs : ∀ k, k < h 1 → (ba = nI 0 → (nI k = x3) = (sel k = true)) ∧ (ba ≠ nI 0 → sel k = true)) (hQ : ∀ M', xfr 40 44 M M' → Q (some (.int (xsk (fun s => xsR h r sel s (h 1)) n 1 102))) M') {x5 : Value} : xW xSC 123 71 [.ref 0, .int (nI n), .int (nI r), .int x3, .int ba, x5] [] M Q := by
  have h8 := W.1.2.2.1
  have h00 := W.1.2.1
  have key : ∀ (m k c : Nat) (f v w : Nat → Nat) (M1 : xM), k + m = h 1 → c ≤ k → xfr 40 44 M M1 → M1 41 3 = nI c → (∀ j, j < c → M1 42 j = nI (f j) ∧ M1 43 j = nI (v j) ∧ M1 44 j = nI (w j)) → (∀ j, j < c → f j ≤ 4 ∧ v j ≤ 2 ∧ w j ≤ 2) → (∀ s, xsC f v w s c = xsR h r sel s k) → xW xSC 123 81 [.ref 0, .int (nI n), .int (nI r), .int x3, .int ba, .int (nI k)] [] M1 Q := by
    intro m
    induction m with
    | zero =>
      intro k c f v w M1 hk hc fr mc mv bd sm
      have hk : k = h 1 := hk
      have m1 : M1 9 1 = nI (h 1) := (H.fr fr (by omega)).1.2.1
      rw [h123_81]
      simp (disch := first | decide | omega) only [s123, m1, nI_lt_f, if_false]
      refine c13 hn (by omega) mc bd mv ?_
      simp (disch := first | decide | omega) only [s123, xpush_s]
      rw [show (fun s => xsC f v w s c) = (fun s => xsR h r sel s (h 1)) from funext (fun s => by rw [sm s, hk])]
      exact hQ M1 fr
    | succ m ih =>
      intro k c f v w M1 hk hc fr mc mv bd sm
      have H1 := H.fr fr (by omega)
      have m1 : M1 9 1 = nI (h 1) := H1.1.2.1
      obtain ⟨x1, x2, -, -, hv1, hv2, -, -⟩ := W.2.1 k (by omega)
      have x1 : xdr h k 0 < h 0 := x1
      have x2 : xdr h k 1 < h 0 := x2
      have hv : xlv2 h k ≤ 2 := hv2
      have a0 : M1 10 (k * 6 + 0) = nI (xdr h k 0) := H1.2.1 _ (by omega)
      have a1 : M1 10 (k * 6 + 1) = nI (xdr h k 1) := H1.2.1 _ (by omega)
      have sd : (if nI (xdr h k 0) = nI r then nI 0 else if nI (xdr h k 1) = nI r then nI 1 else -1) = xsd h k r := rfl
      have sde := xsd_se (h := h) (k := k) (r := r) (by omega) (by omega) (by omega)
      have n1 : ((-1 : Int32) < nI 0) = True := by decide
      obtain ⟨hs1, hs2⟩ := hs k (by omega)
      have go : xW xSC 123 131 [.ref 0, .int (nI n), .int (nI r), .int x3, .int ba, .int (nI k)] [] M1 Q → sel k = false → xW xSC 123 81 [.ref 0, .int (nI n), .int (nI r), .int x3, .int ba, .int (nI k)] [] M1 Q := by
        intro z zs
        have zb : ba = nI 0 := by
          by_cases q : ba = nI 0
          · exact q
          · rw [hs2 q] at zs; exact absurd zs (by decide)
        have zk : (nI k = x3) = False := by rw [hs1 zb, zs]; exact eq_false (by decide)
        rw [h123_81]
        simp (disch := first | decide | omega) only [s123, m1, nI_lt_t, if_true, zb, i00, zk, if_false] at z ⊢
        exact z
      have go2 : xW xSC 123 104 [.ref 0, .int (nI n), .int (nI r), .int x3, .int ba, .int (nI k)] [] M1 Q → sel k = true → xW xSC 123 81 [.ref 0, .int (nI n), .int (nI r), .int x3, .int ba, .int (nI k)] [] M1 Q := by
        intro z zs
        rw [h123_81]
        by_cases q : ba = nI 0
        · have zk : (nI k = x3) = True := by rw [hs1 q]; exact eq_true zs
          simp (disch := first | decide | omega) only [s123, m1, nI_lt_t, if_true, q, i00, zk] at z ⊢
          exact z
        · have q : (ba = nI 0) = False := eq_false q
          simp (disch := first | decide | omega) only [s123, m1, nI_lt_t, if_true, q, if_false] at z ⊢
          exact z
      have nxt : ∀ (c' : Nat) (f v w : Nat → Nat) (M2 : xM), c' ≤ k + 1 → xfr 40 44 M M2 → M2 41 3 = nI c' → (∀ j, j < c' → M2 42 j = nI (f j) ∧ M2 43 j = nI (v j) ∧ M2 44 j = nI (w j)) → (∀ j, j < c' → f j ≤ 4 ∧ v j ≤ 2 ∧ w j ≤ 2) → (∀ s, xsC f v w s c' = xsR h r sel s (k + 1)) → xW xSC 123 131 [.ref 0, .int (nI n), .int (nI r), .int x3, .int ba, .int (nI k)] [] M2 Q := by
        intro c' f v w M2 q1 q2 q3 q4 q5 q6
        rw [h123_131]
        simp (disch := first | decide | omega) only [s123, nI_add]
        exact ih (k + 1) c' f v w M2 (by omega) q1 q2 q3 q4 q5 q6
      cases zs : sel k with
      | false =>
        refine go (nxt c f v w M1 (by omega) fr mc mv bd (fun s => ?_)) zs
        rw [sm s]
        simp only [xsR]
        rw [if_neg (fun q => by rw [zs] at q; exact absurd q.1 (by decide)), Nat.add_zero]
      | true =>
        refine go2 ?_ zs
        rw [h123_104]
        by_cases y : xse h k r = 2
        · rw [if_pos y] at sde
          simp (disch := first | decide | omega) only [s123, c40, a0, a1, sd, sde, xpush_s, s12, n1, if_true, xpush_n]
          refine nxt c f v w M1 (by omega) fr mc mv bd (fun s => ?_)
          rw [sm s]
          simp only [xsR]
          rw [if_neg (by omega), Nat.add_zero]
        · rw [if_neg y] at sde
          have le := xse_le h k r
          simp (disch := first | decide | omega) only [s123, c40, a0, a1, sd, sde, xpush_s]
          refine c12 H1 W (by omega) (by omega) (by omega) mc (fun M2 g1 g2 g3 g4 => ?_)
          simp only [xpush_n]
          refine nxt (c + 1) (fun j => if j = c then xfo4 h k (xse h k r) else f j) (fun j => if j = c then xlv2 h k else v j) (fun j => if j = c then xw h k (xse h k r) else w j) M2 (by omega) (fr.tr g1) g2 (fun j hj => ?_) (fun j hj => ?_) (fun s => ?_)
          · by_cases z : j = c
            · simp only [if_pos z]
              rw [z]
              exact g3
            · simp only [if_neg z]
              obtain ⟨u1, u2, u3⟩ := g4 j z
              rw [u1, u2, u3]
              exact mv j (by omega)
          · by_cases z : j = c
            · simp only [if_pos z]
              have := xfo4_or h k (xse h k r)
              have lw : xw h k (xse h k r) < 3 := xwt_lt _ _
              omega
            · simp only [if_neg z]
              exact bd j (by omega)
          · simp only [xsC, xsR, if_true]
            rw [if_pos ⟨zs, by omega⟩, ← sm s, xsC_cg c (f := f) (v := v) (w := w) (fun j hj => by simp only [if_neg (show j ≠ c by omega)]; trivial)]
            rfl
  rw [h123_71]
  simp (disch := first | decide | omega) only [s123, s11, xpush_n]
  exact key (h 1) 0 0 (fun _ => 0) (fun _ => 0) (fun _ => 0) _ (by omega) (by omega) (fun a q => by rw [xup_other (by omega)]) (xup_rs _ _ _ _) (fun j hj => absurd hj (by omega)) (fun j hj => absurd hj (by omega)) (fun s => rfl)
/-- the reference looks for the second -/
theorem r196k {n r : Nat} {x3 : Int32} {sel : Nat → Bool} (R : rH 1 h N) (W : xWF h) (hn : n ≤ 99) (hr : r < h 0) (hs : ∀ k, k < h 1 → (¬ x3 < nI 0 → (x3 = nI k) = (sel k = true)) ∧ (x3 < nI 0 → sel k = true)) (hQ : ∀ N', rfr N N' → Q (some (.int (xsk (fun s => xsR h r sel s (h 1)) n 1 109))) N') {x4 x5 x6 x7 : Value} : xW xSR 196 51 [.ref 0, .int (nI n), .int (nI r), .int x3, x4, x5, x6, x7] [] N Q := by
  have h8 := W.1.2.2.1
  have h00 := W.1.2.1
  have inn : ∀ (m k s : Nat) (N1 : xM) (x7 : Value), k + m = h 1 → s ≤ 109 → rfr N N1 → (∀ (N2 : xM) (x7 : Value), rfr N N2 → xW xSR 196 127 [.ref 0, .int (nI n), .int (nI r), .int x3, .int (nI s), .int (nI (xsR h r sel s (h 1))), .int (nI (h 1)), x7] [] N2 Q) → xW xSR 196 67 [.ref 0, .int (nI n), .int (nI r), .int x3, .int (nI s), .int (nI (xsR h r sel s k)), .int (nI k), x7] [] N1 Q := by
    intro m
    induction m with
    | zero =>
      intro k s N1 x7 hk hs fr q
      have hk : k = h 1 := hk
      have m1 : N1 1 1 = nI (h 1) := (R.fr fr).at _ rfl (by omega) (by omega)
      have q := q N1 x7 fr
      rw [h196_67, hk]
      simp (disch := first | decide | omega) only [s196, m1, nI_lt_f, if_false] at q ⊢
      exact q
    | succ m ih =>
      intro k s N1 x7 hk hS fr q
      have R1 := R.fr fr
      have m1 : N1 1 1 = nI (h 1) := R1.at _ rfl (by omega) (by omega)
      obtain ⟨x1, x2, -, -, hv1, hv2, -, -⟩ := W.2.1 k (by omega)
      have x1 : xdr h k 0 < h 0 := x1
      have x2 : xdr h k 1 < h 0 := x2
      have sd : (if nI (xdr h k 0) = nI r then nI 0 else if nI (xdr h k 1) = nI r then nI 1 else -1) = xsd h k r := rfl
      have sde := xsd_se (h := h) (k := k) (r := r) (by omega) (by omega) (by omega)
      have n1 : ((-1 : Int32) < nI 0) = True := by decide
      have le := xse_le h k r
      obtain ⟨hs1, hs2⟩ := hs k (by omega)
      have IH := fun N2 x7 f => ih (k + 1) s N2 x7 (by omega) hS f q
      simp only [xsR] at IH
      have r171' := fun (Q : Option Value → xM → Prop) => r171 (M := N1) (Q := Q) (d := k) (rr := nI r) R1 (show k < 8 by omega)
      rw [h196_67]
      by_cases y : xse h k r = 2
      · rw [if_pos y] at sde
        rw [if_neg (by omega)] at IH
        simp (disch := first | decide | omega) only [s196, m1, nI_lt_t, if_true, r171', sd, sde, xpush_s, n1, h196_117, h196_118, nI_add]
        exact IH _ _ fr
      · rw [if_neg y] at sde
        have go : sel k = true → xW xSR 196 104 [.ref 0, .int (nI n), .int (nI r), .int x3, .int (nI s), .int (nI (xsR h r sel s k)), .int (nI k), .int (nI (xse h k r))] [.int (nI (xsR h r sel s k))] N1 Q := by
          intro zs
          rw [if_pos ⟨zs, by omega⟩] at IH
          rw [h196_104]
          simp (disch := first | decide | omega) only [s196]
          refine r195 R1 W (by omega) (by omega) hS (fun N2 g => ?_)
          simp (disch := first | decide | omega) only [s196, xpush_s, h196_118, nI_add]
          exact IH N2 _ (fr.tr g)
        have no : sel k = false → xW xSR 196 117 [.ref 0, .int (nI n), .int (nI r), .int x3, .int (nI s), .int (nI (xsR h r sel s k)), .int (nI k), .int (nI (xse h k r))] [.int (nI (xsR h r sel s k))] N1 Q := by
          intro zs
          rw [if_neg (fun q => by rw [zs] at q; exact absurd q.1 (by decide))] at IH
          simp (disch := first | decide | omega) only [h196_117, s196, h196_118, nI_add]
          exact IH N1 _ fr
        by_cases w : x3 < nI 0
        · have wt : (x3 < nI 0) = True := eq_true w
          simp (disch := first | decide | omega) only [s196, m1, nI_lt_t, if_true, r171', sd, sde, xpush_s, nI_nneg, if_false, wt]
          exact go (hs2 w)
        · have wf : (x3 < nI 0) = False := eq_false w
          cases zs : sel k with
          | true =>
            have wt : (x3 = nI k) = True := by rw [hs1 w]; exact eq_true zs
            simp (disch := first | decide | omega) only [s196, m1, nI_lt_t, if_true, r171', sd, sde, xpush_s, nI_nneg, if_false, wf, wt]
            exact go zs
          | false =>
            have wt : (x3 = nI k) = False := by rw [hs1 w, zs]; exact eq_false (by decide)
            simp (disch := first | decide | omega) only [s196, m1, nI_lt_t, if_true, r171', sd, sde, xpush_s, nI_nneg, if_false, wf, wt]
            exact no zs
  have out : ∀ (m s : Nat) (N1 : xM) (x5 x6 x7 : Value), s + m = 110 → rfr N N1 → xsk (fun s => xsR h r sel s (h 1)) n s m = xsk (fun s => xsR h r sel s (h 1)) n 1 109 → xW xSR 196 54 [.ref 0, .int (nI n), .int (nI r), .int x3, .int (nI s), x5, x6, x7] [] N1 Q := by
    intro m
    induction m with
    | zero =>
      intro s N1 x5 x6 x7 hS fr q
      have hS : s = 110 := hS
      subst hS
      have q : -4 = xsk (fun s => xsR h r sel s (h 1)) n 1 109 := q
      rw [← q] at hQ
      rw [h196_54]
      simp (disch := first | decide | omega) only [s196, nI_lt_f, if_false]
      exact hQ N1 fr
    | succ m ih =>
      intro s N1 x5 x6 x7 hS fr q
      have q : (if n ≤ xsR h r sel s (h 1) then nI s else xsk (fun s => xsR h r sel s (h 1)) n (s + 1) m) = xsk (fun s => xsR h r sel s (h 1)) n 1 109 := q
      rw [h196_54]
      simp (disch := first | decide | omega) only [s196, nI_lt_t, if_true]
      refine inn (h 1) 0 s N1 x7 (by omega) (by omega) fr (fun N2 y7 g => ?_)
      have lc := xsR_le h r sel s (h 1)
      have lc2 : 2 * (s + 1) * h 1 ≤ 220 * 8 := Nat.mul_le_mul (by omega) h8
      by_cases y : n ≤ xsR h r sel s (h 1)
      · rw [if_pos y] at q
        rw [← q] at hQ
        simp (disch := first | decide | omega) only [s196, nI_lt_f, if_false]
        exact hQ N2 g
      · rw [if_neg y] at q
        simp (disch := first | decide | omega) only [s196, nI_lt_t, if_true, nI_add]
        exact ih (s + 1) N2 _ _ _ (by omega) g q
  rw [h196_51]
  simp (disch := first | decide | omega) only [s196]
  exact out 109 1 N _ _ _ (by omega) rfr.rf rfl
end C42
