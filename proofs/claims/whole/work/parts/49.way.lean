/-! the way on which one is wrong least -/
def xpr (h : Nat → Nat) (i s l : Nat) : Nat := xpa h (xTi h i) l (xTr h i) (s / 2) (s % 2)
def xcn (h : Nat → Nat) (i d e : Nat) : Bool := decide (xTr h i = 0 ∨ xw h d e ≠ 1)
def xto (h : Nat → Nat) (s : Nat) : Nat := xdr h (s / 2) (1 - s % 2) * 4 + xw h (s / 2) (s % 2)
def xbas (r c : Nat) : Nat := if c / 4 = r then 0 else 1000000
def xvp (h : Nat → Nat) (i r : Nat) (V : Nat → Nat) (c : Nat) : Nat → Nat
  | 0 => xbas r c
  | s + 1 => if xdr h (s / 2) (s % 2) = c / 4 ∧ xcn h i (s / 2) (s % 2) = true then min (xpr h i s (c % 4) + V (xto h s)) (xvp h i r V c s) else xvp h i r V c s
def xvn (h : Nat → Nat) (i r : Nat) : Nat → Nat → Nat
  | 0 => xbas r
  | n + 1 => fun c => xvp h i r (xvn h i r n) c (2 * h 1)
def xch (h : Nat → Nat) (i : Nat) (V : Nat → Nat) (rm la : Nat) : Nat → Nat × Nat
  | 0 => (1000000, 0)
  | d + 1 => if xse h d rm < 2 ∧ xcn h i d (xse h d rm) = true ∧ xpr h i (2 * d + xse h d rm) la + V (xto h (2 * d + xse h d rm)) < (xch h i V rm la d).1 then (xpr h i (2 * d + xse h d rm) la + V (xto h (2 * d + xse h d rm)), d) else xch h i V rm la d
theorem xbas_or (r c : Nat) : xbas r c = 0 ∨ xbas r c = 1000000 := by
  unfold xbas
  split <;> omega
theorem xpr_le {h : Nat → Nat} (W : xWF h) {i s l : Nat} (hi : i < 5) (hs : s < 2 * h 1) : xpr h i s l ≤ 1500 := xpa_le W l (xTr h i) (by have := W.1.2.2.1; omega) (xTi_99 W hi)
theorem xvp_b {h : Nat → Nat} (W : xWF h) {i r n : Nat} {V : Nat → Nat} (hi : i < 5) (hV : ∀ c, V c ≤ 1000000 ∧ (V c < 1000000 → V c ≤ 1500 * n)) (c : Nat) : ∀ s, s ≤ 2 * h 1 → xvp h i r V c s ≤ 1000000 ∧ (xvp h i r V c s < 1000000 → xvp h i r V c s ≤ 1500 * (n + 1))
  | 0, _ => by
    have := xbas_or r c
    simp only [xvp]
    omega
  | s + 1, hs => by
    have a := xvp_b W hi hV c (r := r) s (by omega)
    have b := hV (xto h s)
    have p := xpr_le W hi (show s < 2 * h 1 by omega) (l := c % 4)
    simp only [xvp]
    split <;> omega
theorem xvn_b {h : Nat → Nat} (W : xWF h) {i r : Nat} (hi : i < 5) : ∀ n c, xvn h i r n c ≤ 1000000 ∧ (xvn h i r n c < 1000000 → xvn h i r n c ≤ 1500 * n)
  | 0, c => by
    have := xbas_or r c
    simp only [xvn]
    omega
  | n + 1, c => xvp_b W hi (fun c => xvn_b W hi n c) c (2 * h 1) (Nat.le_refl _)
theorem xto_lt {h : Nat → Nat} (W : xWF h) {s : Nat} (hs : s < 2 * h 1) : xto h s < 32 := by
  obtain ⟨x1, x2, -, -, -, -, -, -⟩ := W.2.1 (s / 2) (by omega)
  have h00 := W.1.2.1
  have x1 : xdr h (s / 2) 0 < h 0 := x1
  have x2 : xdr h (s / 2) 1 < h 0 := x2
  have lw : xw h (s / 2) (s % 2) < 3 := xwt_lt _ _
  unfold xto
  rcases (show s % 2 = 0 ∨ s % 2 = 1 by omega) with z | z
  · rw [z] at lw ⊢
    have x2 : xdr h (s / 2) (1 - 0) < h 0 := x2
    omega
  · rw [z] at lw ⊢
    have x1 : xdr h (s / 2) (1 - 1) < h 0 := x1
    omega
section C49
variable {M N : xM} {Q : Option Value → xM → Prop} {S S1 : xA} {h h' : Nat → Nat}
theorem c91 {i rm la : Nat} (H : cH 9 h M) (W : xWF h) (hi : i < h 2) (K : cK rm (xTr h i) la (xTi h i) M) (hl : la ≤ 3) (hQ : ∀ M', xfr 31 36 M M' → M' 32 = M 32 → cK rm (xTr h i) la (xTi h i) M' → (∀ s l, s < 2 * h 1 → l < 4 → M' 36 (s * 4 + l) = nI (xpr h i s l)) → Q none M') : xW xSC 91 0 [.ref 34, .ref 9, .ref 31, .null, .null, .null] [] M Q := by
  have h8 := W.1.2.2.1
  have h5 := W.1.2.2.2
  have hT := xTi_99 W (show i < 5 by omega)
  obtain ⟨-, w2, -⟩ := W.2.2.1 i hi
  have w2 : xTr h i ≤ 1 := w2
  obtain ⟨k0, k1, k2, k3⟩ := K
  have KK : ∀ (M1 : xM) (l : Nat), xfr 31 36 M M1 → M1 32 = M 32 → M1 31 0 = nI rm → M1 31 1 = nI (xTr h i) → cK rm (xTr h i) l (xTi h i) (xup M1 31 2 (nI l)) := fun M1 l f f2 a b => ⟨by rw [xup_r (by decide), a], by rw [xup_r (by decide), b], by rw [xup_rs], fun j hj => by rw [xup_o (by decide), f2]; exact k3 j hj⟩
  have inn : ∀ (m l s : Nat) (M1 : xM), l + m = 4 → s < 2 * h 1 → xfr 31 36 M M1 → M1 32 = M 32 → M1 31 0 = nI rm → M1 31 1 = nI (xTr h i) → (∀ s' l', (s' < s ∨ (s' = s ∧ l' < l)) → l' < 4 → M1 36 (s' * 4 + l') = nI (xpr h i s' l')) → (∀ (M2 : xM) (x5 : Value), xfr 31 36 M M2 → M2 32 = M 32 → M2 31 0 = nI rm → M2 31 1 = nI (xTr h i) → (∀ s' l', s' < s + 1 → l' < 4 → M2 36 (s' * 4 + l') = nI (xpr h i s' l')) → xW xSC 91 8 [.ref 34, .ref 9, .ref 31, .int (nI la), .int (nI (s + 1)), x5] [] M2 Q) → xW xSC 91 22 [.ref 34, .ref 9, .ref 31, .int (nI la), .int (nI s), .int (nI l)] [] M1 Q := by
    intro m
    induction m with
    | zero =>
      intro l s M1 hl hs f f2 a b d q
      rw [h91_22]
      simp (disch := first | decide | omega) only [s91, nI_lt_f, if_false, nI_add]
      exact q M1 _ f f2 a b (fun s' l' h1 h2 => d s' l' (by omega) h2)
    | succ m ih =>
      intro l s M1 hl hs f f2 a b d q
      have K1 := KK M1 l f f2 a b
      have f1 : xfr 31 36 M (xup M1 31 2 (nI l)) := f.tr (xfr.up (by decide) (by decide))
      have H1 := H.fr f1 (by omega)
      obtain ⟨b1, b2, b3, b4⟩ := xAA_le W l (xTr h i) (d := s / 2) (e := s % 2) (by omega) hT
      have c50 := fun (Q : Option Value → xM → Prop) => c50_35 (Q := Q) (d := s / 2) (e := s % 2) H1 K1 W (by omega) (by omega) (by omega) w2 hT
      have c55 := fun (Q : Option Value → xM → Prop) (p r : Nat) => c55_35 (M := xsf 35 p r (xAA h (xTi h i) l (xTr h i) (s / 2) (s % 2)) (xBB h (xTi h i) l (s / 2) (s % 2)) (xup M1 31 2 (nI l))) (Q := Q) (n := 1000) (xsf_2 _ _ _ _ _ _) (xsf_3 _ _ _ _ _ _) (by omega) (by omega) (by decide) b2
      have e : xAA h (xTi h i) l (xTr h i) (s / 2) (s % 2) * 1000 / xBB h (xTi h i) l (s / 2) (s % 2) = xpr h i s l := rfl
      rw [h91_22]
      simp (disch := first | decide | omega) only [s91, nI_lt_t, if_true, shr1, and1, c50, xpush_n, pk_mul, nI_add, c55, e, xpush_s, cS]
      refine ih (l + 1) s _ (by omega) hs (f1.tr (fun c z => by rw [xup_other (by omega), xsf_o (by omega)])) ?_ ?_ ?_ (fun s' l' h1 h2 => ?_) q
      · rw [xup_other (by decide), xsf_o (by decide), xup_other (by decide)]; exact f2
      · rw [xup_o (by decide), xsf_o (by decide), xup_r (by decide)]; exact a
      · rw [xup_o (by decide), xsf_o (by decide), xup_r (by decide)]; exact b
      · by_cases z : s' * 4 + l' = s * 4 + l
        · have z1 : s' = s := by omega
          have z2 : l' = l := by omega
          rw [z1, z2, xup_rs]
        · rw [xup_r z, xsf_o (by decide), xup_o (by decide)]
          exact d s' l' (by omega) h2
  have out : ∀ (m s : Nat) (M1 : xM) (x5 : Value), s + m = 2 * h 1 → xfr 31 36 M M1 → M1 32 = M 32 → M1 31 0 = nI rm → M1 31 1 = nI (xTr h i) → (∀ s' l', s' < s → l' < 4 → M1 36 (s' * 4 + l') = nI (xpr h i s' l')) → xW xSC 91 8 [.ref 34, .ref 9, .ref 31, .int (nI la), .int (nI s), x5] [] M1 Q := by
    intro m
    induction m with
    | zero =>
      intro s M1 x5 hs f f2 a b d
      have m1 : M1 9 1 = nI (h 1) := (H.fr f (by omega)).1.2.1
      rw [h91_8]
      simp (disch := first | decide | omega) only [s91, m1, pk_mul, nI_lt_f, if_false]
      refine hQ _ (f.tr (xfr.up (by decide) (by decide))) (by rw [xup_other (by decide)]; exact f2) (KK M1 la f f2 a b) (fun s' l' h1 h2 => by rw [xup_o (by decide)]; exact d s' l' (by omega) h2)
    | succ m ih =>
      intro s M1 x5 hs f f2 a b d
      have m1 : M1 9 1 = nI (h 1) := (H.fr f (by omega)).1.2.1
      rw [h91_8]
      simp (disch := first | decide | omega) only [s91, m1, pk_mul, nI_lt_t, if_true]
      exact inn 4 0 s M1 (by omega) (by omega) f f2 a b (fun s' l' h1 h2 => d s' l' (by omega) h2) (fun M2 x5 g g2 a2 b2 d2 => ih (s + 1) M2 x5 (by omega) g g2 a2 b2 d2)
  simp (disch := first | decide | omega) only [s91, k2]
  exact out (2 * h 1) 0 M _ (by omega) (fun _ _ => rfl) rfl k0 k1 (fun s' l' h1 => absurd h1 (by omega))
theorem c92_37 {g : Nat} (hg : g < 8) (hQ : ∀ M', (∀ a, a ≠ 37 → M' a = M a) → (∀ c, c < 32 → M' 37 c = nI (xbas g c)) → Q none M') : xW xSC 92 0 [.int (nI g), .ref 37, .null] [] M Q := by
  simp (disch := first | decide | omega) only [s92, cF, xpush_n, h92_8, nI_lt_t, nI_lt_f, if_true, if_false, pk_mul, nI_add, cS]
  refine hQ _ (fun a q => ?_) (fun c hc => ?_)
  · rw [xup_other q, xup_other q, xup_other q, xup_other q]
    simp [xset, q]
  · unfold xbas
    by_cases z : c / 4 = g
    · rw [if_pos z]
      rcases (show c = g * 4 + 0 ∨ c = g * 4 + (0 + 1) ∨ c = g * 4 + (0 + 1 + 1) ∨ c = g * 4 + (0 + 1 + 1 + 1) by omega) with y | y | y | y <;> rw [y] <;> simp (disch := first | decide | omega) only [xup_rs, xup_r]
    · rw [if_neg z, xup_r (by omega), xup_r (by omega), xup_r (by omega), xup_r (by omega)]
      simp [xset, xfl, hc]
theorem c92_38 {g : Nat} (hg : g < 8) (hQ : ∀ M', (∀ a, a ≠ 38 → M' a = M a) → (∀ c, c < 32 → M' 38 c = nI (xbas g c)) → Q none M') : xW xSC 92 0 [.int (nI g), .ref 38, .null] [] M Q := by
  simp (disch := first | decide | omega) only [s92, cF, xpush_n, h92_8, nI_lt_t, nI_lt_f, if_true, if_false, pk_mul, nI_add, cS]
  refine hQ _ (fun a q => ?_) (fun c hc => ?_)
  · rw [xup_other q, xup_other q, xup_other q, xup_other q]
    simp [xset, q]
  · unfold xbas
    by_cases z : c / 4 = g
    · rw [if_pos z]
      rcases (show c = g * 4 + 0 ∨ c = g * 4 + (0 + 1) ∨ c = g * 4 + (0 + 1 + 1) ∨ c = g * 4 + (0 + 1 + 1 + 1) by omega) with y | y | y | y <;> rw [y] <;> simp (disch := first | decide | omega) only [xup_rs, xup_r]
    · rw [if_neg z, xup_r (by omega), xup_r (by omega), xup_r (by omega), xup_r (by omega)]
      simp [xset, xfl, hc]
theorem c94 {i s l : Nat} {V : Nat → Nat} (H : cH 9 h M) (W : xWF h) (hs : s < 2 * h 1) (hl : l < 4) (P : ∀ s l, s < 2 * h 1 → l < 4 → M 36 (s * 4 + l) = nI (xpr h i s l)) (V7 : ∀ c, c < 32 → M 37 c = nI (V c)) : xW xSC 94 0 [.ref 34, .ref 9, .int (nI s), .int (nI l), .null, .null, .null] [] M Q = Q (some (.int (nI (xpr h i s l + V (xto h s))))) M := by
  have h8 := W.1.2.2.1
  obtain ⟨-, -, -, hw2, -, -, -, -⟩ := W.2.1 (s / 2) (by omega)
  have m3 : M 10 (s / 2 * 6 + 2) = nI (h (3 + (s / 2 * 6 + 2))) := H.2.1 _ (by omega)
  have m4 : xwi (nI (h (3 + (s / 2 * 6 + 2)))) (nI (s % 2)) = nI (xw h (s / 2) (s % 2)) := xwi_nI (by omega) (by omega)
  have a1 : M 10 (s / 2 * 6 + (1 - s % 2)) = nI (xdr h (s / 2) (1 - s % 2)) := H.2.1 _ (by omega)
  have v1 : M 37 (xto h s) = nI (V (xto h s)) := V7 _ (xto_lt W hs)
  have lt := xto_lt W hs
  have p1 := P s l hs hl
  have e : xdr h (s / 2) (1 - s % 2) * 4 + xw h (s / 2) (s % 2) = xto h s := rfl
  simp (disch := first | decide | omega) only [s94, shr1, and1, pk_sub, c39, a1, xpush_s, pk_mul, c37, m3, m4, nI_add, e, cG, p1, v1]
theorem c93 {i r rm la : Nat} {V : Nat → Nat} (H : cH 9 h M) (W : xWF h) (hi : i < h 2) (K : cK rm (xTr h i) la (xTi h i) M) (P : ∀ s l, s < 2 * h 1 → l < 4 → M 36 (s * 4 + l) = nI (xpr h i s l)) (V7 : ∀ c, c < 32 → M 37 c = nI (V c)) (hV : ∀ c, V c ≤ 1000000) (V8 : ∀ c, c < 32 → M 38 c = nI (xbas r c)) (hQ : ∀ M', xfr 38 38 M M' → (∀ c, c < 32 → M' 38 c = nI (xvp h i r V c (2 * h 1))) → Q none M') : xW xSC 93 0 [.ref 34, .ref 9, .ref 31, .null, .null, .null, .null, .null] [] M Q := by
  have h8 := W.1.2.2.1
  have h5 := W.1.2.2.2
  obtain ⟨-, w2, -⟩ := W.2.2.1 i hi
  have w2 : xTr h i ≤ 1 := w2
  have mono : ∀ M1, xfr 38 38 M M1 → cH 9 h M1 ∧ cK rm (xTr h i) la (xTi h i) M1 ∧ (∀ s l, s < 2 * h 1 → l < 4 → M1 36 (s * 4 + l) = nI (xpr h i s l)) ∧ (∀ c, c < 32 → M1 37 c = nI (V c)) := fun M1 f => ⟨H.fr f (by omega), K.fr f (by omega), fun s l a b => by rw [f 36 (by omega)]; exact P s l a b, fun c a => by rw [f 37 (by omega)]; exact V7 c a⟩
  have vb : ∀ c s, xvp h i r V c s ≤ 1000000 := fun c s => by
    induction s with
    | zero =>
      have := xbas_or r c
      simp only [xvp]
      omega
    | succ s ih =>
      simp only [xvp]
      split <;> omega
  have inn : ∀ (m l s : Nat) (M1 : xM) (x6 x7 : Value), l + m = 4 → s < 2 * h 1 → xcn h i (s / 2) (s % 2) = true → xfr 38 38 M M1 → (∀ c, c < 32 → M1 38 c = nI (if c / 4 = xdr h (s / 2) (s % 2) ∧ c % 4 < l then xvp h i r V c (s + 1) else xvp h i r V c s)) → (∀ (M2 : xM) (x4 x5 x6 x7 : Value), xfr 38 38 M M2 → (∀ c, c < 32 → M2 38 c = nI (xvp h i r V c (s + 1))) → xW xSC 93 101 [.ref 34, .ref 9, .ref 31, .int (nI s), x4, x5, x6, x7] [] M2 Q) → xW xSC 93 47 [.ref 34, .ref 9, .ref 31, .int (nI s), .int (nI (xdr h (s / 2) (s % 2))), .int (nI l), x6, x7] [] M1 Q := by
    intro m
    induction m with
    | zero =>
      intro l s M1 x6 x7 hl hs cn f d q
      rw [h93_47]
      have q := q M1 (.int (nI (xdr h (s / 2) (s % 2)))) (.int (nI l)) x6 x7 f (fun c hc => by
        rw [d c hc]
        by_cases z : c / 4 = xdr h (s / 2) (s % 2)
        · rw [if_pos ⟨z, by omega⟩]
        · rw [if_neg (fun w => z w.1)]
          simp only [xvp]
          rw [if_neg (fun w => z w.1.symm)])
      simp (disch := first | decide | omega) only [s93, nI_lt_f, if_false]
      exact q
    | succ m ih =>
      intro l s M1 x6 x7 hl hs cn f d q
      obtain ⟨H1, K1, P1, V1⟩ := mono M1 f
      have h00 := W.1.2.1
      obtain ⟨x1, x2, -, -, -, -, -, -⟩ := W.2.1 (s / 2) (by omega)
      have x1 : xdr h (s / 2) 0 < h 0 := x1
      have x2 : xdr h (s / 2) 1 < h 0 := x2
      have x3 : xdr h (s / 2) (s % 2) < 8 := by
        rcases (show s % 2 = 0 ∨ s % 2 = 1 by omega) with z | z <;> rw [z] <;> omega
      have c94' := fun (Q : Option Value → xM → Prop) => c94 (Q := Q) H1 W hs (show l < 4 by omega) P1 V1
      have p1 := xpr_le W (show i < 5 by omega) hs (l := l)
      have p2 := hV (xto h s)
      have d1 : M1 38 (xdr h (s / 2) (s % 2) * 4 + l) = nI (xvp h i r V (xdr h (s / 2) (s % 2) * 4 + l) s) := by rw [d _ (by omega), if_neg (by omega)]
      have b1 := vb (xdr h (s / 2) (s % 2) * 4 + l) s
      have e : min (xpr h i s l + V (xto h s)) (xvp h i r V (xdr h (s / 2) (s % 2) * 4 + l) s) = xvp h i r V (xdr h (s / 2) (s % 2) * 4 + l) (s + 1) := by
        simp only [xvp]
        rw [if_pos ⟨by omega, cn⟩, show (xdr h (s / 2) (s % 2) * 4 + l) % 4 = l by omega]
      rw [h93_47]
      simp (disch := first | decide | omega) only [s93, nI_lt_t, if_true, c94', xpush_s, pk_mul, nI_add, cG, d1, xmin_nI, e, cS, xpush_n]
      refine ih (l + 1) s _ _ _ (by omega) hs cn (f.tr (xfr.up (by decide) (by decide))) (fun c hc => ?_) q
      by_cases z : c = xdr h (s / 2) (s % 2) * 4 + l
      · rw [z, xup_rs, if_pos (by omega)]
      · rw [xup_r z, d c hc]
        by_cases y : c / 4 = xdr h (s / 2) (s % 2) ∧ c % 4 < l
        · rw [if_pos y, if_pos (by omega)]
        · rw [if_neg y, if_neg (by omega)]
  have out : ∀ (m s : Nat) (M1 : xM) (x4 x5 x6 x7 : Value), s + m = 2 * h 1 → xfr 38 38 M M1 → (∀ c, c < 32 → M1 38 c = nI (xvp h i r V c s)) → xW xSC 93 2 [.ref 34, .ref 9, .ref 31, .int (nI s), x4, x5, x6, x7] [] M1 Q := by
    intro m
    induction m with
    | zero =>
      intro s M1 x4 x5 x6 x7 hs f d
      have hs : s = 2 * h 1 := hs
      have m1 : M1 9 1 = nI (h 1) := (H.fr f (by omega)).1.2.1
      rw [h93_2]
      rw [hs] at d ⊢
      simp (disch := first | decide | omega) only [s93, m1, pk_mul, nI_lt_f, if_false]
      exact hQ M1 f d
    | succ m ih =>
      intro s M1 x4 x5 x6 x7 hs f d
      obtain ⟨H1, K1, P1, V1⟩ := mono M1 f
      have m1 : M1 9 1 = nI (h 1) := H1.1.2.1
      obtain ⟨-, -, -, hw2, -, -, -, -⟩ := W.2.1 (s / 2) (by omega)
      have m3 : M1 10 (s / 2 * 6 + 2) = nI (h (3 + (s / 2 * 6 + 2))) := H1.2.1 _ (by omega)
      have m4 : xwi (nI (h (3 + (s / 2 * 6 + 2)))) (nI (s % 2)) = nI (xw h (s / 2) (s % 2)) := xwi_nI (by omega) (by omega)
      have a1 : M1 10 (s / 2 * 6 + s % 2) = nI (xdr h (s / 2) (s % 2)) := H1.2.1 _ (by omega)
      have lw : xw h (s / 2) (s % 2) < 3 := xwt_lt _ _
      have nxt : ∀ (M2 : xM) (x4 x5 x6 x7 : Value), xfr 38 38 M M2 → (∀ c, c < 32 → M2 38 c = nI (xvp h i r V c (s + 1))) → xW xSC 93 101 [.ref 34, .ref 9, .ref 31, .int (nI s), x4, x5, x6, x7] [] M2 Q := fun M2 x4 x5 x6 x7 g d2 => by
        rw [h93_101]
        simp (disch := first | decide | omega) only [s93, nI_add]
        exact ih (s + 1) M2 _ _ _ _ (by omega) g d2
      rw [h93_2]
      by_cases cn : xTr h i = 0 ∨ xw h (s / 2) (s % 2) ≠ 1
      · have cn2 : xcn h i (s / 2) (s % 2) = true := decide_eq_true cn
        simp (disch := first | decide | omega) only [s93, m1, pk_mul, nI_lt_t, if_true, shr1, and1, c37, m3, m4, xpush_s, c87 K1 w2 lw, if_pos cn, i12, if_false, c39, a1]
        refine inn 4 0 s M1 _ _ (by omega) (by omega) cn2 f (fun c hc => ?_) nxt
        rw [if_neg (by omega)]
        exact d c hc
      · have cn2 : ¬ xcn h i (s / 2) (s % 2) = true := fun z => cn (of_decide_eq_true z)
        simp (disch := first | decide | omega) only [s93, m1, pk_mul, nI_lt_t, if_true, shr1, and1, c37, m3, m4, xpush_s, c87 K1 w2 lw, if_neg cn, i00]
        refine nxt M1 _ _ _ _ f (fun c hc => ?_)
        simp only [xvp]
        rw [if_neg (fun w => cn2 w.2)]
        exact d c hc
  simp (disch := first | decide | omega) only [s93]
  exact out (2 * h 1) 0 M _ _ _ _ (by omega) (fun _ _ => rfl) V8
theorem c95 {i rm la : Nat} {V : Nat → Nat} (H : cH 9 h M) (W : xWF h) (hi : i < h 2) (K : cK rm (xTr h i) la (xTi h i) M) (hrm : rm < h 0) (hl : la ≤ 3) (P : ∀ s l, s < 2 * h 1 → l < 4 → M 36 (s * 4 + l) = nI (xpr h i s l)) (V7 : ∀ c, c < 32 → M 37 c = nI (V c)) (hV : ∀ c, V c ≤ 1000000) (hQ : ∀ M', xfr 34 34 M M' → M' 34 4 = nI (xch h i V rm la (h 1)).1 → (M' 34 5 = if (xch h i V rm la (h 1)).1 = 1000000 then -1 else nI (xch h i V rm la (h 1)).2) → Q none M') : xW xSC 95 0 [.ref 34, .ref 9, .ref 31, .null, .null, .null] [] M Q := by
  have h8 := W.1.2.2.1
  have h5 := W.1.2.2.2
  have h00 := W.1.2.1
  obtain ⟨-, w2, -⟩ := W.2.2.1 i hi
  have w2 : xTr h i ≤ 1 := w2
  have mono : ∀ M1, xfr 34 34 M M1 → cH 9 h M1 ∧ cK rm (xTr h i) la (xTi h i) M1 ∧ (∀ s l, s < 2 * h 1 → l < 4 → M1 36 (s * 4 + l) = nI (xpr h i s l)) ∧ (∀ c, c < 32 → M1 37 c = nI (V c)) := fun M1 f => ⟨H.fr f (by omega), K.fr f (by omega), fun s l a b => by rw [f 36 (by omega)]; exact P s l a b, fun c a => by rw [f 37 (by omega)]; exact V7 c a⟩
  have cb : ∀ d, (xch h i V rm la d).1 ≤ 1000000 := fun d => by
    induction d with
    | zero => exact Nat.le_refl _
    | succ d ih =>
      simp only [xch]
      split
      · show xpr h i (2 * d + xse h d rm) la + V (xto h (2 * d + xse h d rm)) ≤ 1000000
        omega
      · exact ih
  have n1 : ((-1 : Int32) < nI 0) = True := by decide
  have out : ∀ (m d : Nat) (M1 : xM) (x4 x5 : Value), d + m = h 1 → xfr 34 34 M M1 → M1 34 4 = nI (xch h i V rm la d).1 → (M1 34 5 = if (xch h i V rm la d).1 = 1000000 then -1 else nI (xch h i V rm la d).2) → xW xSC 95 13 [.ref 34, .ref 9, .ref 31, .int (nI d), x4, x5] [] M1 Q := by
    intro m
    induction m with
    | zero =>
      intro d M1 x4 x5 hd f a b
      have hd : d = h 1 := hd
      have m1 : M1 9 1 = nI (h 1) := (H.fr f (by omega)).1.2.1
      rw [h95_13]
      rw [hd] at a b ⊢
      simp (disch := first | decide | omega) only [s95, m1, nI_lt_f, if_false]
      exact hQ M1 f a b
    | succ m ih =>
      intro d M1 x4 x5 hd f a b
      obtain ⟨H1, K1, P1, V1⟩ := mono M1 f
      have m1 : M1 9 1 = nI (h 1) := H1.1.2.1
      have k0 : M1 31 0 = nI rm := K1.1
      have k2 : M1 31 2 = nI la := K1.2.2.1
      obtain ⟨x1, x2, -, hw2, -, -, -, -⟩ := W.2.1 d (by omega)
      have x1 : xdr h d 0 < h 0 := x1
      have x2 : xdr h d 1 < h 0 := x2
      have a0 : M1 10 (d * 6 + 0) = nI (xdr h d 0) := H1.2.1 _ (by omega)
      have a1 : M1 10 (d * 6 + 1) = nI (xdr h d 1) := H1.2.1 _ (by omega)
      have sd : (if nI (xdr h d 0) = nI rm then nI 0 else if nI (xdr h d 1) = nI rm then nI 1 else -1) = xsd h d rm := rfl
      have sde := xsd_se (h := h) (k := d) (r := rm) (by omega) (by omega) (by omega)
      have le := xse_le h d rm
      have m3 : M1 10 (d * 6 + 2) = nI (h (3 + (d * 6 + 2))) := H1.2.1 _ (by omega)
      have lw : xw h d (xse h d rm) < 3 := xwt_lt _ _
      have c0 := cb d
      have keep : ¬ (xse h d rm < 2 ∧ xcn h i d (xse h d rm) = true ∧ xpr h i (2 * d + xse h d rm) la + V (xto h (2 * d + xse h d rm)) < (xch h i V rm la d).1) → ∀ (x4 : Int32) (x5 : Value), xW xSC 95 91 [.ref 34, .ref 9, .ref 31, .int (nI d), .int x4, x5] [] M1 Q := fun z x4 x5 => by
        have e : xch h i V rm la (d + 1) = xch h i V rm la d := by simp only [xch]; rw [if_neg z]
        rw [h95_91]
        simp (disch := first | decide | omega) only [s95, nI_add]
        exact ih (d + 1) M1 _ _ (by omega) f (by rw [e]; exact a) (by rw [e]; exact b)
      rw [h95_13]
      by_cases y : xse h d rm = 2
      · rw [if_pos y] at sde
        simp (disch := first | decide | omega) only [s95, m1, nI_lt_t, if_true, k0, c40, a0, a1, sd, sde, xpush_s, n1]
        exact keep (by omega) _ _
      · rw [if_neg y] at sde
        have m4 : xwi (nI (h (3 + (d * 6 + 2)))) (nI (xse h d rm)) = nI (xw h d (xse h d rm)) := xwi_nI (by omega) (by omega)
        by_cases cn : xTr h i = 0 ∨ xw h d (xse h d rm) ≠ 1
        · have cn2 : xcn h i d (xse h d rm) = true := decide_eq_true cn
          have c94' := fun (Q : Option Value → xM → Prop) => c94 (Q := Q) (s := 2 * d + xse h d rm) H1 W (by omega) (show la < 4 by omega) P1 V1
          have p1 := xpr_le W (show i < 5 by omega) (show 2 * d + xse h d rm < 2 * h 1 by omega) (l := la)
          have p2 := hV (xto h (2 * d + xse h d rm))
          by_cases z : xpr h i (2 * d + xse h d rm) la + V (xto h (2 * d + xse h d rm)) < (xch h i V rm la d).1
          · have e : xch h i V rm la (d + 1) = (xpr h i (2 * d + xse h d rm) la + V (xto h (2 * d + xse h d rm)), d) := by simp only [xch]; rw [if_pos ⟨by omega, cn2, z⟩]
            simp (disch := first | decide | omega) only [s95, m1, nI_lt_t, if_true, k0, c40, a0, a1, sd, sde, xpush_s, nI_nneg, if_false, c37, m3, m4, c87 K1 w2 lw, if_pos cn, i12, pk_mul, nI_add, k2, c94', a, h95_91]
            refine ih (d + 1) _ _ _ (by omega) (f.tr ((xfr.up (by decide) (by decide)).tr (xfr.up (by decide) (by decide)))) ?_ ?_
            · rw [xup_r (by decide), xup_rs, e]
            · rw [xup_rs, e]
              show nI d = if xpr h i (2 * d + xse h d rm) la + V (xto h (2 * d + xse h d rm)) = 1000000 then -1 else nI d
              rw [if_neg (by omega)]
          · simp (disch := first | decide | omega) only [s95, m1, nI_lt_t, if_true, k0, c40, a0, a1, sd, sde, xpush_s, nI_nneg, if_false, c37, m3, m4, c87 K1 w2 lw, if_pos cn, i12, pk_mul, nI_add, k2, c94', a, nI_lt_f]
            exact keep (fun w => z w.2.2) _ _
        · have cn2 : ¬ xcn h i d (xse h d rm) = true := fun z => cn (of_decide_eq_true z)
          simp (disch := first | decide | omega) only [s95, m1, nI_lt_t, if_true, k0, c40, a0, a1, sd, sde, xpush_s, nI_nneg, if_false, c37, m3, m4, c87 K1 w2 lw, if_neg cn, i00]
          exact keep (fun w => cn2 w.2.1) _ _
  simp (disch := first | decide | omega) only [s95]
  refine out (h 1) 0 _ _ _ (by omega) ((xfr.up (by decide) (by decide)).tr (xfr.up (by decide) (by decide))) ?_ ?_
  · rw [xup_r (by decide), xup_rs]; rfl
  · rw [xup_rs]; rfl
end C49
