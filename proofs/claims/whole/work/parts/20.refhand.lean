/-! the reference's house and hand -/
def rla (j : Nat) : Prop := 51 ≤ j ∧ j < 66 ∧ j % 3 = 2
def rH (c : Nat) (h : Nat → Nat) (M : xM) : Prop := (∀ j, j < 156 → ¬ rla j → M c j = nI (h j)) ∧ ∀ j, rla j → M c j = if h j = 3 then -4 else nI (h j)
theorem rH.mono {c : Nat} {h : Nat → Nat} {M M' : xM} (R : rH c h M) (e : M' c = M c) : rH c h M' := ⟨fun j a b => by rw [e]; exact R.1 j a b, fun j a => by rw [e]; exact R.2 j a⟩
theorem rH.at {c : Nat} {h : Nat → Nat} {M : xM} (R : rH c h M) {j : Nat} (k : Nat) (e : j = k) (hj : j < 156) (hn : j < 51 ∨ 66 ≤ j ∨ j % 3 ≠ 2) : M c j = nI (h k) := by
  subst e
  exact R.1 j hj (fun q => by unfold rla at q; omega)
theorem xsb {s k : Nat} (hs : s < 2 ^ 31) (hk : k < 32) : ((nI s >>> (nI k &&& nI 31)) &&& nI 1) = nI (xbs s k) := by
  have e : ∀ k, k < 32 → ((nI k &&& nI 31).toBitVec.smod 32).toNat = k := by decide
  have hd : s / 2 ^ k < 2 ^ 32 := Nat.lt_of_le_of_lt (Nat.div_le_self _ _) (by omega)
  rw [pk_shrN hs _ k (e k hk), and1 hd]
  rfl
theorem xsb0 {s : Nat} (hs : s < 2 ^ 31) : (nI s &&& nI 1) = nI (xbs s 0) := by
  rw [and1 (by omega)]
  simp [xbs]
section C20
variable {M : xM} {Q : Option Value → xM → Prop} {h : Nat → Nat}
theorem r158 {i d e : Nat} : xW xSR 158 0 [.int (nI i), .int (nI d), .int (nI e)] [] M Q = Q (some (.int (nI (66 + 16 * i + 2 * d + e)))) M := by
  simp only [s158, j158, pk_mul, nI_add]
theorem r161 {d e : Nat} (R : rH 1 h M) (W : xWF h) (hd : d < h 1) (he : e < 2) : xW xSR 161 0 [.ref 0, .int (nI d), .int (nI e), .null] [] M Q = Q (some (.int (nI (xw h d e)))) M := by
  have h8 := W.1.2.2.1
  obtain ⟨-, -, -, hw, -, -, -, -⟩ := W.2.1 d hd
  have m : M 1 (3 + 6 * d + 2) = nI (h (3 + (d * 6 + 2))) := R.at _ (by omega) (by omega) (by omega)
  by_cases q : h (3 + (d * 6 + 2)) = 2
  · have e1 : xw h d e = 2 := by unfold xw xwt; rw [if_pos q]
    simp (disch := omega) only [s161, j161, pk_mul, nI_add, m, nI_eq_t, if_true, e1]
  · have e1 : xw h d e = (h (3 + (d * 6 + 2)) + e) % 2 := by
      unfold xw xwt
      rw [if_neg q]
      split <;> omega
    simp (disch := omega) only [s161, j161, pk_mul, nI_add, m, nI_eq_f, if_false, pk_rem, e1]
theorem r162 {d e : Nat} (R : rH 1 h M) (hd : d < 8) (he : e < 2) : xW xSR 162 0 [.ref 0, .int (nI d), .int (nI e)] [] M Q = Q (some (.int (nI (xg h d e)))) M := by
  have m : M 1 (3 + 6 * d + 4 + e) = nI (xg h d e) := R.at _ (by omega) (by omega) (by omega)
  simp (disch := omega) only [s162, j162, pk_mul, nI_add, m]
theorem r163 {d e p r : Nat} (R : rH 1 h M) (W : xWF h) (hd : d < h 1) (he : e < 2) (h0 : M 5 0 = nI p) (h1 : M 5 1 = nI r) (hQ : ∀ M', xfr 5 5 M M' → M' 5 0 = nI (p + xSP h (xw h d e) (xg h d e) (xg h d (1 - e))) → M' 5 1 = nI (r + xSQ h (xw h d e) (xg h d e) (xg h d (1 - e))) → Q none M') : xW xSR 163 0 [.ref 0, .int (nI d), .int (nI e), .null, .null, .null] [] M Q := by
  have h8 := W.1.2.2.1
  have g1 := W.g hd he
  have g2 := W.g hd (show 1 - e < 2 by omega)
  have m146 : M 1 146 = nI (h 146) := R.at _ rfl (by omega) (by omega)
  have m147 : M 1 147 = nI (h 147) := R.at _ rfl (by omega) (by omega)
  have m148 : M 1 148 = nI (h 148) := R.at _ rfl (by omega) (by omega)
  have m149 : M 1 149 = nI (h 149) := R.at _ rfl (by omega) (by omega)
  have hb : h 148 ≤ 20 := W.2.2.2.2 2 (by decide)
  have mono : ∀ i x j y, rH 1 h (xup (xup M 5 i x) 5 j y) := fun i x j y => R.mono (by rw [xup_other (by decide), xup_other (by decide)])
  have w : ∀ i x j y (Q' : Option Value → xM → Prop), xW xSR 161 0 [.ref 0, .int (nI d), .int (nI e), .null] [] (xup (xup M 5 i x) 5 j y) Q' = Q' (some (.int (nI (xw h d e)))) (xup (xup M 5 i x) 5 j y) := fun i x j y Q' => r161 (mono i x j y) W hd he
  have fr : ∀ i x i2 x2 i3 x3 i4 x4 i5 x5, xfr 5 5 M (xup (xup (xup (xup (xup M 5 i x) 5 i2 x2) 5 i3 x3) 5 i4 x4) 5 i5 x5) := fun i x i2 x2 i3 x3 i4 x4 i5 x5 a q => by
    rw [xup_other (by omega), xup_other (by omega), xup_other (by omega), xup_other (by omega), xup_other (by omega)]
  have hu : xw h d e < 3 := xwt_lt _ _
  rcases (show xw h d e = 0 ∨ xw h d e = 1 ∨ xw h d e = 2 by omega) with u | u | u <;>
  · simp (disch := first | decide | omega) only [s163, j163, r162 R (show d < 8 by omega) he, r162 R (show d < 8 by omega) (show 1 - e < 2 by omega), pk_sub, xpush_s, xup_o, xup_r, xup_rs, m146, m147, m148, m149, xsb, xsb0, pk_mul, nI_add, h0, h1, w, pk_div, u]
    refine hQ _ (fr _ _ _ _ _ _ _ _ _ _) ?_ ?_
    · simp (disch := first | decide | omega) only [xup_o, xup_r, xup_rs]
      congr 1
      unfold xSP
      simp only [Nat.mul_comm (xbs (xg h d (1 - e)) 2), Nat.mul_assoc, if_true, if_false, Nat.one_ne_zero, Nat.succ_ne_zero, Nat.mul_left_comm]
      split <;> omega
    · simp (disch := first | decide | omega) only [xup_o, xup_r, xup_rs]
      congr 1
      unfold xSQ
      simp only [Nat.mul_comm (xbs (xg h d (1 - e)) 3), Nat.mul_assoc, if_true, if_false, Nat.zero_ne_one, Nat.mul_left_comm]
      split <;> omega
/-- the weights of a person, or of a stranger (w = none: no times, no last door) -/
def rli (la : Nat) : Int32 := if la = 3 then -4 else nI la
theorem r164 {i d e la : Nat} (R : rH 1 h M) (W : xWF h) (hd : d < h 1) (he : e < 2) (hi : i < 5) (hl : la ≤ 3) (hQ : ∀ M', xfr 5 5 M M' → M' 5 0 = nI (xPP h (xTi h i) la d e) → M' 5 1 = nI (xQQ h (xTi h i) la d e) → Q none M') : xW xSR 164 0 [.ref 0, .int (nI i), .int (nI d), .int (nI e), .int (rli la), .null, .null, .null] [] M Q := by
  have h8 := W.1.2.2.1
  have z1 : (nI 1 = nI 0) = False := nI_eq_f (by decide) (by decide) (by decide)
  have z2 : (nI 0 = nI 0) = True := nI_eq_t rfl
  have key : ∀ (n g p r : Nat) (a6 a7 : Value) (M1 : xM), g + n = h 1 → xfr 5 5 M M1 → M1 5 0 = nI p → M1 5 1 = nI r → (∀ M', xfr 5 5 M M' → M' 5 0 = nI (p + xtw h (xTi h i) d e 0 (2 * g) (2 * n)) → M' 5 1 = nI (r + xtw h (xTi h i) d e 1 (2 * g) (2 * n)) → Q none M') → xW xSR 164 57 [.ref 0, .int (nI i), .int (nI d), .int (nI e), .int (rli la), .int (nI g), a6, a7] [] M1 Q := by
    intro n
    induction n with
    | zero =>
      intro g p r a6 a7 M1 hg f0 f1 f2 hq
      have n1 : M1 1 1 = nI (h 1) := by rw [f0 1 (by omega)]; exact R.at _ rfl (by omega) (by omega)
      rw [h164_57]
      simp (disch := omega) only [s164, j164, n1, nI_lt_f, if_false]
      exact hq M1 f0 f1 f2
    | succ n ih =>
      intro g p r a6 a7 M1 hg f0 f1 f2 hq
      have one : ∀ (f p r : Nat) (a7 : Value) (M1 : xM), f < 2 → xfr 5 5 M M1 → M1 5 0 = nI p → M1 5 1 = nI r → (∀ (a7 : Value) (M' : xM), xfr 5 5 M M' → M' 5 0 = nI (p + xtt h (xTi h i) d e 0 (2 * g + f)) → M' 5 1 = nI (r + xtt h (xTi h i) d e 1 (2 * g + f)) → xW xSR 164 75 [.ref 0, .int (nI i), .int (nI d), .int (nI e), .int (rli la), .int (nI g), .int (nI (f + 1)), a7] [] M' Q) → xW xSR 164 75 [.ref 0, .int (nI i), .int (nI d), .int (nI e), .int (rli la), .int (nI g), .int (nI f), a7] [] M1 Q := by
        intro f p r a7 M1 hf f0 f1 f2 hq
        have R1 : rH 1 h M1 := R.mono (f0 1 (by omega))
        have g1 := W.g hd he
        have g2 := W.g (show g < h 1 by omega) hf
        have s1 : (2 * g + f) / 2 = g := by omega
        have s2 : (2 * g + f) % 2 = f := by omega
        have m151 : M1 1 151 = nI (h 151) := R1.at _ rfl (by omega) (by omega)
        have mt : M1 1 (66 + 16 * i + 2 * g + f) = nI (xTi h i (2 * g + f)) := R1.at _ (by omega) (by omega) (by omega)
        have c1 : (nI g = nI d) = (g = d) := propext (nI_eq (by omega) (by omega))
        have c2 : (nI f = nI e) = (f = e) := propext (nI_eq (by omega) (by omega))
        have c3 : (nI (xg h g f) = nI (xg h d e)) = (xg h g f = xg h d e) := propext (nI_eq (by omega) (by omega))
        have hu : xw h g f < 3 := xwt_lt _ _
        have e20 : ((2 : Nat) = 0) = False := by simp
        have e21 : ((2 : Nat) = 1) = False := by simp
        have e10 : ((1 : Nat) = 0) = False := by simp
        have e01 : ((0 : Nat) = 1) = False := by simp
        have yes : ((g = d ∧ f = e) ∨ (g ≠ d ∧ xg h g f = xg h d e)) → ∀ v, xtt h (xTi h i) d e v (2 * g + f) = (if xw h g f = v then xTi h i (2 * g + f) * h 151 else 0) := fun q v => by
          unfold xtt
          rw [s1, s2, if_pos q, Nat.mul_comm]
        have no : ¬ ((g = d ∧ f = e) ∨ (g ≠ d ∧ xg h g f = xg h d e)) → ∀ v, xtt h (xTi h i) d e v (2 * g + f) = 0 := fun q v => by
          unfold xtt
          rw [s1, s2, if_neg q]
        rw [h164_75]
        by_cases q1 : g = d
        · have c1 : (nI g = nI d) = True := by rw [c1]; exact eq_true q1
          by_cases q2 : f = e
          · have c2 : (nI f = nI e) = True := by rw [c2]; exact eq_true q2
            have yy := yes (Or.inl ⟨q1, q2⟩)
            rcases (show xw h g f = 0 ∨ xw h g f = 1 ∨ xw h g f = 2 by omega) with u | u | u <;>
            · skip
              simp (disch := first | decide | omega) only [s164, j164, nI_lt_t, if_true, if_false, c1, c2, r162 R1 (show g < 8 by omega) hf, r162 R1 (show d < 8 by omega) he, r161 R1 W (show g < h 1 by omega) hf, xpush_s, u, z1, z2, r158, mt, m151, pk_mul, nI_add, f1, f2]
              refine hq _ _ (f0.tr (xfr.up (by decide) (by decide))) ?_ ?_ <;> simp (disch := decide) only [xup_rs, xup_r, f1, f2, yy, u, if_true, if_false, Nat.add_zero, e20, e21, e10, e01]
          · have c2 : (nI f = nI e) = False := by rw [c2]; exact eq_false q2
            have yy := no (by omega)
            rcases (show xw h g f = 0 ∨ xw h g f = 1 ∨ xw h g f = 2 by omega) with u | u | u <;>
            · skip
              simp (disch := first | decide | omega) only [s164, j164, nI_lt_t, if_true, if_false, c1, c2, r162 R1 (show g < 8 by omega) hf, r162 R1 (show d < 8 by omega) he, r161 R1 W (show g < h 1 by omega) hf, xpush_s, u, z1, z2, r158, mt, m151, pk_mul, nI_add, f1, f2]
              refine hq _ _ (f0.tr (xfr.up (by decide) (by decide))) ?_ ?_ <;> simp (disch := decide) only [xup_rs, xup_r, f1, f2, yy, u, if_true, if_false, Nat.add_zero, e20, e21, e10, e01]
        · have c1 : (nI g = nI d) = False := by rw [c1]; exact eq_false q1
          by_cases q3 : xg h g f = xg h d e
          · have c3 : (nI (xg h g f) = nI (xg h d e)) = True := by rw [c3]; exact eq_true q3
            have yy := yes (Or.inr ⟨q1, q3⟩)
            rcases (show xw h g f = 0 ∨ xw h g f = 1 ∨ xw h g f = 2 by omega) with u | u | u <;>
            · skip
              simp (disch := first | decide | omega) only [s164, j164, nI_lt_t, if_true, if_false, c1, c3, r162 R1 (show g < 8 by omega) hf, r162 R1 (show d < 8 by omega) he, r161 R1 W (show g < h 1 by omega) hf, xpush_s, u, z1, z2, r158, mt, m151, pk_mul, nI_add, f1, f2]
              refine hq _ _ (f0.tr (xfr.up (by decide) (by decide))) ?_ ?_ <;> simp (disch := decide) only [xup_rs, xup_r, f1, f2, yy, u, if_true, if_false, Nat.add_zero, e20, e21, e10, e01]
          · have c3 : (nI (xg h g f) = nI (xg h d e)) = False := by rw [c3]; exact eq_false q3
            have yy := no (by omega)
            rcases (show xw h g f = 0 ∨ xw h g f = 1 ∨ xw h g f = 2 by omega) with u | u | u <;>
            · skip
              simp (disch := first | decide | omega) only [s164, j164, nI_lt_t, if_true, if_false, c1, c3, r162 R1 (show g < 8 by omega) hf, r162 R1 (show d < 8 by omega) he, r161 R1 W (show g < h 1 by omega) hf, xpush_s, u, z1, z2, r158, mt, m151, pk_mul, nI_add, f1, f2]
              refine hq _ _ (f0.tr (xfr.up (by decide) (by decide))) ?_ ?_ <;> simp (disch := decide) only [xup_rs, xup_r, f1, f2, yy, u, if_true, if_false, Nat.add_zero, e20, e21, e10, e01]
      have n1 : M1 1 1 = nI (h 1) := by rw [f0 1 (by omega)]; exact R.at _ rfl (by omega) (by omega)
      rw [h164_57]
      simp (disch := omega) only [s164, n1, nI_lt_t, if_true, nI_nneg, if_false]
      refine one 0 p r _ M1 (by omega) f0 f1 f2 (fun b7 M2 f3 f4 f5 => one 1 _ _ b7 M2 (by omega) f3 f4 f5 (fun c7 M3 f6 f7 f8 => ?_))
      rw [h164_75]
      simp (disch := omega) only [s164, j164, nI_lt_f, if_false, nI_add]
      refine ih (g + 1) _ _ _ _ M3 (by omega) f6 f7 f8 (fun M' b0 b1 b2 => hq M' b0 ?_ ?_)
      · rw [b1]
        congr 1
        rw [show 2 * (n + 1) = 2 * n + 1 + 1 by omega]
        simp only [xtw]
        rw [show 2 * (g + 1) = 2 * g + 1 + 1 by omega]
        simp only [Nat.add_assoc, Nat.add_zero]
      · rw [b2]
        congr 1
        rw [show 2 * (n + 1) = 2 * n + 1 + 1 by omega]
        simp only [xtw]
        rw [show 2 * (g + 1) = 2 * g + 1 + 1 by omega]
        simp only [Nat.add_assoc, Nat.add_zero]
  have w1 : rH 1 h (xup (xup (xup M 5 0 (nI 1)) 5 1 (nI 1)) 5 2 (nI 0)) := R.mono (by rw [xup_other (by decide), xup_other (by decide), xup_other (by decide)])
  simp (disch := decide) only [s164]
  refine r163 w1 W hd he (p := 1) (r := 1) (by rw [xup_r (by decide), xup_r (by decide), xup_rs]) (by rw [xup_r (by decide), xup_rs]) (fun M2 f0 f1 f2 => ?_)
  have fr2 : xfr 5 5 M M2 := (((xfr.up (by decide) (by decide)).tr (xfr.up (by decide) (by decide))).tr (xfr.up (by decide) (by decide))).tr f0
  have m150 : M2 1 150 = nI (h 150) := by rw [fr2 1 (by omega)]; exact R.at _ rfl (by omega) (by omega)
  simp only [xpush_n]
  have fin : ∀ M3, xfr 5 5 M M3 → M3 5 0 = nI (1 + xSP h (xw h d e) (xg h d e) (xg h d (1 - e)) + (if la = 0 then h 150 else 0)) → M3 5 1 = nI (1 + xSQ h (xw h d e) (xg h d e) (xg h d (1 - e)) + (if la = 1 then h 150 else 0)) → xW xSR 164 57 [.ref 0, .int (nI i), .int (nI d), .int (nI e), .int (rli la), .int (nI 0), .null, .null] [] M3 Q := fun M3 g0 g1 g2 => key (h 1) 0 _ _ _ _ M3 (by omega) g0 g1 g2 (fun M' k0 k1 k2 => hQ M' k0 k1 k2)
  rcases (show la = 0 ∨ la = 1 ∨ la = 2 ∨ la = 3 by omega) with rfl | rfl | rfl | rfl
  · have e0 : (rli 0 < nI 0) = False := by decide
    have e1 : rli 0 = nI 0 := rfl
    rw [e1] at fin ⊢
    simp (disch := decide) only [s164, j164, nI_nneg, if_false, f1, m150, nI_add]
    refine fin _ (fr2.tr (xfr.up (by decide) (by decide))) ?_ ?_
    · rw [xup_rs, if_pos rfl]
    · rw [xup_r (by decide), f2, if_neg (by decide), Nat.add_zero]
  · have e1 : rli 1 = nI 1 := rfl
    rw [e1] at fin ⊢
    simp (disch := decide) only [s164, j164, nI_nneg, if_false, f2, m150, nI_add]
    refine fin _ (fr2.tr (xfr.up (by decide) (by decide))) ?_ ?_
    · rw [xup_r (by decide), f1, if_neg (by decide), Nat.add_zero]
    · rw [xup_rs, if_pos rfl]
  · have e1 : rli 2 = nI 2 := rfl
    rw [e1] at fin ⊢
    simp (disch := decide) only [s164, j164, nI_nneg, if_false, m150]
    refine fin _ (fr2.tr (xfr.up (by decide) (by decide))) ?_ ?_
    · rw [xup_r (by decide), f1, if_neg (by decide), Nat.add_zero]
    · rw [xup_r (by decide), f2, if_neg (by decide), Nat.add_zero]
  · have e1 : rli 3 = -4 := rfl
    have e2 : ((-4 : Int32) < nI 0) = True := by decide
    rw [e1] at fin ⊢
    simp (disch := decide) only [s164, j164, e2, if_true, m150]
    refine fin _ (fr2.tr (xfr.up (by decide) (by decide))) ?_ ?_
    · rw [xup_r (by decide), f1, if_neg (by decide), Nat.add_zero]
    · rw [xup_r (by decide), f2, if_neg (by decide), Nat.add_zero]
end C20
