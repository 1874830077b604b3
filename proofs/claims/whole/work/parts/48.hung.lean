/-! which doors to hang the other way: the reference -/
def xop2 (h : Nat → Nat) (d : Nat) : Nat := if xop h d < 2 then 1 else 0
/-- the same house, the first doors of a set hung the other way -/
def xhg (h h' : Nat → Nat) (s k : Nat) : Prop := (∀ j, (j < 3 ∨ 51 ≤ j ∨ (j - 3) % 6 ≠ 2) → h' j = h j) ∧ ∀ d, d < 8 → xop h' d = if d < k ∧ xbs s d = 1 then 1 - xop h d else xop h d
theorem xpt_cg {h h' : Nat → Nat} (e : ∀ j, (j < 3 ∨ 51 ≤ j ∨ (j - 3) % 6 ≠ 2) → h' j = h j) {d : Nat} (hd : d < 8) (o al : Nat) : xpt h' d o al = xpt h d o al := by
  have lv : xlv2 h' d = xlv2 h d := e _ (by omega)
  have g : ∀ x, x < 2 → xg h' d x = xg h d x := fun x hx => e _ (by omega)
  unfold xpt
  rw [xsp_cg (fun j _ => e j (by omega)), xsp_cg (fun j _ => e j (by omega)), lv, g 0 (by decide), g 1 (by decide)]
theorem xal_hg {h h' : Nat → Nat} {s n : Nat} (hn : n ≤ 8) (k : xhg h h' s n) : ∀ m d, d + m = n → xhT h s d + xal h' 63 d m = xhT h s n
  | 0, d, q => by
    have q : d = n := q
    rw [q]
    rfl
  | m + 1, d, q => by
    have ih := xal_hg hn k m (d + 1) (by omega)
    have o := k.2 d (by omega)
    simp only [xal]
    simp only [xhT] at ih
    have e : xpt h' d (h' (3 + (d * 6 + 2))) 63 = xcd h d (xbs s d) := by
      rw [xpt_cg k.1 (by omega)]
      show xpt h d (xop h' d) 63 = xcd h d (xbs s d)
      rw [o]
      unfold xcd
      by_cases z : xbs s d = 1
      · rw [if_pos ⟨by omega, z⟩, if_pos z]
      · rw [if_neg (fun w => z w.2), if_neg z]
    rw [e]
    omega
theorem xhg_0 (h : Nat → Nat) (n : Nat) : xhg h h 0 n := ⟨fun _ _ => rfl, fun d _ => by rw [if_neg (by simp [xbs])]⟩
theorem xhg_back {h h1 h2 : Nat → Nat} {s n : Nat} (a : xhg h h1 s n) (b : xhg h1 h2 s n) (q : ∀ d, d < n → xbs s d = 1 → xop h d < 2) : h2 = h := by
  funext j
  by_cases z : j < 3 ∨ 51 ≤ j ∨ (j - 3) % 6 ≠ 2
  · rw [b.1 j z, a.1 j z]
  · have e : j = 3 + ((j - 3) / 6 * 6 + 2) := by omega
    have a2 := a.2 ((j - 3) / 6) (by omega)
    have b2 := b.2 ((j - 3) / 6) (by omega)
    have q := q ((j - 3) / 6)
    unfold xop at a2 b2 q
    rw [← e] at a2 b2 q
    by_cases y : (j - 3) / 6 < n ∧ xbs s ((j - 3) / 6) = 1
    · rw [if_pos y] at a2 b2
      have := q y.1 y.2
      omega
    · rw [if_neg y] at a2 b2
      omega
section C48
variable {M N : xM} {Q : Option Value → xM → Prop} {S S1 : xA} {h h' : Nat → Nat}
theorem r191 {s : Nat} (R : rH 1 h N) (W : xWF h) (hs : s < 256) (sb : ∀ d, d < h 1 → xbs s d = 1 → xop h d < 2) (hQ : ∀ N' h', (∀ a, a ≠ 1 → N' a = N a) → rH 1 h' N' → xWF h' → xhg h h' s (h 1) → Q none N') : xW xSR 191 0 [.ref 0, .int (nI s), .null, .null] [] N Q := by
  have h8 := W.1.2.2.1
  have key : ∀ (m d : Nat) (hh : Nat → Nat) (N1 : xM) (x3 : Value), d + m = h 1 → (∀ a, a ≠ 1 → N1 a = N a) → rH 1 hh N1 → xWF hh → xhg h hh s d → xW xSR 191 2 [.ref 0, .int (nI s), .int (nI d), x3] [] N1 Q := by
    intro m
    induction m with
    | zero =>
      intro d hh N1 x3 hd f R1 W1 g
      have hd : d = h 1 := hd
      have e1 : hh 1 = h 1 := g.1 1 (by omega)
      have m1 : N1 1 1 = nI (hh 1) := R1.at _ rfl (by omega) (by omega)
      rw [h191_2]
      simp (disch := first | decide | omega) only [s191, m1, nI_lt_f, if_false]
      rw [hd] at g
      exact hQ N1 hh f R1 W1 g
    | succ m ih =>
      intro d hh N1 x3 hd f R1 W1 g
      have e1 : hh 1 = h 1 := g.1 1 (by omega)
      have m1 : N1 1 1 = nI (hh 1) := R1.at _ rfl (by omega) (by omega)
      have od : xop hh d = xop h d := by rw [g.2 d (by omega), if_neg (by omega)]
      have mo : N1 1 (3 + 6 * d + 2) = nI (xop h d) := by rw [← od]; exact R1.at _ (by omega) (by omega) (by omega)
      have ei : 3 + 6 * d + 2 = 3 + (d * 6 + 2) := by omega
      have rn : ¬ rla (3 + (d * 6 + 2)) := by unfold rla; omega
      have up : ∀ v, v ≤ 2 → (v = if xbs s d = 1 then 1 - xop h d else xop h d) → xW xSR 191 2 [.ref 0, .int (nI s), .int (nI (d + 1)), .int (nI (3 + 6 * d + 2))] [] (xup N1 1 (3 + 6 * d + 2) (nI v)) Q := by
        intro v hv ev
        have R2 : rH 1 (hset hh (3 + (d * 6 + 2)) v) (xup N1 1 (3 + 6 * d + 2) (nI v)) := by
          rw [ei]
          exact R1.up rn
        have ne : ∀ j, j ≠ 3 + (d * 6 + 2) → hset hh (3 + (d * 6 + 2)) v j = hh j := fun j q => by unfold hset; rw [if_neg q]
        have W2 : xWF (hset hh (3 + (d * 6 + 2)) v) := by
          by_cases z : xbs s d = 1
          · rw [if_pos z] at ev
            have := sb d (by omega) z
            exact W1.hang (by omega) (by omega)
          · rw [if_neg z, ← od] at ev
            have : hset hh (3 + (d * 6 + 2)) v = hh := by rw [ev]; exact hset_self hh _
            rw [this]
            exact W1
        refine ih (d + 1) _ _ _ (by omega) (fun a q => by rw [xup_other q]; exact f a q) R2 W2 ⟨fun j q => ?_, fun d' hd' => ?_⟩
        · rw [ne j (by omega)]
          exact g.1 j q
        · by_cases z : d' = d
          · subst z
            have : xop (hset hh (3 + (d' * 6 + 2)) v) d' = v := by unfold xop hset; rw [if_pos rfl]
            rw [this, ev]
            by_cases y : xbs s d' = 1
            · rw [if_pos y, if_pos ⟨by omega, y⟩]
            · rw [if_neg y, if_neg (fun w => y w.2)]
          · have : xop (hset hh (3 + (d * 6 + 2)) v) d' = xop hh d' := ne _ (by omega)
            rw [this, g.2 d' hd']
            by_cases y : d' < d ∧ xbs s d' = 1
            · rw [if_pos y, if_pos ⟨by omega, y.2⟩]
            · rw [if_neg y, if_neg (by omega)]
      obtain ⟨-, -, -, hw2, -, -, -, -⟩ := W.2.1 d (by omega)
      have hw2 : xop h d ≤ 2 := hw2
      rw [h191_2]
      rcases xbs01 s d with z | z
      · have up := up (xop h d) hw2 (by rw [if_neg (by omega)])
        simp (disch := first | decide | omega) only [s191, m1, nI_lt_t, if_true, pk_mul, nI_add, xsb, z, nI_eq_f, if_false, mo, h191_52]
        exact up
      · have lo := sb d (by omega) z
        have up := up (1 - xop h d) (by omega) (by rw [if_pos z])
        simp (disch := first | decide | omega) only [s191, m1, nI_lt_t, if_true, pk_mul, nI_add, xsb, z, nI_eq_t, mo, pk_sub, h191_52]
        exact up
  simp (disch := first | decide | omega) only [s191]
  exact key (h 1) 0 h N _ (by omega) (fun _ _ => rfl) R W ⟨fun _ _ => rfl, fun d _ => by rw [if_neg (by omega)]⟩
theorem r192k {w : Nat} (R : rH 1 h N) (W : xWF h) (hw : w ≤ 1) (hQ : ∀ N', rfa N N' → rH 1 h N' → Q (some (.int (if w = 0 then nI (xbts (xtn h) (h 1)) else nI (xhp h (h 1))))) N') {x6 x7 : Value} : xW xSR 192 70 [.ref 0, .int (nI w), .int (nI (xbts (xop2 h) (h 1))), .int (nI 0), .int (nI (xhT h 0 (h 1))), .int (nI 1), x6, x7] [] N Q := by
  have h8 := W.1.2.2.1
  have o2 : ∀ d, xop2 h d ≤ 1 := fun d => by unfold xop2; split <;> omega
  have p8 : 2 ^ h 1 ≤ 256 := Nat.pow_le_pow_right (by decide) h8
  have may2 := xbts_lt o2 (h 1)
  have own2 := xbts_lt (xtn_le h) (h 1)
  have mayb : ∀ d, d < h 1 → xbs (xbts (xop2 h) (h 1)) d = 1 → xop h d < 2 := fun d hd z => by
    rw [xbts_bit o2 _ h8 d hd] at z
    unfold xop2 at z
    by_cases y : xop h d < 2
    · exact y
    · rw [if_neg y] at z; exact absurd z (by decide)
  have ownb : ∀ d, d < h 1 → xbs (xbts (xtn h) (h 1)) d = 1 → xop h d < 2 := fun d hd z => by
    rw [xbts_bit (xtn_le h) _ h8 d hd] at z
    unfold xtn at z
    by_cases y : xop h d < 2 ∧ xpt h d (1 - xop h d) 63 < xpt h d (xop h d) 63
    · exact y.1
    · rw [if_neg y] at z; exact absurd z (by decide)
  have ownm : xbts (xtn h) (h 1) &&& xbts (xop2 h) (h 1) = xbts (xtn h) (h 1) := sub_of own2 (fun d hd z => by
    have := ownb d hd z
    rw [xbts_bit o2 _ h8 d hd]
    unfold xop2
    rw [if_pos this])
  have ownle : xbts (xtn h) (h 1) ≤ xbts (xop2 h) (h 1) := by
    have : xbts (xtn h) (h 1) &&& xbts (xop2 h) (h 1) ≤ xbts (xop2 h) (h 1) := Nat.and_le_right
    omega
  obtain ⟨ow1, ow2⟩ := own_sums (h := h) h8 (h 1) (Nat.le_refl _)
  have best : ∀ s, s < 2 ^ h 1 → (∀ d, d < h 1 → xbs s d = 1 → xop h d < 2) → 16 * xhp h (h 1) + xhn h (h 1) ≤ 16 * xhT h s (h 1) + mny s (h 1) ∧ (16 * xhp h (h 1) + xhn h (h 1) = 16 * xhT h s (h 1) + mny s (h 1) → s = xbts (xtn h) (h 1)) := fun s hs sb => by
    obtain ⟨a, b⟩ := own_best (h := h) (s := s) (h 1) sb
    refine ⟨a, fun e => set_eq hs own2 (fun d hd => ?_)⟩
    rw [b e d hd, xbts_bit (xtn_le h) _ h8 d hd]
  have tot : ∀ s, ∀ k, k ≤ h 1 → xhT h s k ≤ 3000 * k := fun s k => by
    induction k with
    | zero => intro _; exact Nat.zero_le _
    | succ k ih =>
      intro hk
      have := ih (by omega)
      have c : xcd h k (xbs s k) ≤ 3000 := by
        unfold xcd
        split
        · exact xpt_le W _ _ _
        · exact xpt_le W _ _ _
      simp only [xhT]
      omega
  generalize xbts (xop2 h) (h 1) = may at *
  generalize hown : xbts (xtn h) (h 1) = own at *
  have key : ∀ (m s b : Nat) (N1 : xM) (x6 x7 : Value), s + m = may + 1 → b < s → b < 2 ^ h 1 → (∀ d, d < h 1 → xbs b d = 1 → xop h d < 2) → (own < s → b = own) → rfa N N1 → rH 1 h N1 → xW xSR 192 70 [.ref 0, .int (nI w), .int (nI may), .int (nI b), .int (nI (xhT h b (h 1))), .int (nI s), x6, x7] [] N1 Q := by
    intro m
    induction m with
    | zero =>
      intro s b N1 x6 x7 hs hb hb2 bb bo f R1
      have hs : s = may + 1 := hs
      have bo := bo (by omega)
      rw [h192_70]
      have hQ := hQ N1 f R1
      rcases (show w = 0 ∨ w = 1 by omega) with z | z
      · subst z
        simp (disch := first | decide | omega) only [s192, nI_lt_t, if_true, i00, h192_178]
        rw [bo]
        exact hQ
      · subst z
        simp (disch := first | decide | omega) only [s192, nI_lt_t, if_true, i12, if_false, h192_178]
        rw [bo, ow1]
        exact hQ
    | succ m ih =>
      intro s b N1 x6 x7 hs hb hb2 bb bo f R1
      have m256 : may < 256 := by omega
      have b1 := tot b (h 1) (Nat.le_refl _)
      have s1 := tot s (h 1) (Nat.le_refl _)
      have sa := suband s (by omega) may m256
      have bd := best b hb2 bb
      rw [h192_70]
      by_cases z : s &&& may = s
      · have sa : (nI s &&& (nI may ^^^ (-1)) = nI 0) = True := eq_true (sa.mpr z)
        have sbit : ∀ d, d < h 1 → xbs s d = 1 → xop h d < 2 := fun d hd y => mayb d hd (sub_bit z y)
        have s2 : s < 2 ^ h 1 := by omega
        have sd := best s s2 sbit
        simp (disch := first | decide | omega) only [s192, nI_lt_f, if_false, sa, if_true]
        refine r191 R1 W (by omega) sbit (fun N2 hh g1 R2 W2 G => ?_)
        simp (disch := first | decide | omega) only [s192, xpush_n]
        have e1 : hh 1 = h 1 := G.1 1 (by omega)
        refine r189 R2 W2 (fun N3 g2 => ?_)
        have ts := xal_hg h8 G (h 1) 0 (by omega)
        have ts : xal hh 63 0 (h 1) = xhT h s (h 1) := by
          have e : xhT h s 0 = 0 := rfl
          omega
        rw [e1, ts]
        simp (disch := first | decide | omega) only [s192, xpush_s]
        refine r191 (R2.fr g2) W2 (by omega) (fun d hd y => ?_) (fun N4 h4 g3 R4 W4 G2 => ?_)
        · rw [e1] at hd
          have := sbit d hd y
          rw [G.2 d (by omega), if_pos ⟨hd, y⟩]
          omega
        · rw [e1] at G2
          have hb4 := xhg_back G G2 sbit
          subst hb4
          have f4 : rfa N N4 := f.tr ((rfa.k1 g1).tr (g2.fa.tr (rfa.k1 g3)))
          have yes : 16 * xhT h4 s (h4 1) + mny s (h4 1) < 16 * xhT h4 b (h4 1) + mny b (h4 1) → ∀ x6 x7, xW xSR 192 70 [.ref 0, .int (nI w), .int (nI may), .int (nI s), .int (nI (xhT h4 s (h4 1))), .int (nI (s + 1)), x6, x7] [] N4 Q := fun y x6 x7 => by
            refine ih (s + 1) s N4 x6 x7 (by omega) (by omega) s2 sbit (fun o => ?_) f4 R4
            by_cases q : own < s
            · have := bo q
              rw [this] at y
              rw [ow1, ow2] at y
              omega
            · omega
          have no : ¬ 16 * xhT h4 s (h4 1) + mny s (h4 1) < 16 * xhT h4 b (h4 1) + mny b (h4 1) → ∀ x6 x7, xW xSR 192 70 [.ref 0, .int (nI w), .int (nI may), .int (nI b), .int (nI (xhT h4 b (h4 1))), .int (nI (s + 1)), x6, x7] [] N4 Q := fun y x6 x7 => by
            refine ih (s + 1) b N4 x6 x7 (by omega) (by omega) hb2 bb (fun o => ?_) f4 R4
            by_cases q : own < s
            · exact bo q
            · have q : own = s := by omega
              rw [← q, ow1, ow2] at y
              exact bd.2 (by omega)
          have ms := mny_le s (h4 1)
          have mb := mny_le b (h4 1)
          have rs := fun (Q : Option Value → xM → Prop) x0 => r190 (M := N4) (Q := Q) s s 0 (Nat.le_refl _) (by omega) x0
          have rb := fun (Q : Option Value → xM → Prop) x0 => r190 (M := N4) (Q := Q) b b 0 (Nat.le_refl _) (by omega) x0
          rw [mny_8 h8 s2] at rs
          rw [mny_8 h8 hb2] at rb
          by_cases y1 : xhT h4 s (h4 1) < xhT h4 b (h4 1)
          · simp (disch := first | decide | omega) only [s192, xpush_n, nI_lt_t, if_true, h192_129, h192_134, i12, if_false, h192_147, h192_160, h192_162, nI_add]
            exact yes (by omega) _ _
          · by_cases y2 : xhT h4 s (h4 1) = xhT h4 b (h4 1)
            · have e2 : (nI (xhT h4 s (h4 1)) = nI (xhT h4 b (h4 1))) = True := nI_eq_t y2
              by_cases y3 : mny s (h4 1) < mny b (h4 1)
              · simp (disch := first | decide | omega) only [s192, xpush_n, nI_lt_f, if_false, e2, if_true, s190, rs, rb, xpush_s, Nat.zero_add, nI_lt_t, h192_129, h192_134, i12, h192_147, h192_160, h192_162, nI_add]
                exact yes (by omega) _ _
              · simp (disch := first | decide | omega) only [s192, xpush_n, nI_lt_f, if_false, e2, if_true, s190, rs, rb, xpush_s, Nat.zero_add, h192_133, h192_134, i00, h192_147, h192_160, h192_162, nI_add]
                exact no (by omega) _ _
            · simp (disch := first | decide | omega) only [s192, xpush_n, nI_lt_f, if_false, nI_eq_f, if_true, h192_133, h192_134, i00, h192_147, h192_160, h192_162, nI_add]
              exact no (by omega) _ _
      · have sa : (nI s &&& (nI may ^^^ (-1)) = nI 0) = False := eq_false (fun q => z (sa.mp q))
        have no : own ≠ s := fun q => z (q ▸ ownm)
        simp (disch := first | decide | omega) only [s192, nI_lt_f, if_false, sa, h192_162, nI_add]
        exact ih (s + 1) b N1 _ _ (by omega) (by omega) hb2 bb (fun o => bo (by omega)) f R1
  have b0 : ∀ d, xbs 0 d = 0 := fun d => by simp [xbs]
  exact key may 1 0 N x6 x7 (by omega) (by omega) (Nat.two_pow_pos _) (fun d _ y => by rw [b0] at y; exact absurd y (by decide)) (fun o => by omega) (rfr.fa rfr.rf) R
theorem r192m {w : Nat} (R : rH 1 h N) (W : xWF h) (hw : w ≤ 1) (hQ : ∀ N', rfa N N' → rH 1 h N' → Q (some (.int (if w = 0 then nI (xbts (xtn h) (h 1)) else nI (xhp h (h 1))))) N') {x4 x5 x6 x7 : Value} : xW xSR 192 16 [.ref 0, .int (nI w), .int (nI 0), .int (nI 0), x4, x5, x6, x7] [] N Q := by
  have h8 := W.1.2.2.1
  have o2 : ∀ d, xop2 h d ≤ 1 := fun d => by unfold xop2; split <;> omega
  have key : ∀ (m k : Nat) (x4 x5 x6 x7 : Value), k + m = h 1 → xW xSR 192 16 [.ref 0, .int (nI w), .int (nI (xbts (xop2 h) k)), .int (nI k), x4, x5, x6, x7] [] N Q := by
    intro m
    induction m with
    | zero =>
      intro k x4 x5 x6 x7 hk
      have hk : k = h 1 := hk
      have m1 : N 1 1 = nI (h 1) := R.at _ rfl (by omega) (by omega)
      rw [h192_16]
      simp (disch := first | decide | omega) only [s192, m1, nI_lt_f, if_false]
      refine r189 R W (fun N2 g => ?_)
      have ts := xal_hg h8 (xhg_0 h (h 1)) (h 1) 0 (by omega)
      have ts : xal h 63 0 (h 1) = xhT h 0 (h 1) := by
        have e : xhT h 0 0 = 0 := rfl
        omega
      rw [ts, hk]
      simp (disch := first | decide | omega) only [s192, xpush_s]
      exact r192k (R.fr g) W hw (fun N' f R' => hQ N' (g.fa.tr f) R')
    | succ m ih =>
      intro k x4 x5 x6 x7 hk
      have m1 : N 1 1 = nI (h 1) := R.at _ rfl (by omega) (by omega)
      have mo : N 1 (3 + 6 * k + 2) = nI (xop h k) := R.at _ (by omega) (by omega) (by omega)
      obtain ⟨-, -, -, hw2, -, -, -, -⟩ := W.2.1 k (by omega)
      have hw2 : xop h k ≤ 2 := hw2
      have bo := bitor k (by omega) _ (xbts_lt o2 k)
      have IH := fun x4 x5 x6 x7 => ih (k + 1) x4 x5 x6 x7 (by omega)
      simp only [xbts] at IH
      rw [h192_16]
      by_cases z : xop h k < 2
      · have e : xop2 h k = 1 := by unfold xop2; rw [if_pos z]
        rw [e, Nat.one_mul] at IH
        simp (disch := first | decide | omega) only [s192, m1, nI_lt_t, if_true, pk_mul, nI_add, mo, h192_51, bo]
        exact IH _ _ _ _
      · have e : xop2 h k = 0 := by unfold xop2; rw [if_neg z]
        rw [e, Nat.zero_mul, Nat.add_zero] at IH
        simp (disch := first | decide | omega) only [s192, m1, nI_lt_t, nI_lt_f, if_true, if_false, pk_mul, nI_add, mo, h192_51, or_nI0]
        exact IH _ _ _ _
  exact key (h 1) 0 _ _ _ _ (by omega)
theorem A_hung (C : RC S M) (R : RR S N) (W : WA S) (x : Int32) : Agr S M N 120 [.ref 0, .int x] 192 [.ref 0, .int x, .null, .null, .null, .null, .null, .null] := by
  have h8 := W.2.1.1.2.2.1
  have h5 := W.2.1.1.2.2.2
  obtain ⟨cn0, cn1, cn2⟩ := C.n
  obtain ⟨rn0, rn1, rn2⟩ := R.n
  have l0 : S 0 0 < 2 ^ 31 := by have := W.2.1.1.2.1; omega
  have l1 : S 0 1 < 2 ^ 31 := by omega
  have l2 : S 0 2 < 2 ^ 31 := by omega
  cases hx : xbw x 0 (1 + 1)
  all_goals try (refine Agr.same W (-1) ?_ ?_ <;> (simp (disch := first | decide | omega) only [s120, j120, cWi, s192, j192, r135w, hx, xpush_s, Bool.false_eq_true, if_true, if_false, i12, i00, Bool.and_true, Bool.and_false, Bool.true_and, Bool.false_and]; exact ⟨trivial, by first | exact C | exact R⟩))
  obtain ⟨w, -, w1, rfl⟩ := xbw_nI hx (by decide)
  refine Agr.same W (if w = 0 then nI (xbts (xtn (S 0)) (S 0 1)) else nI (xhp (S 0) (S 0 1))) ?_ ?_
  · simp (disch := first | decide | omega) only [s120, cWi, hx, xpush_s, if_true, if_false, i12]
    refine c66 C.2.1 W.2.1 (fun M1 f a b => ?_)
    have C1 := C.fr (cfr.x f (by decide))
    rcases (show w = 0 ∨ w = 1 by omega) with z | z
    · subst z
      simp (disch := first | decide | omega) only [s120, xpush_n, i00, if_true, a, h120_43]
      exact ⟨by trivial, C1⟩
    · subst z
      simp (disch := first | decide | omega) only [s120, xpush_n, i12, if_false, b, h120_43]
      exact ⟨by trivial, C1⟩
  · simp (disch := first | decide | omega) only [s192, r135w, hx, xpush_s, if_true, if_false, i12]
    exact r192m R.2.1 W.2.1 (by omega) (fun N' f R' => ⟨rfl, R.fra f R'⟩)
end C48
