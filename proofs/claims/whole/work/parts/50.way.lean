/-! the way on which one is wrong least: both -/
def xvi (v : Nat) : Int32 := if v = 1000000 then -1 else nI v
def xel (h : Nat → Nat) (i d q : Nat) (V : Nat → Nat) : Bool := decide (xse h d q < 2 ∧ xcn h i d (xse h d q) = true ∧ V (xto h (2 * d + xse h d q)) < 1000000)
def xow (h : Nat → Nat) (i d q l : Nat) (V : Nat → Nat) : Int32 := if xel h i d q V = true then nI (xpr h i (2 * d + xse h d q) l + V (xto h (2 * d + xse h d q))) else -1
theorem xvi_n : xvi 1000000 = -1 := rfl
theorem xvi_v {v : Nat} (h : v ≠ 1000000) : xvi v = nI v := by
  unfold xvi
  rw [if_neg h]
theorem xvp_door {h : Nat → Nat} {i r : Nat} {V : Nat → Nat} {c d : Nat} (ne : xdr h d 0 ≠ xdr h d 1) : xvp h i r V c (2 * (d + 1)) = if xse h d (c / 4) < 2 ∧ xcn h i d (xse h d (c / 4)) = true then min (xpr h i (2 * d + xse h d (c / 4)) (c % 4) + V (xto h (2 * d + xse h d (c / 4)))) (xvp h i r V c (2 * d)) else xvp h i r V c (2 * d) := by
  have u : xvp h i r V c (2 * (d + 1)) = (if xdr h ((2 * d + 1) / 2) ((2 * d + 1) % 2) = c / 4 ∧ xcn h i ((2 * d + 1) / 2) ((2 * d + 1) % 2) = true then min (xpr h i (2 * d + 1) (c % 4) + V (xto h (2 * d + 1))) (if xdr h (2 * d / 2) (2 * d % 2) = c / 4 ∧ xcn h i (2 * d / 2) (2 * d % 2) = true then min (xpr h i (2 * d) (c % 4) + V (xto h (2 * d))) (xvp h i r V c (2 * d)) else xvp h i r V c (2 * d)) else (if xdr h (2 * d / 2) (2 * d % 2) = c / 4 ∧ xcn h i (2 * d / 2) (2 * d % 2) = true then min (xpr h i (2 * d) (c % 4) + V (xto h (2 * d))) (xvp h i r V c (2 * d)) else xvp h i r V c (2 * d))) := rfl
  rw [u, show (2 * d + 1) / 2 = d by omega, show (2 * d + 1) % 2 = 1 by omega, show 2 * d / 2 = d by omega, show 2 * d % 2 = 0 by omega]
  unfold xse
  by_cases a : xdr h d 0 = c / 4
  · have b : ¬ xdr h d 1 = c / 4 := by omega
    rw [if_neg (fun w => b w.1), if_pos a]
    by_cases k : xcn h i d 0 = true
    · rw [if_pos ⟨a, k⟩, if_pos ⟨by decide, k⟩]; rfl
    · rw [if_neg (fun w => k w.2), if_neg (fun w => k w.2)]
  · by_cases b : xdr h d 1 = c / 4
    · have na : ¬ (xdr h d 0 = c / 4 ∧ xcn h i d 0 = true) := fun w => a w.1
      rw [if_neg na, if_neg a, if_pos b]
      by_cases k : xcn h i d 1 = true
      · have nb : xdr h d 1 = c / 4 ∧ xcn h i d 1 = true := ⟨b, k⟩
        have nc : 1 < 2 ∧ xcn h i d 1 = true := ⟨by decide, k⟩
        rw [if_pos nb, if_pos nc]
      · have nb : ¬ (xdr h d 1 = c / 4 ∧ xcn h i d 1 = true) := fun w => k w.2
        have nc : ¬ (1 < 2 ∧ xcn h i d 1 = true) := fun w => k w.2
        rw [if_neg nb, if_neg nc]
    · have na : ¬ (xdr h d 0 = c / 4 ∧ xcn h i d 0 = true) := fun w => a w.1
      have nb : ¬ (xdr h d 1 = c / 4 ∧ xcn h i d 1 = true) := fun w => b w.1
      have nc : ¬ (2 < 2 ∧ xcn h i d 2 = true) := fun w => absurd w.1 (by decide)
      rw [if_neg na, if_neg nb, if_neg a, if_neg b, if_neg nc]
theorem xvp_0 {h : Nat → Nat} {i r : Nat} {V : Nat → Nat} {c s : Nat} (z : xvp h i r V c s = 0) : ∀ j, xvp h i r V c (s + j) = 0
  | 0 => z
  | j + 1 => by
    have ih := xvp_0 z j
    show xvp h i r V c (s + j + 1) = 0
    simp only [xvp]
    rw [ih]
    split
    · exact Nat.min_zero _
    · rfl
theorem xpr_s (h : Nat → Nat) (i d e l : Nat) (he : e < 2) : xpr h i (2 * d + e) l = xpa h (xTi h i) l (xTr h i) d e := by
  unfold xpr
  rw [show (2 * d + e) / 2 = d by omega, show (2 * d + e) % 2 = e by omega]
section C50
variable {M N : xM} {Q : Option Value → xM → Prop} {S S1 : xA} {h h' : Nat → Nat}
theorem c90 {i r rm la : Nat} (H : cH 9 h M) (W : xWF h) (hi : i < h 2) (K : cK rm (xTr h i) la (xTi h i) M) (hrm : rm < h 0) (hl : la ≤ 3) (hr : r < 8) (P : ∀ s l, s < 2 * h 1 → l < 4 → M 36 (s * 4 + l) = nI (xpr h i s l)) (hQ : ∀ M', xfr 31 38 M M' → M' 34 4 = nI (xch h i (xvn h i r 7) rm la (h 1)).1 → (M' 34 5 = if (xch h i (xvn h i r 7) rm la (h 1)).1 = 1000000 then -1 else nI (xch h i (xvn h i r 7) rm la (h 1)).2) → Q none M') : xW xSC 90 0 [.ref 34, .ref 9, .ref 31, .int (nI r), .null] [] M Q := by
  have h5 := W.1.2.2.2
  have vb := fun n c => (xvn_b W (r := r) (show i < 5 by omega) n c).1
  simp (disch := first | decide | omega) only [s90]
  refine c92_37 hr (fun M2 f3 V0 => ?_)
  simp (disch := first | decide | omega) only [s90, xpush_n]
  have key : ∀ (m k : Nat) (M3 : xM), k + m = 7 → xfr 31 38 M M3 → cK rm (xTr h i) la (xTi h i) M3 → (∀ s l, s < 2 * h 1 → l < 4 → M3 36 (s * 4 + l) = nI (xpr h i s l)) → (∀ c, c < 32 → M3 37 c = nI (xvn h i r k c)) → xW xSC 90 11 [.ref 34, .ref 9, .ref 31, .int (nI r), .int (nI (k + 1))] [] M3 Q := by
    intro m
    induction m with
    | zero =>
      intro k M3 hk f K3 P3 V3
      have hk : k = 7 := hk
      subst hk
      rw [h90_11]
      simp (disch := first | decide | omega) only [s90, nI_lt_f, if_false]
      refine c95 (H.fr f (by omega)) W hi K3 hrm hl P3 V3 (vb 7) (fun M4 g a b => ?_)
      simp (disch := first | decide | omega) only [s90, xpush_n]
      exact hQ M4 (f.tr (fun a q => g a (by omega))) a b
    | succ m ih =>
      intro k M3 hk f K3 P3 V3
      rw [h90_11]
      simp (disch := first | decide | omega) only [s90, nI_lt_t, if_true]
      refine c92_38 hr (fun M4 g4 V8 => ?_)
      simp (disch := first | decide | omega) only [s90, xpush_n]
      have x4 : xfr 38 38 M3 M4 := fun a q => g4 a (by omega)
      refine c93 (r := r) (V := xvn h i r k) (H.fr (f.tr (fun a q => x4 a (by omega))) (by omega)) W hi (K3.fr x4 (by omega)) (fun s l a b => by rw [x4 36 (by omega)]; exact P3 s l a b) (fun c a => by rw [x4 37 (by omega)]; exact V3 c a) (vb k) V8 (fun M5 g5 V9 => ?_)
      simp (disch := first | decide | omega) only [s90, xpush_n]
      have x5 := x4.tr g5
      rw [cCopy (a := 38) (b := 37) (n := 32) rfl rfl (by decide)]
      simp (disch := first | decide | omega) only [s90, xpush_n, nI_add]
      refine ih (k + 1) _ (by omega) (f.tr (fun a q => ?_)) ?_ (fun s l a b => ?_) (fun c hc => ?_)
      · have : a ≠ 37 := by omega
        simp only [xset, if_neg this]
        exact x5 a (by omega)
      · have K5 := K3.fr x5 (by omega)
        exact ⟨by simp only [xset, if_neg (show (31 : Nat) ≠ 37 by decide)]; exact K5.1, by simp only [xset, if_neg (show (31 : Nat) ≠ 37 by decide)]; exact K5.2.1, by simp only [xset, if_neg (show (31 : Nat) ≠ 37 by decide)]; exact K5.2.2.1, fun j hj => by simp only [xset, if_neg (show (32 : Nat) ≠ 37 by decide)]; exact K5.2.2.2 j hj⟩
      · simp only [xset, if_neg (show (36 : Nat) ≠ 37 by decide)]
        rw [x5 36 (by omega)]
        exact P3 s l a b
      · simp only [xset, if_true, xcp, if_pos hc]
        exact V9 c hc
  have x2 : xfr 37 37 M M2 := fun a q => f3 a (by omega)
  exact key 7 0 M2 (by omega) (fun a q => x2 a (by omega)) (K.fr x2 (by omega)) (fun s l a b => by rw [x2 36 (by omega)]; exact P s l a b) V0
theorem r183 {i d q l : Nat} {V : Nat → Nat} (R : rH 1 h N) (W : xWF h) (hi : i < h 2) (hd : d < h 1) (hq : q < 8) (hl : l ≤ 3) (V9 : ∀ c, c < 32 → N 9 c = xvi (V c)) (hV : ∀ c, V c ≤ 1000000 ∧ (V c < 1000000 → V c ≤ 10500)) (hQ : ∀ N', rfr N N' → Q (some (.int (xow h i d q l V))) N') : xW xSR 183 0 [.ref 0, .int (nI i), .int (nI d), .int (nI q), .int (nI l), .null, .null] [] N Q := by
  have h8 := W.1.2.2.1
  have h5 := W.1.2.2.2
  have h00 := W.1.2.1
  obtain ⟨-, w2, -⟩ := W.2.2.1 i hi
  have w2 : xTr h i ≤ 1 := w2
  obtain ⟨x1, x2, -, hw2, -, -, -, -⟩ := W.2.1 d hd
  have x1 : xdr h d 0 < h 0 := x1
  have x2 : xdr h d 1 < h 0 := x2
  have n1 : ((-1 : Int32) < nI 0) = True := by decide
  have sd : (if nI (xdr h d 0) = nI q then nI 0 else if nI (xdr h d 1) = nI q then nI 1 else -1) = xsd h d q := rfl
  have sde := xsd_se (h := h) (k := d) (r := q) (by omega) (by omega) (by omega)
  have le := xse_le h d q
  have r171' := fun (Q : Option Value → xM → Prop) => r171 (M := N) (Q := Q) (d := d) (rr := nI q) R (show d < 8 by omega)
  unfold xow xel at hQ
  by_cases y : xse h d q = 2
  · rw [if_pos y] at sde
    rw [if_neg (fun z => by have := (of_decide_eq_true z).1; omega)] at hQ
    simp (disch := first | decide | omega) only [s183, r171', sd, sde, xpush_s, n1, if_true, h183_24]
    exact hQ N rfr.rf
  · rw [if_neg y] at sde
    have he : xse h d q < 2 := by omega
    have r168' := fun (Q : Option Value → xM → Prop) => r168 (M := N) (Q := Q) (i := i) (d := d) (e := xse h d q) R W hd he hi
    have r161' := fun (Q : Option Value → xM → Prop) => r161 (M := N) (Q := Q) (d := d) (e := xse h d q) R W hd he
    have m1 : N 1 (3 + 6 * d + 1 - xse h d q) = nI (xdr h d (1 - xse h d q)) := R.at _ (by omega) (by omega) (by omega)
    have mt : N 1 (51 + 3 * i + 1) = nI (xTr h i) := R.at _ (by omega) (by omega) (by omega)
    have lt := xto_lt W (show 2 * d + xse h d q < 2 * h 1 by omega)
    have et : 4 * xdr h d (1 - xse h d q) + xw h d (xse h d q) = xto h (2 * d + xse h d q) := by
      unfold xto
      rw [show (2 * d + xse h d q) / 2 = d by omega, show (2 * d + xse h d q) % 2 = xse h d q by omega, Nat.mul_comm]
    have mv := V9 _ lt
    have vb := hV (xto h (2 * d + xse h d q))
    rw [xpr_s h i d _ l he, Nat.add_comm (xpa h (xTi h i) l (xTr h i) d (xse h d q))] at hQ
    by_cases cn : xTr h i = 0 ∨ xw h d (xse h d q) ≠ 1
    · have cn2 : xcn h i d (xse h d q) = true := decide_eq_true cn
      by_cases z : V (xto h (2 * d + xse h d q)) < 1000000
      · rw [if_pos (decide_eq_true ⟨he, cn2, z⟩)] at hQ
        rw [xvi_v (by omega)] at mv
        have r169' : ∀ (N' : xM) (a6 : Int32), xW xSR 169 0 [.ref 0, .int (nI i), .int (nI d), .int (nI (xse h d q)), .int (rli l), .int (nI (xTr h i))] [] N (fun v M' => xW xSR 183 113 [.ref 0, .int (nI i), .int (nI d), .int (nI q), .int (nI l), .int (nI (xse h d q)), .int a6] (xpush v [.int (nI (V (xto h (2 * d + xse h d q))))]) M' Q) := fun N' a6 => by
          refine r169 R W hd he (by omega) hl w2 (fun N2 g _ _ => ?_)
          simp (disch := first | decide | omega) only [s183, xpush_s, nI_add, h183_114]
          exact hQ N2 g
        have r169'' := r169' N
        rcases (show l = 3 ∨ l < 3 by omega) with v | v
        · have e1 : rli l = -4 := by rw [v]; rfl
          rw [e1] at r169''
          rcases (show xTr h i = 0 ∨ xTr h i = 1 by omega) with u | u
          · rw [u] at r169'' mt
            simp (disch := first | decide | omega) only [s183, r171', sd, sde, xpush_s, nI_nneg, if_false, r168', if_pos cn, i12, pk_mul, nI_add, pk_sub, m1, r161', et, mv, nI_eq_t, if_true, h183_88, mt, nI_eq_f, h183_110]
            exact r169'' _
          · rw [u] at r169'' mt
            simp (disch := first | decide | omega) only [s183, r171', sd, sde, xpush_s, nI_nneg, if_false, r168', if_pos cn, i12, pk_mul, nI_add, pk_sub, m1, r161', et, mv, nI_eq_t, if_true, h183_88, mt, h183_110]
            exact r169'' _
        · have e1 : rli l = nI l := by unfold rli; rw [if_neg (by omega)]
          rw [e1] at r169''
          rcases (show xTr h i = 0 ∨ xTr h i = 1 by omega) with u | u
          · rw [u] at r169'' mt
            simp (disch := first | decide | omega) only [s183, r171', sd, sde, xpush_s, nI_nneg, if_false, r168', if_pos cn, i12, pk_mul, nI_add, pk_sub, m1, r161', et, mv, nI_eq_f, h183_88, mt, h183_110]
            exact r169'' _
          · rw [u] at r169'' mt
            simp (disch := first | decide | omega) only [s183, r171', sd, sde, xpush_s, nI_nneg, if_false, r168', if_pos cn, i12, pk_mul, nI_add, pk_sub, m1, r161', et, mv, nI_eq_f, nI_eq_t, if_true, h183_88, mt, h183_110]
            exact r169'' _
      · rw [if_neg (fun w => z (of_decide_eq_true w).2.2)] at hQ
        rw [show V (xto h (2 * d + xse h d q)) = 1000000 by omega, xvi_n] at mv
        simp (disch := first | decide | omega) only [s183, r171', sd, sde, xpush_s, nI_nneg, if_false, r168', if_pos cn, i12, pk_mul, nI_add, pk_sub, m1, r161', et, mv, n1, if_true, h183_114]
        exact hQ N rfr.rf
    · have cn2 : ¬ xcn h i d (xse h d q) = true := fun w => cn (of_decide_eq_true w)
      rw [if_neg (fun w => cn2 (of_decide_eq_true w).2.1)] at hQ
      simp (disch := first | decide | omega) only [s183, r171', sd, sde, xpush_s, nI_nneg, if_false, r168', if_neg cn, i00, if_true, h183_24]
      exact hQ N rfr.rf
/-- one room and last want, one door more -/
theorem r184d {i r w rm la n k : Nat} {V : Nat → Nat} (R : rH 1 h N) (W : xWF h) (hi : i < h 2) (hk : k < 32) (V9 : ∀ c, c < 32 → N 9 c = xvi (V c)) (hV : ∀ c, V c ≤ 1000000 ∧ (V c < 1000000 → V c ≤ 10500)) (hQ : ∀ (N' : xM) (a9 : Int32) (a10 : Value), rfr N N' → xW xSR 184 245 [.ref 0, .int (nI i), .int (nI r), .int (nI w), .int (nI rm), .int (nI la), .int (nI n), .int (nI k), .int (xvi (xvp h i r V k (2 * h 1))), .int a9, a10] [] N' Q) : ∀ (m d : Nat) (N1 : xM) (a10 : Value), d + m = h 1 → rfr N N1 → xW xSR 184 167 [.ref 0, .int (nI i), .int (nI r), .int (nI w), .int (nI rm), .int (nI la), .int (nI n), .int (nI k), .int (xvi (xvp h i r V k (2 * d))), .int (nI d), a10] [] N1 Q := by
  have h8 := W.1.2.2.1
  have h5 := W.1.2.2.2
  have h00 := W.1.2.1
  have n1 : ((-1 : Int32) < nI 0) = True := by decide
  have n2 : ((-1 : Int32) = nI 0) = False := by decide
  intro m
  induction m with
  | zero =>
    intro d N1 a10 hd f
    have hd : d = h 1 := hd
    have m1 : N1 1 1 = nI (h 1) := (R.fr f).at _ rfl (by omega) (by omega)
    have hQ := hQ N1 (nI d) a10 f
    rw [h184_167]
    rw [hd] at hQ ⊢
    simp (disch := first | decide | omega) only [s184, m1, nI_lt_f, if_false]
    exact hQ
  | succ m ih =>
    intro d N1 a10 hd f
    have R1 := R.fr f
    have m1 : N1 1 1 = nI (h 1) := R1.at _ rfl (by omega) (by omega)
    have m0 : N1 1 0 = nI (h 0) := R1.at _ rfl (by omega) (by omega)
    obtain ⟨x1, x2, x3, -, -, -, -, -⟩ := W.2.1 d (by omega)
    have x1 : xdr h d 0 < h 0 := x1
    have x2 : xdr h d 1 < h 0 := x2
    have x3 : xdr h d 0 ≠ xdr h d 1 := x3
    have door := xvp_door (i := i) (r := r) (V := V) (c := k) x3
    obtain ⟨ab, ac⟩ := xvp_b W (r := r) (n := 7) (V := V) (show i < 5 by omega) (fun c => ⟨(hV c).1, fun z => by have := (hV c).2 z; omega⟩) k (2 * d) (by omega)
    have pb := xpr_le W (show i < 5 by omega) (s := 2 * d + xse h d (k / 4)) (l := k % 4)
    have vb := hV (xto h (2 * d + xse h d (k / 4)))
    have se2 := xse_le h d (k / 4)
    by_cases room : k / 4 < h 0
    · by_cases z0 : xvp h i r V k (2 * d) = 0
      · have fin := xvp_0 z0 (2 * h 1 - 2 * d)
        rw [show 2 * d + (2 * h 1 - 2 * d) = 2 * h 1 by omega] at fin
        have hQ := hQ N1 (nI d) a10 f
        rw [fin] at hQ
        rw [h184_167, z0]
        have e0 : xvi 0 = nI 0 := rfl
        rw [e0] at hQ ⊢
        simp (disch := first | decide | omega) only [s184, m1, nI_lt_t, if_true, pk_div, m0, i00]
        exact hQ
      · have zz : (xvi (xvp h i r V k (2 * d)) = nI 0) = False := by
          unfold xvi
          by_cases y : xvp h i r V k (2 * d) = 1000000
          · rw [if_pos y]; exact n2
          · rw [if_neg y]; exact nI_eq_f z0 (by omega) (by decide)
        have ih := fun N2 a10 g => ih (d + 1) N2 a10 (by omega) g
        rw [door] at ih
        rw [h184_167]
        simp (disch := first | decide | omega) only [s184, m1, nI_lt_t, if_true, pk_div, m0, zz, if_false, pk_mul, nmod]
        refine r183 R1 W hi (by omega) (by omega) (by omega) (fun c hc => by rw [f.1 9 (by decide) (by decide) (by decide) (by decide)]; exact V9 c hc) hV (fun N2 g => ?_)
        have keep : (if xse h d (k / 4) < 2 ∧ xcn h i d (xse h d (k / 4)) = true then min (xpr h i (2 * d + xse h d (k / 4)) (k % 4) + V (xto h (2 * d + xse h d (k / 4)))) (xvp h i r V k (2 * d)) else xvp h i r V k (2 * d)) = xvp h i r V k (2 * d) → ∀ x : Int32, xW xSR 184 235 [.ref 0, .int (nI i), .int (nI r), .int (nI w), .int (nI rm), .int (nI la), .int (nI n), .int (nI k), .int (xvi (xvp h i r V k (2 * d))), .int (nI d), .int x] [] N2 Q := fun e x => by
          rw [e] at ih
          simp (disch := first | decide | omega) only [h184_235, s184, h184_237, nI_add]
          exact ih N2 _ (f.tr g)
        unfold xow
        cases el : xel h i d (k / 4) V with
        | false =>
          simp (disch := first | decide | omega) only [s184, xpush_s, Bool.false_eq_true, if_false, n1, if_true]
          refine keep ?_ _
          by_cases q : xse h d (k / 4) < 2 ∧ xcn h i d (xse h d (k / 4)) = true
          · have : ¬ V (xto h (2 * d + xse h d (k / 4))) < 1000000 := fun w => by
              have : xel h i d (k / 4) V = true := decide_eq_true ⟨q.1, q.2, w⟩
              rw [el] at this
              exact absurd this (by decide)
            rw [if_pos q, Nat.min_eq_right (by omega)]
          · rw [if_neg q]
        | true =>
          have q := of_decide_eq_true el
          have pb := pb (by omega)
          have take : xpr h i (2 * d + xse h d (k / 4)) (k % 4) + V (xto h (2 * d + xse h d (k / 4))) ≤ xvp h i r V k (2 * d) → xW xSR 184 230 [.ref 0, .int (nI i), .int (nI r), .int (nI w), .int (nI rm), .int (nI la), .int (nI n), .int (nI k), .int (xvi (xvp h i r V k (2 * d))), .int (nI d), .int (nI (xpr h i (2 * d + xse h d (k / 4)) (k % 4) + V (xto h (2 * d + xse h d (k / 4)))))] [] N2 Q := fun e => by
            rw [if_pos ⟨q.1, q.2.1⟩, Nat.min_eq_left e, xvi_v (by omega)] at ih
            simp (disch := first | decide | omega) only [h184_230, s184, h184_237, nI_add]
            exact ih N2 _ (f.tr g)
          by_cases y : xvp h i r V k (2 * d) = 1000000
          · have take := take (by omega)
            rw [y, xvi_n] at take ⊢
            simp (disch := first | decide | omega) only [s184, xpush_s, if_true, nI_nneg, if_false, n1]
            exact take
          · by_cases u : xpr h i (2 * d + xse h d (k / 4)) (k % 4) + V (xto h (2 * d + xse h d (k / 4))) < xvp h i r V k (2 * d)
            · have take := take (by omega)
              rw [xvi_v y] at take ⊢
              simp (disch := first | decide | omega) only [s184, xpush_s, if_true, nI_nneg, if_false, nI_lt_t]
              exact take
            · have keep := keep (by rw [if_pos ⟨q.1, q.2.1⟩, Nat.min_eq_right (by omega)])
              rw [xvi_v y] at keep ⊢
              simp (disch := first | decide | omega) only [s184, xpush_s, if_true, nI_nneg, if_false, nI_lt_f]
              exact keep _
    · have st : ∀ j, d + j ≤ h 1 → xvp h i r V k (2 * (d + j)) = xvp h i r V k (2 * d) := fun j => by
        induction j with
        | zero => intro _; rfl
        | succ j jh =>
          intro hj
          obtain ⟨y1, y2, y3, -, -, -, -, -⟩ := W.2.1 (d + j) (by omega)
          have y1 : xdr h (d + j) 0 < h 0 := y1
          have y2 : xdr h (d + j) 1 < h 0 := y2
          have y3 : xdr h (d + j) 0 ≠ xdr h (d + j) 1 := y3
          have s2 : xse h (d + j) (k / 4) = 2 := by
            unfold xse
            rw [if_neg (by omega), if_neg (by omega)]
          have := xvp_door (i := i) (r := r) (V := V) (c := k) y3
          rw [s2, if_neg (fun w => absurd w.1 (by decide))] at this
          rw [← jh (by omega)]
          exact this
      have fin := st (h 1 - d) (by omega)
      rw [show d + (h 1 - d) = h 1 by omega] at fin
      have hQ := hQ N1 (nI d) a10 f
      rw [fin] at hQ
      rw [h184_167]
      simp (disch := first | decide | omega) only [s184, m1, nI_lt_t, nI_lt_f, if_true, if_false, pk_div, m0]
      exact hQ
end C50
