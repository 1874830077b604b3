/-! items of a text -/
def xz0 : Nat → Nat := fun _ => 0
def xad (h : Nat → Nat) (a b w l : Nat) : Nat → Nat := hset (hset (hset (hset (hset h (3 + (h 1 * 6 + 0)) a) (3 + (h 1 * 6 + 1)) b) (3 + (h 1 * 6 + 2)) w) (3 + (h 1 * 6 + 3)) l) 1 (h 1 + 1)
def xap (h : Nat → Nat) (a b : Nat) : Nat → Nat := hset (hset (hset h (51 + (h 2 * 3 + 0)) a) (51 + (h 2 * 3 + 1)) b) 2 (h 2 + 1)
def xds (h f : Nat → Nat) : Nat → Nat := fun j => if 146 ≤ j ∧ j < 152 then f (j - 146) else h j
def okR (o : Bool) (f : Nat → Nat) : Bool := decide (o = false ∧ 2 ≤ f 0 ∧ f 0 ≤ 8)
def okD (h f : Nat → Nat) : Bool := decide (h 1 < 8 ∧ f 0 < h 0 ∧ f 1 < h 0 ∧ f 0 ≠ f 1 ∧ f 2 ≤ 2 ∧ 1 ≤ f 3 ∧ f 3 ≤ 2)
def okS (h f : Nat → Nat) : Bool := decide (f 0 < h 1 ∧ f 1 ≤ 1 ∧ f 2 ≤ 63)
def okW (f : Nat → Nat) : Bool := decide (f 0 ≤ 20 ∧ f 1 ≤ 20 ∧ f 2 ≤ 20 ∧ f 3 ≤ 20 ∧ f 4 ≤ 20 ∧ f 5 ≤ 20)
def okC (f : Nat → Nat) : Bool := decide (f 0 ≤ 3 ∧ f 1 ≤ 20)
def okP (h f : Nat → Nat) : Bool := decide (h 2 < 5 ∧ f 0 < h 0 ∧ f 1 ≤ 1)
/-- an item told by its letter c, its numbers from p on -/
def xit (T : Nat → Nat) (n : Nat) (h : Nat → Nat) (o : Bool) (p c : Nat) : Option ((Nat → Nat) × Nat) :=
  if c = 114 then (xns T n 1 0 p xz0).bind (fun r => if okR o r.1 = true then some (hset h 0 (r.1 0), r.2) else none)
  else if c = 100 then (xns T n 4 0 p xz0).bind (fun r => if okD h r.1 = true then some (xad h (r.1 0) (r.1 1) (r.1 2) (r.1 3), r.2) else none)
  else if c = 115 then (xns T n 3 0 p xz0).bind (fun r => if okS h r.1 = true then some (hset h (3 + (r.1 0 * 6 + (4 + r.1 1))) (r.1 2), r.2) else none)
  else if c = 119 then (xns T n 6 0 p xz0).bind (fun r => if okW r.1 = true then some (xds h r.1, r.2) else none)
  else if c = 99 then (xns T n 2 0 p xz0).bind (fun r => if okC r.1 = true then some (hset h (146 + (6 + r.1 0)) (r.1 1), r.2) else none)
  else if c = 112 then (xns T n 2 0 p xz0).bind (fun r => if okP h r.1 = true then some (xap h (r.1 0) (r.1 1), r.2) else none)
  else none
/-- a house while it is told: nothing beyond what is told -/
def xTl (h : Nat → Nat) (o : Bool) : Prop := xWF h ∧ (∀ j, 6 * h 1 ≤ j → j < 48 → h (3 + j) = 0) ∧ (∀ i, i < 5 → h (51 + (i * 3 + 2)) = 3) ∧ (∀ j, j < 80 → h (66 + j) = 0) ∧ (o = false → h 1 = 0 ∧ h 2 = 0)
theorem xns_b {T : Nat → Nat} {n : Nat} : ∀ (m k p : Nat) (f g : Nat → Nat) (z : Nat), xns T n m k p f = some (g, z) → p ≤ n → (∀ j, j < k → f j ≤ 99) → (∀ j, j < k + m → g j ≤ 99) ∧ p ≤ z ∧ z ≤ n ∧ (1 ≤ m → p < z)
  | 0, k, p, f, g, z, h, hp, hf => by
    simp only [xns, Option.some.injEq, Prod.mk.injEq] at h
    obtain ⟨h1, h2⟩ := h
    subst h1
    subst h2
    exact ⟨fun j hj => hf j (by omega), Nat.le_refl p, hp, fun w => by omega⟩
  | m + 1, k, p, f, g, z, h, hp, hf => by
    simp only [xns] at h
    cases e : xnm T n p (if m = 0 then 59 else 44) with
    | none => rw [e] at h; cases h
    | some r =>
      obtain ⟨v, q⟩ := r
      rw [e] at h
      simp only [Option.bind_some] at h
      obtain ⟨b1, b2, b3⟩ := xnm_b e
      obtain ⟨c1, c2, c3, c4⟩ := xns_b m (k + 1) q (fun j => if j = k then v else f j) g z h b3 (fun j hj => by
        by_cases w : j = k
        · simp only [if_pos w]; exact b1
        · simp only [if_neg w]; exact hf j (by omega))
      exact ⟨fun j hj => c1 j (by omega), by omega, c3, fun _ => by omega⟩
theorem xpl_T : xTl xpl false := by
  have e : ∀ j, j < 48 → xpl (3 + j) = 0 := fun j hj => by
    unfold xpl
    rw [if_neg (by omega), if_neg (by omega), if_neg (by omega), if_neg (by omega), if_neg (by omega), if_neg (by omega), if_neg (by omega)]
  have t : ∀ j, j < 80 → xpl (66 + j) = 0 := fun j hj => by
    unfold xpl
    rw [if_neg (by omega), if_neg (by omega), if_neg (by omega), if_neg (by omega), if_neg (by omega), if_neg (by omega), if_neg (by omega)]
  have e1 : xpl 1 = 0 := rfl
  have e2 : xpl 2 = 0 := rfl
  have e0 : xpl 0 = 3 := rfl
  refine ⟨⟨⟨by omega, by omega, by omega, by omega⟩, fun d hd => by omega, fun i hi => by omega, fun j hj => by rw [t j hj]; omega, ?_⟩, fun j _ hj => e j hj, ?_, t, fun _ => ⟨rfl, rfl⟩⟩
  · decide
  · decide
section C54
variable {M N : xM} {Q : Option Value → xM → Prop} {T : Nat → Nat} {n : Nat} {h : Nat → Nat} {o : Bool}
theorem xTl.do (I : xTl h o) {j v : Nat} (hj : j < 10) (hv : v ≤ 20) {o' : Bool} (ho : o' = false → o = false) : xTl (hset h (146 + j) v) o' := by
  obtain ⟨W, z, l, t, q⟩ := I
  have e : ∀ k, k ≠ 146 + j → hset h (146 + j) v k = h k := fun k w => by unfold hset; rw [if_neg w]
  obtain ⟨⟨a1, a2, a3, a4⟩, b, c1, c2, c3⟩ := W
  refine ⟨⟨⟨by rw [e 0 (by omega)]; exact a1, by rw [e 0 (by omega)]; exact a2, by rw [e 1 (by omega)]; exact a3, by rw [e 2 (by omega)]; exact a4⟩, fun d' hd' => ?_, fun i hi => ?_, fun k hk => by rw [e _ (by omega)]; exact c2 k hk, fun k hk => ?_⟩, fun k w hk => ?_, fun i hi => by rw [e _ (by omega)]; exact l i hi, fun k hk => by rw [e _ (by omega)]; exact t k hk, fun w => ?_⟩
  · rw [e 1 (by omega)] at hd'
    rw [e (3 + (d' * 6 + 0)) (by omega), e (3 + (d' * 6 + 1)) (by omega), e (3 + (d' * 6 + 2)) (by omega), e (3 + (d' * 6 + 3)) (by omega), e (3 + (d' * 6 + (4 + 0))) (by omega), e (3 + (d' * 6 + (4 + 1))) (by omega), e 0 (by omega)]
    exact b d' hd'
  · rw [e 2 (by omega)] at hi
    rw [e (51 + (i * 3 + 0)) (by omega), e (51 + (i * 3 + 1)) (by omega), e (51 + (i * 3 + 2)) (by omega), e 0 (by omega)]
    exact c1 i hi
  · unfold hset
    by_cases w : 146 + k = 146 + j
    · rw [if_pos w]; exact hv
    · rw [if_neg w]; exact c3 k hk
  · rw [e 1 (by omega)] at w
    rw [e _ (by omega)]
    exact z k w hk
  · rw [e 1 (by omega), e 2 (by omega)]
    exact q (ho w)
theorem xTl.dos (I : xTl h o) {f : Nat → Nat} (hf : okW f = true) {o' : Bool} (ho : o' = false → o = false) : xTl (xds h f) o' := by
  obtain ⟨W, z, l, t, q⟩ := I
  have e : ∀ k, k < 146 → xds h f k = h k := fun k w => by unfold xds; rw [if_neg (by omega)]
  obtain ⟨⟨a1, a2, a3, a4⟩, b, c1, c2, c3⟩ := W
  refine ⟨⟨⟨by rw [e 0 (by omega)]; exact a1, by rw [e 0 (by omega)]; exact a2, by rw [e 1 (by omega)]; exact a3, by rw [e 2 (by omega)]; exact a4⟩, fun d' hd' => ?_, fun i hi => ?_, fun k hk => by rw [e _ (by omega)]; exact c2 k hk, fun k hk => ?_⟩, fun k w hk => ?_, fun i hi => by rw [e _ (by omega)]; exact l i hi, fun k hk => by rw [e _ (by omega)]; exact t k hk, fun w => ?_⟩
  · rw [e 1 (by omega)] at hd'
    rw [e (3 + (d' * 6 + 0)) (by omega), e (3 + (d' * 6 + 1)) (by omega), e (3 + (d' * 6 + 2)) (by omega), e (3 + (d' * 6 + 3)) (by omega), e (3 + (d' * 6 + (4 + 0))) (by omega), e (3 + (d' * 6 + (4 + 1))) (by omega), e 0 (by omega)]
    exact b d' hd'
  · rw [e 2 (by omega)] at hi
    rw [e (51 + (i * 3 + 0)) (by omega), e (51 + (i * 3 + 1)) (by omega), e (51 + (i * 3 + 2)) (by omega), e 0 (by omega)]
    exact c1 i hi
  · unfold xds
    by_cases w : 146 ≤ 146 + k ∧ 146 + k < 152
    · rw [if_pos w, show 146 + k - 146 = k by omega]
      have hf := of_decide_eq_true hf
      rcases (show k = 0 ∨ k = 1 ∨ k = 2 ∨ k = 3 ∨ k = 4 ∨ k = 5 by omega) with y | y | y | y | y | y <;> rw [y] <;> omega
    · rw [if_neg w]; exact c3 k hk
  · rw [e 1 (by omega)] at w
    rw [e _ (by omega)]
    exact z k w hk
  · rw [e 1 (by omega), e 2 (by omega)]
    exact q (ho w)
theorem xTl.sign (I : xTl h o) {d x v : Nat} (hd : d < h 1) (hx : x ≤ 1) (hv : v ≤ 63) : xTl (hset h (3 + (d * 6 + (4 + x))) v) true := by
  obtain ⟨W, z, l, t, q⟩ := I
  have h8 := W.1.2.2.1
  have e : ∀ k, k ≠ 3 + (d * 6 + (4 + x)) → hset h (3 + (d * 6 + (4 + x))) v k = h k := fun k w => by unfold hset; rw [if_neg w]
  refine ⟨W.sign (by omega) (by omega) (by omega), fun k w hk => ?_, fun i hi => by rw [e _ (by omega)]; exact l i hi, fun k hk => by rw [e _ (by omega)]; exact t k hk, fun w => absurd w (by decide)⟩
  rw [e 1 (by omega)] at w
  rw [e _ (by omega)]
  exact z k w hk
theorem xTl.rooms (I : xTl h false) {v : Nat} (h2 : 2 ≤ v) (h8 : v ≤ 8) : xTl (hset h 0 v) false := by
  obtain ⟨W, z, l, t, q⟩ := I
  obtain ⟨q1, q2⟩ := q rfl
  have e : ∀ k, k ≠ 0 → hset h 0 v k = h k := fun k w => by unfold hset; rw [if_neg w]
  have e0 : hset h 0 v 0 = v := by unfold hset; rw [if_pos rfl]
  obtain ⟨⟨a1, a2, a3, a4⟩, b, c1, c2, c3⟩ := W
  refine ⟨⟨⟨by rw [e0]; exact h2, by rw [e0]; exact h8, by rw [e 1 (by omega)]; exact a3, by rw [e 2 (by omega)]; exact a4⟩, fun d' hd' => ?_, fun i hi => ?_, fun k hk => by rw [e _ (by omega)]; exact c2 k hk, fun k hk => by rw [e _ (by omega)]; exact c3 k hk⟩, fun k w hk => ?_, fun i hi => by rw [e _ (by omega)]; exact l i hi, fun k hk => by rw [e _ (by omega)]; exact t k hk, fun _ => ⟨by rw [e 1 (by omega)]; exact q1, by rw [e 2 (by omega)]; exact q2⟩⟩
  · rw [e 1 (by omega)] at hd'; omega
  · rw [e 2 (by omega)] at hi; omega
  · rw [e 1 (by omega)] at w
    rw [e _ (by omega)]
    exact z k w hk
theorem xad_v (h : Nat → Nat) (a b w l : Nat) (h8 : h 1 < 8) : (∀ k, k ≠ 1 → (k < 3 + h 1 * 6 ∨ 3 + (h 1 * 6 + 3) < k) → xad h a b w l k = h k) ∧ xad h a b w l 1 = h 1 + 1 ∧ xad h a b w l (3 + (h 1 * 6 + 0)) = a ∧ xad h a b w l (3 + (h 1 * 6 + 1)) = b ∧ xad h a b w l (3 + (h 1 * 6 + 2)) = w ∧ xad h a b w l (3 + (h 1 * 6 + 3)) = l := by
  unfold xad
  refine ⟨fun k q1 q2 => ?_, ?_, ?_, ?_, ?_, ?_⟩
  · simp only [hset]
    rw [if_neg q1, if_neg (by omega), if_neg (by omega), if_neg (by omega), if_neg (by omega)]
  · simp only [hset]; rw [if_pos trivial]
  · simp only [hset]
    rw [if_neg (by omega), if_neg (by omega), if_neg (by omega), if_neg (by omega), if_pos trivial]
  · simp only [hset]
    rw [if_neg (by omega), if_neg (by omega), if_neg (by omega), if_pos trivial]
  · simp only [hset]
    rw [if_neg (by omega), if_neg (by omega), if_pos trivial]
  · simp only [hset]
    rw [if_neg (by omega), if_pos trivial]
theorem xTl.add (I : xTl h o) {f : Nat → Nat} (hf : okD h f = true) : xTl (xad h (f 0) (f 1) (f 2) (f 3)) true := by
  obtain ⟨W, z, l, t, q⟩ := I
  obtain ⟨f1, f2, f3, f4, f5, f6, f7⟩ := of_decide_eq_true hf
  obtain ⟨e, e1, v0, v1, v2, v3⟩ := xad_v h (f 0) (f 1) (f 2) (f 3) f1
  obtain ⟨⟨a1, a2, a3, a4⟩, b, c1, c2, c3⟩ := W
  refine ⟨⟨⟨by rw [e 0 (by omega) (by omega)]; exact a1, by rw [e 0 (by omega) (by omega)]; exact a2, by rw [e1]; omega, by rw [e 2 (by omega) (by omega)]; exact a4⟩, fun d' hd' => ?_, fun i hi => ?_, fun k hk => by rw [e _ (by omega) (by omega)]; exact c2 k hk, fun k hk => by rw [e _ (by omega) (by omega)]; exact c3 k hk⟩, fun k w hk => ?_, fun i hi => by rw [e _ (by omega) (by omega)]; exact l i hi, fun k hk => by rw [e _ (by omega) (by omega)]; exact t k hk, fun w => absurd w (by decide)⟩
  · rw [e1] at hd'
    rw [e 0 (by omega) (by omega)]
    by_cases y : d' = h 1
    · subst y
      rw [v0, v1, v2, v3, e _ (by omega) (by omega), e _ (by omega) (by omega)]
      have z4 := z (h 1 * 6 + (4 + 0)) (by omega) (by omega)
      have z5 := z (h 1 * 6 + (4 + 1)) (by omega) (by omega)
      omega
    · rw [e (3 + (d' * 6 + 0)) (by omega) (by omega), e (3 + (d' * 6 + 1)) (by omega) (by omega), e (3 + (d' * 6 + 2)) (by omega) (by omega), e (3 + (d' * 6 + 3)) (by omega) (by omega), e (3 + (d' * 6 + (4 + 0))) (by omega) (by omega), e (3 + (d' * 6 + (4 + 1))) (by omega) (by omega)]
      exact b d' (by omega)
  · rw [e 2 (by omega) (by omega)] at hi
    rw [e (51 + (i * 3 + 0)) (by omega) (by omega), e (51 + (i * 3 + 1)) (by omega) (by omega), e (51 + (i * 3 + 2)) (by omega) (by omega), e 0 (by omega) (by omega)]
    exact c1 i hi
  · rw [e1] at w
    rw [e _ (by omega) (by omega)]
    exact z k (by omega) hk
theorem xap_v (h : Nat → Nat) (a b : Nat) (h5 : h 2 < 5) : (∀ k, k ≠ 2 → k ≠ 51 + (h 2 * 3 + 0) → k ≠ 51 + (h 2 * 3 + 1) → xap h a b k = h k) ∧ xap h a b 2 = h 2 + 1 ∧ xap h a b (51 + (h 2 * 3 + 0)) = a ∧ xap h a b (51 + (h 2 * 3 + 1)) = b := by
  unfold xap
  refine ⟨fun k q1 q2 q3 => ?_, ?_, ?_, ?_⟩
  · simp only [hset]
    rw [if_neg q1, if_neg q3, if_neg q2]
  · simp only [hset]; rw [if_pos trivial]
  · simp only [hset]
    rw [if_neg (by omega), if_neg (by omega), if_pos trivial]
  · simp only [hset]
    rw [if_neg (by omega), if_pos trivial]
theorem xTl.person (I : xTl h o) {f : Nat → Nat} (hf : okP h f = true) : xTl (xap h (f 0) (f 1)) true := by
  obtain ⟨W, z, l, t, q⟩ := I
  obtain ⟨f1, f2, f3⟩ := of_decide_eq_true hf
  obtain ⟨e, e1, v0, v1⟩ := xap_v h (f 0) (f 1) f1
  obtain ⟨⟨a1, a2, a3, a4⟩, b, c1, c2, c3⟩ := W
  refine ⟨⟨⟨by rw [e 0 (by omega) (by omega) (by omega)]; exact a1, by rw [e 0 (by omega) (by omega) (by omega)]; exact a2, by rw [e 1 (by omega) (by omega) (by omega)]; exact a3, by rw [e1]; omega⟩, fun d' hd' => ?_, fun i hi => ?_, fun k hk => by rw [e _ (by omega) (by omega) (by omega)]; exact c2 k hk, fun k hk => by rw [e _ (by omega) (by omega) (by omega)]; exact c3 k hk⟩, fun k w hk => ?_, fun i hi => by rw [e _ (by omega) (by omega) (by omega)]; exact l i hi, fun k hk => by rw [e _ (by omega) (by omega) (by omega)]; exact t k hk, fun w => absurd w (by decide)⟩
  · rw [e 1 (by omega) (by omega) (by omega)] at hd'
    rw [e (3 + (d' * 6 + 0)) (by omega) (by omega) (by omega), e (3 + (d' * 6 + 1)) (by omega) (by omega) (by omega), e (3 + (d' * 6 + 2)) (by omega) (by omega) (by omega), e (3 + (d' * 6 + 3)) (by omega) (by omega) (by omega), e (3 + (d' * 6 + (4 + 0))) (by omega) (by omega) (by omega), e (3 + (d' * 6 + (4 + 1))) (by omega) (by omega) (by omega), e 0 (by omega) (by omega) (by omega)]
    exact b d' hd'
  · rw [e1] at hi
    rw [e 0 (by omega) (by omega) (by omega)]
    by_cases y : i = h 2
    · subst y
      rw [v0, v1, e _ (by omega) (by omega) (by omega)]
      have := l (h 2) (by omega)
      omega
    · rw [e (51 + (i * 3 + 0)) (by omega) (by omega) (by omega), e (51 + (i * 3 + 1)) (by omega) (by omega) (by omega), e (51 + (i * 3 + 2)) (by omega) (by omega) (by omega)]
      exact c1 i (by omega)
  · rw [e 1 (by omega) (by omega) (by omega)] at w
    rw [e _ (by omega) (by omega) (by omega)]
    exact z k w hk
theorem xit_T {p c z : Nat} {h' : Nat → Nat} (I : xTl h o) (hp : p ≤ n) (e : xit T n h o p c = some (h', z)) : xTl h' (o || decide (c ≠ 114)) ∧ p < z ∧ z ≤ n := by
  unfold xit at e
  have key : ∀ (m : Nat) (F : (Nat → Nat) × Nat → Option ((Nat → Nat) × Nat)), 1 ≤ m → (xns T n m 0 p xz0).bind F = some (h', z) → ∃ g zz, F (g, zz) = some (h', z) ∧ p < zz ∧ zz ≤ n := fun m F hm w => by
    cases y : xns T n m 0 p xz0 with
    | none => rw [y] at w; cases w
    | some r =>
      obtain ⟨g, zz⟩ := r
      rw [y] at w
      obtain ⟨-, b2, b3, b4⟩ := xns_b m 0 p xz0 g zz y hp (fun j hj => absurd hj (by omega))
      exact ⟨g, zz, w, b4 hm, b3⟩
  have ot : c ≠ 114 → (o || decide (c ≠ 114)) = true := fun w => by rw [decide_eq_true w, Bool.or_true]
  by_cases c1 : c = 114
  · rw [if_pos c1] at e
    obtain ⟨g, zz, k, b2, b3⟩ := key _ _ (by omega) e
    by_cases y : okR o g = true
    · rw [if_pos y] at k
      simp only [Option.some.injEq, Prod.mk.injEq] at k
      obtain ⟨y1, y2, y3⟩ := of_decide_eq_true y
      obtain ⟨k1, k2⟩ := k
      subst k1
      subst k2
      subst y1
      rw [c1]
      exact ⟨I.rooms y2 y3, b2, b3⟩
    · rw [if_neg y] at k; cases k
  · rw [if_neg c1] at e
    rw [ot c1]
    by_cases c2 : c = 100
    · rw [if_pos c2] at e
      obtain ⟨g, zz, k, b2, b3⟩ := key _ _ (by omega) e
      by_cases y : okD h g = true
      · rw [if_pos y] at k
        simp only [Option.some.injEq, Prod.mk.injEq] at k
        obtain ⟨k1, k2⟩ := k
        subst k1
        subst k2
        exact ⟨I.add y, b2, b3⟩
      · rw [if_neg y] at k; cases k
    · rw [if_neg c2] at e
      by_cases c3 : c = 115
      · rw [if_pos c3] at e
        obtain ⟨g, zz, k, b2, b3⟩ := key _ _ (by omega) e
        by_cases y : okS h g = true
        · rw [if_pos y] at k
          simp only [Option.some.injEq, Prod.mk.injEq] at k
          obtain ⟨y1, y2, y3⟩ := of_decide_eq_true y
          obtain ⟨k1, k2⟩ := k
          subst k1
          subst k2
          exact ⟨I.sign y1 y2 y3, b2, b3⟩
        · rw [if_neg y] at k; cases k
      · rw [if_neg c3] at e
        by_cases c4 : c = 119
        · rw [if_pos c4] at e
          obtain ⟨g, zz, k, b2, b3⟩ := key _ _ (by omega) e
          by_cases y : okW g = true
          · rw [if_pos y] at k
            simp only [Option.some.injEq, Prod.mk.injEq] at k
            obtain ⟨k1, k2⟩ := k
            subst k1
            subst k2
            exact ⟨I.dos y (fun w => absurd w (by decide)), b2, b3⟩
          · rw [if_neg y] at k; cases k
        · rw [if_neg c4] at e
          by_cases c5 : c = 99
          · rw [if_pos c5] at e
            obtain ⟨g, zz, k, b2, b3⟩ := key _ _ (by omega) e
            by_cases y : okC g = true
            · rw [if_pos y] at k
              simp only [Option.some.injEq, Prod.mk.injEq] at k
              obtain ⟨y1, y2⟩ := of_decide_eq_true y
              obtain ⟨k1, k2⟩ := k
              subst k1
              subst k2
              exact ⟨I.do (by omega) y2 (fun w => absurd w (by decide)), b2, b3⟩
            · rw [if_neg y] at k; cases k
          · rw [if_neg c5] at e
            by_cases c6 : c = 112
            · rw [if_pos c6] at e
              obtain ⟨g, zz, k, b2, b3⟩ := key _ _ (by omega) e
              by_cases y : okP h g = true
              · rw [if_pos y] at k
                simp only [Option.some.injEq, Prod.mk.injEq] at k
                obtain ⟨k1, k2⟩ := k
                subst k1
                subst k2
                exact ⟨I.person y, b2, b3⟩
              · rw [if_neg y] at k; cases k
            · rw [if_neg c6] at e
              cases e
end C54
