/-! which doors to hang the other way -/
def xop (h : Nat → Nat) (d : Nat) : Nat := h (3 + (d * 6 + 2))
def xtn (h : Nat → Nat) (d : Nat) : Nat := if xop h d < 2 ∧ xpt h d (1 - xop h d) 63 < xpt h d (xop h d) 63 then 1 else 0
def xcd (h : Nat → Nat) (d b : Nat) : Nat := if b = 1 then xpt h d (1 - xop h d) 63 else xpt h d (xop h d) 63
/-- bits to a set -/
def xbts (f : Nat → Nat) : Nat → Nat
  | 0 => 0
  | k + 1 => xbts f k + f k * 2 ^ k
def xhp (h : Nat → Nat) : Nat → Nat
  | 0 => 0
  | k + 1 => xhp h k + xcd h k (xtn h k)
def xhn (h : Nat → Nat) : Nat → Nat
  | 0 => 0
  | k + 1 => xhn h k + xtn h k
def xhT (h : Nat → Nat) (s : Nat) : Nat → Nat
  | 0 => 0
  | k + 1 => xhT h s k + xcd h k (xbs s k)
def mny (s : Nat) : Nat → Nat
  | 0 => 0
  | k + 1 => mny s k + xbs s k
theorem bitadd : ∀ k, k < 8 → ∀ a, a < 2 ^ k → (∀ d, d < k → xbs (a + 2 ^ k) d = xbs a d) ∧ xbs (a + 2 ^ k) k = 1 ∧ xbs a k = 0 := by decide +kernel
theorem bitor : ∀ k, k < 8 → ∀ a, a < 2 ^ k → nI a ||| (nI 1 <<< (nI k &&& nI 31)) = nI (a + 2 ^ k) := by decide +kernel
theorem popc : ∀ s, s < 256 → s ≠ 0 → nI s &&& (nI s - nI 1) = nI (s &&& (s - 1)) ∧ mny (s &&& (s - 1)) 8 + 1 = mny s 8 ∧ s &&& (s - 1) < s := by decide +kernel
theorem suband : ∀ s, s < 256 → ∀ m, m < 256 → (nI s &&& (nI m ^^^ (-1)) = nI 0 ↔ s &&& m = s) := by decide +kernel
theorem xtn_le (h : Nat → Nat) (d : Nat) : xtn h d ≤ 1 := by
  unfold xtn
  split <;> omega
theorem xbts_lt {f : Nat → Nat} (hf : ∀ d, f d ≤ 1) : ∀ k, xbts f k < 2 ^ k
  | 0 => by simp [xbts]
  | k + 1 => by
    have a := xbts_lt hf k
    have b : f k * 2 ^ k ≤ 1 * 2 ^ k := Nat.mul_le_mul_right _ (hf k)
    simp only [xbts]
    rw [Nat.pow_succ]
    omega
theorem xbts_bit {f : Nat → Nat} (hf : ∀ d, f d ≤ 1) : ∀ k, k ≤ 8 → ∀ d, d < k → xbs (xbts f k) d = f d
  | 0, _, d, hd => absurd hd (by omega)
  | k + 1, hk, d, hd => by
    have lt := xbts_lt hf k
    obtain ⟨b1, b2, b3⟩ := bitadd k (by omega) _ lt
    simp only [xbts]
    have ih := fun hd => xbts_bit hf k (by omega) d hd
    have fk := hf k
    rcases (show f k = 0 ∨ f k = 1 by omega) with z | z
    · rw [z, Nat.zero_mul, Nat.add_zero]
      by_cases q : d = k
      · rw [q, z]; exact b3
      · exact ih (by omega)
    · rw [z, Nat.one_mul]
      by_cases q : d = k
      · rw [q, z]; exact b2
      · rw [b1 d (by omega)]; exact ih (by omega)
theorem tb_xbs (x i : Nat) : Nat.testBit x i = decide (xbs x i = 1) := Nat.testBit_eq_decide_div_mod_eq
theorem tb_hi {s k i : Nat} (h : s < 2 ^ k) (q : k ≤ i) : Nat.testBit s i = false := Nat.testBit_lt_two_pow (Nat.lt_of_lt_of_le h (Nat.pow_le_pow_right (by decide) q))
theorem set_eq {a b k : Nat} (ha : a < 2 ^ k) (hb : b < 2 ^ k) (q : ∀ d, d < k → xbs a d = xbs b d) : a = b := Nat.eq_of_testBit_eq (fun i => by
  by_cases z : i < k
  · rw [tb_xbs, tb_xbs, q i z]
  · rw [tb_hi ha (by omega), tb_hi hb (by omega)])
theorem sub_bit {s m d : Nat} (q : s &&& m = s) (z : xbs s d = 1) : xbs m d = 1 := by
  have e := congrArg (fun x => Nat.testBit x d) q
  have e : Nat.testBit (s &&& m) d = Nat.testBit s d := e
  rw [Nat.testBit_and, tb_xbs, tb_xbs, decide_eq_true z, Bool.true_and] at e
  exact of_decide_eq_true e
theorem sub_of {s m k : Nat} (hs : s < 2 ^ k) (q : ∀ d, d < k → xbs s d = 1 → xbs m d = 1) : s &&& m = s := Nat.eq_of_testBit_eq (fun i => by
  rw [Nat.testBit_and]
  by_cases z : i < k
  · rw [tb_xbs, tb_xbs]
    by_cases y : xbs s i = 1
    · rw [decide_eq_true y, decide_eq_true (q i z y)]; rfl
    · rw [decide_eq_false y]; rfl
  · rw [tb_hi hs (by omega)]; rfl)
theorem mny_ext {s n : Nat} (hs : s < 2 ^ n) : ∀ j, mny s (n + j) = mny s n
  | 0 => rfl
  | j + 1 => by
    have e : xbs s (n + j) = 0 := by
      unfold xbs
      rw [Nat.div_eq_of_lt (Nat.lt_of_lt_of_le hs (Nat.pow_le_pow_right (by decide) (by omega)))]
    show mny s (n + j) + xbs s (n + j) = mny s n
    rw [e, mny_ext hs j, Nat.add_zero]
theorem mny_8 {s n : Nat} (hn : n ≤ 8) (hs : s < 2 ^ n) : mny s 8 = mny s n := by
  have := mny_ext hs (8 - n)
  rw [show n + (8 - n) = 8 by omega] at this
  exact this
theorem mny_le (s : Nat) : ∀ k, mny s k ≤ k
  | 0 => Nat.le_refl 0
  | k + 1 => by
    have := mny_le s k
    have := xbs01 s k
    simp only [mny]
    omega
theorem own_sums {h : Nat → Nat} {n : Nat} (hn : n ≤ 8) : ∀ k, k ≤ n → xhT h (xbts (xtn h) n) k = xhp h k ∧ mny (xbts (xtn h) n) k = xhn h k
  | 0, _ => ⟨rfl, rfl⟩
  | k + 1, hk => by
    obtain ⟨a, b⟩ := own_sums (h := h) hn k (by omega)
    have c := xbts_bit (xtn_le h) n hn k (by omega)
    simp only [xhT, xhp, mny, xhn]
    rw [a, b, c]
    exact ⟨rfl, rfl⟩
/-- the class's set is the best, and the only best one -/
theorem own_best {h : Nat → Nat} {s : Nat} : ∀ k, (∀ d, d < k → xbs s d = 1 → xop h d < 2) → 16 * xhp h k + xhn h k ≤ 16 * xhT h s k + mny s k ∧ (16 * xhp h k + xhn h k = 16 * xhT h s k + mny s k → ∀ d, d < k → xbs s d = xtn h d)
  | 0, _ => ⟨Nat.le_refl _, fun _ d hd => absurd hd (by omega)⟩
  | k + 1, q => by
    obtain ⟨a, b⟩ := own_best (h := h) (s := s) k (fun d hd => q d (by omega))
    have q := q k (by omega)
    have one : 16 * xcd h k (xtn h k) + xtn h k ≤ 16 * xcd h k (xbs s k) + xbs s k ∧ (16 * xcd h k (xtn h k) + xtn h k = 16 * xcd h k (xbs s k) + xbs s k → xbs s k = xtn h k) := by
      unfold xtn xcd
      by_cases z : xop h k < 2 ∧ xpt h k (1 - xop h k) 63 < xpt h k (xop h k) 63
      · rw [if_pos z, if_pos rfl]
        rcases xbs01 s k with y | y
        · rw [y, if_neg (by decide)]
          omega
        · rw [y, if_pos rfl]
          omega
      · rw [if_neg z, if_neg (by decide)]
        rcases xbs01 s k with y | y
        · rw [y, if_neg (by decide)]
          omega
        · have q := q y
          rw [y, if_pos rfl]
          omega
    simp only [xhp, xhn, xhT, mny]
    refine ⟨by omega, fun e d hd => ?_⟩
    by_cases z : d = k
    · rw [z]; exact one.2 (by omega)
    · exact b (by omega) d (by omega)
