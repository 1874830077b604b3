/-! what a step of the small machine was -/
theorem xb2_inv {f : Int32 → Int32 → Int32} {L st : List Value} {q : Nat} {M : xM} {z : xR} (h : xb2 f L st q M = some z) : ∃ y x r, st = .int y :: .int x :: r ∧ z = .inl (q, L, .int (f x y) :: r, M) := by
  unfold xb2 at h
  split at h
  · exact ⟨_, _, _, rfl, (Option.some.inj h).symm⟩
  · cases h
theorem xl2_inv {f : Int64 → Int64 → Int64} {L st : List Value} {q : Nat} {M : xM} {z : xR} (h : xl2 f L st q M = some z) : ∃ y x r, st = .long y :: .long x :: r ∧ z = .inl (q, L, .long (f x y) :: r, M) := by
  unfold xl2 at h
  split at h
  · exact ⟨_, _, _, rfl, (Option.some.inj h).symm⟩
  · cases h
theorem xd2_inv {f : Int32 → Int32 → Int32} {L st : List Value} {q : Nat} {M : xM} {z : xR} (h : xd2 f L st q M = some z) : ∃ y x r, st = .int y :: .int x :: r ∧ ¬ y = 0 ∧ z = .inl (q, L, .int (f x y) :: r, M) := by
  unfold xd2 at h
  split at h
  · split at h
    · cases h
    · rename_i hn
      exact ⟨_, _, _, rfl, hn, (Option.some.inj h).symm⟩
  · cases h
theorem xdl2_inv {f : Int64 → Int64 → Int64} {L st : List Value} {q : Nat} {M : xM} {z : xR} (h : xdl2 f L st q M = some z) : ∃ y x r, st = .long y :: .long x :: r ∧ ¬ y = 0 ∧ z = .inl (q, L, .long (f x y) :: r, M) := by
  unfold xdl2 at h
  split at h
  · split at h
    · cases h
    · rename_i hn
      exact ⟨_, _, _, rfl, hn, (Option.some.inj h).symm⟩
  · cases h
theorem xld_inv {L st : List Value} {q i : Nat} {M : xM} {z : xR} (h : xld L st q i M = some z) : ∃ x, L[i]? = some (.int x) ∧ z = .inl (q, L, .int x :: st, M) := by
  unfold xld at h
  split at h
  · exact ⟨_, by assumption, (Option.some.inj h).symm⟩
  · cases h
theorem xldl_inv {L st : List Value} {q i : Nat} {M : xM} {z : xR} (h : xldl L st q i M = some z) : ∃ x, L[i]? = some (.long x) ∧ z = .inl (q, L, .long x :: st, M) := by
  unfold xldl at h
  split at h
  · exact ⟨_, by assumption, (Option.some.inj h).symm⟩
  · cases h
theorem xlda_inv {L st : List Value} {q i : Nat} {M : xM} {z : xR} (h : xlda L st q i M = some z) : ∃ x, L[i]? = some (.ref x) ∧ z = .inl (q, L, .ref x :: st, M) := by
  unfold xlda at h
  split at h
  · exact ⟨_, by assumption, (Option.some.inj h).symm⟩
  · cases h
theorem xblt {a b : Nat} (h : Nat.blt a b = true) : a < b := Nat.le_of_ble_eq_true h
theorem xsti_inv {L st : List Value} {q i : Nat} {M : xM} {z : xR} (h : xsti L st q i M = some z) : ∃ x r, st = .int x :: r ∧ i < L.length ∧ z = .inl (q, xst1 L i (.int x), r, M) := by
  unfold xsti at h
  split at h
  · cases hb : Nat.blt i L.length with
    | true =>
      rw [hb] at h
      exact ⟨_, _, rfl, xblt hb, (Option.some.inj h).symm⟩
    | false => rw [hb] at h; cases h
  · cases h
theorem xsta_inv {L st : List Value} {q i : Nat} {M : xM} {z : xR} (h : xsta L st q i M = some z) : ∃ x r, st = .ref x :: r ∧ i < L.length ∧ z = .inl (q, xst1 L i (.ref x), r, M) := by
  unfold xsta at h
  split at h
  · cases hb : Nat.blt i L.length with
    | true =>
      rw [hb] at h
      exact ⟨_, _, rfl, xblt hb, (Option.some.inj h).symm⟩
    | false => rw [hb] at h; cases h
  · cases h
theorem xstl_inv {L st : List Value} {q i : Nat} {M : xM} {z : xR} (h : xstl L st q i M = some z) : ∃ x r, st = .long x :: r ∧ i + 1 < L.length ∧ z = .inl (q, xst2 L i (.long x), r, M) := by
  unfold xstl at h
  split at h
  · cases hb : Nat.blt (i + 1) L.length with
    | true =>
      rw [hb] at h
      exact ⟨_, _, rfl, xblt hb, (Option.some.inj h).symm⟩
    | false => rw [hb] at h; cases h
  · cases h
theorem xif1_inv {c : Jvm.ClassFile.Cond} {L st : List Value} {q t : Nat} {M : xM} {z : xR} (h : xif1 c L st q t M = some z) : ∃ x r, st = .int x :: r ∧ (xcond c x 0 = true → z = .inl (t, L, r, M)) ∧ (xcond c x 0 = false → z = .inl (q + 3, L, r, M)) := by
  unfold xif1 xbr at h
  split at h
  · refine ⟨_, _, rfl, fun e => ?_, fun e => ?_⟩ <;> rw [e] at h <;> exact (Option.some.inj h).symm
  · cases h
theorem xif2_inv {c : Jvm.ClassFile.Cond} {L st : List Value} {q t : Nat} {M : xM} {z : xR} (h : xif2 c L st q t M = some z) : ∃ x y r, st = .int y :: .int x :: r ∧ (xcond c x y = true → z = .inl (t, L, r, M)) ∧ (xcond c x y = false → z = .inl (q + 3, L, r, M)) := by
  unfold xif2 xbr at h
  split at h
  · refine ⟨_, _, _, rfl, fun e => ?_, fun e => ?_⟩ <;> rw [e] at h <;> exact (Option.some.inj h).symm
  · cases h
theorem xbeq {a b : Nat} (h : Nat.beq a b = true) : a = b := Nat.eq_of_beq_eq_true h
theorem xgetf_inv {S : xSh} {ci k : Nat} {L st : List Value} {q : Nat} {M : xM} {z : xR} (h : xgetf S ci k L st q M = some z) : ∃ a r fs o, st = .ref a :: r ∧ S[a]? = some (0, ci, fs) ∧ fs[k]? = some o ∧ z = .inl (q, L, (match o with
    | none => Value.int (M a k)
    | some q => Value.ref q) :: r, M) := by
  unfold xgetf at h
  split at h
  · rename_i a r
    split at h
    · rename_i v hv
      unfold xfld at hv
      split at hv
      · rename_i cj fs hS
        cases hb : Nat.beq ci cj with
        | true =>
          rw [hb] at hv
          obtain rfl := xbeq hb
          simp only [cond_true] at hv
          split at hv
          · rename_i hk
            cases hv
            exact ⟨a, r, fs, none, rfl, hS, hk, (Option.some.inj h).symm⟩
          · rename_i o hk
            cases hv
            exact ⟨a, r, fs, some o, rfl, hS, hk, (Option.some.inj h).symm⟩
          · cases hv
        | false => rw [hb] at hv; cases hv
      · cases hv
    · cases h
  · cases h
theorem xputf_inv {S : xSh} {ci k : Nat} {L st : List Value} {q : Nat} {M : xM} {z : xR} (h : xputf S ci k L st q M = some z) : ∃ x a r fs, st = .int x :: .ref a :: r ∧ S[a]? = some (0, ci, fs) ∧ fs[k]? = some none ∧ xfin ci k = false ∧ xfits (xTy ci k) x = true ∧ z = .inl (q, L, r, xup M a k x) := by
  unfold xputf at h
  split at h
  · rename_i x a r
    split at h
    · rename_i cj fs hS
      cases hb : Nat.beq ci cj with
      | true =>
        cases hf : xfin ci k with
        | true => rw [hb, hf] at h; cases h
        | false =>
          cases hx : xfits (xTy ci k) x with
          | true =>
            rw [hb, hf, hx] at h
            obtain rfl := xbeq hb
            simp only [Bool.not_false, Bool.and_self, cond_true] at h
            split at h
            · rename_i hk
              exact ⟨x, a, r, fs, rfl, hS, hk, rfl, hx, (Option.some.inj h).symm⟩
            · cases h
          | false => rw [hb, hf, hx] at h; cases h
      | false => rw [hb] at h; cases h
    · cases h
  · cases h
theorem xald_inv {kd : Nat} {S : xSh} {L st : List Value} {q : Nat} {M : xM} {z : xR} (h : xald kd S L st q M = some z) : ∃ i a r n fs, st = .int i :: .ref a :: r ∧ S[a]? = some (kd, n, fs) ∧ vp_in i n ∧ z = .inl (q, L, .int (M a i.toNatClampNeg) :: r, M) := by
  unfold xald at h
  split at h
  · rename_i i a r
    split at h
    · rename_i k n fs hS
      cases hb : Nat.beq k kd with
      | true =>
        cases hi : xin i n with
        | true =>
          rw [hb, hi] at h
          obtain rfl := xbeq hb
          exact ⟨i, a, r, n, fs, rfl, hS, of_decide_eq_true (p := ¬ (i < 0 ∨ n ≤ i.toNatClampNeg)) hi, (Option.some.inj h).symm⟩
        | false => rw [hb, hi] at h; cases h
      | false => rw [hb] at h; cases h
    · cases h
  · cases h
theorem xast_inv {kd : Nat} {f : Int32 → Int32} {S : xSh} {L st : List Value} {q : Nat} {M : xM} {z : xR} (h : xast kd f S L st q M = some z) : ∃ x i a r n fs, st = .int x :: .int i :: .ref a :: r ∧ S[a]? = some (kd, n, fs) ∧ vp_in i n ∧ z = .inl (q, L, r, xup M a i.toNatClampNeg (f x)) := by
  unfold xast at h
  split at h
  · rename_i x i a r
    split at h
    · rename_i k n fs hS
      cases hb : Nat.beq k kd with
      | true =>
        cases hi : xin i n with
        | true =>
          rw [hb, hi] at h
          obtain rfl := xbeq hb
          exact ⟨x, i, a, r, n, fs, rfl, hS, of_decide_eq_true (p := ¬ (i < 0 ∨ n ≤ i.toNatClampNeg)) hi, (Option.some.inj h).symm⟩
        | false => rw [hb, hi] at h; cases h
      | false => rw [hb] at h; cases h
    · cases h
  · cases h
theorem xalen_inv {S : xSh} {L st : List Value} {q : Nat} {M : xM} {z : xR} (h : xalen S L st q M = some z) : ∃ a r n fs k, (k = 1 ∨ k = 2) ∧ st = .ref a :: r ∧ S[a]? = some (k, n, fs) ∧ z = .inl (q, L, .int (nI n) :: r, M) := by
  unfold xalen at h
  split at h
  · rename_i a r
    split at h
    · rename_i n fs hS
      exact ⟨a, r, n, fs, 1, Or.inl rfl, rfl, hS, (Option.some.inj h).symm⟩
    · rename_i n fs hS
      exact ⟨a, r, n, fs, 2, Or.inr rfl, rfl, hS, (Option.some.inj h).symm⟩
    · cases h
  · cases h
theorem xmath_inv {f : Int32 → Int32 → Int32} {L st : List Value} {q : Nat} {M : xM} {z : xR} (h : xmath f L st q M = some z) : ∃ y x r, st = .int y :: .int x :: r ∧ r.length ≤ 4 ∧ z = .inl (q, L, .int (f x y) :: r, M) := by
  unfold xmath at h
  split at h
  · rename_i y x r
    cases hb : Nat.ble r.length 4 with
    | true =>
      rw [hb] at h
      exact ⟨y, x, r, rfl, Nat.le_of_ble_eq_true hb, (Option.some.inj h).symm⟩
    | false => rw [hb] at h; cases h
  · cases h
theorem xcopy_inv {S : xSh} {L st : List Value} {q : Nat} {M : xM} {z : xR} (h : xcopy S L st q M = some z) : ∃ n dp a sp a0 r n0 n1 f0 f1, st = .int n :: .int dp :: .ref a :: .int sp :: .ref a0 :: r ∧ S[a0]? = some (1, n0, f0) ∧ S[a]? = some (1, n1, f1) ∧ ¬ sp < 0 ∧ ¬ dp < 0 ∧ ¬ n < 0 ∧ sp.toNatClampNeg + n.toNatClampNeg ≤ n0 ∧ dp.toNatClampNeg + n.toNatClampNeg ≤ n1 ∧ r.length ≤ 4 ∧
    z = .inl (q, L, r, xset M a (va_cpy (M a0) (M a) sp.toNatClampNeg dp.toNatClampNeg n.toNatClampNeg)) := by
  unfold xcopy at h
  split at h
  · rename_i n dp a sp a0 r
    split at h
    · rename_i n0 f0 n1 f1 h0 h1
      generalize hb : (decide (¬ sp < 0) && decide (¬ dp < 0) && decide (¬ n < 0) && decide (sp.toNatClampNeg + n.toNatClampNeg ≤ n0) && decide (dp.toNatClampNeg + n.toNatClampNeg ≤ n1) && Nat.ble r.length 4) = b at h
      cases b with
      | true =>
        simp only [Bool.and_eq_true, decide_eq_true_eq] at hb
        obtain ⟨⟨⟨⟨⟨b1, b2⟩, b3⟩, b4⟩, b5⟩, b6⟩ := hb
        exact ⟨n, dp, a, sp, a0, r, n0, n1, f0, f1, rfl, h0, h1, b1, b2, b3, b4, b5, Nat.le_of_ble_eq_true b6, (Option.some.inj h).symm⟩
      | false => cases h
    · cases h
  · cases h
theorem xcallS_inv {mid : Nat} {st : List Value} {z : xR} (h : xcallS mid st = some z) : xSt mid = true ∧ xN mid ≤ st.length ∧ (st.drop (xN mid)).length ≤ 4 ∧ xsz (st.take (xN mid)).reverse ≤ xL mid ∧ z = .inr (.inl (mid, (st.take (xN mid)).reverse, st.drop (xN mid))) := by
  unfold xcallS at h
  generalize hb : (xSt mid && Nat.ble (xN mid) st.length && Nat.ble (st.drop (xN mid)).length 4 && Nat.ble (xsz (st.take (xN mid)).reverse) (xL mid)) = b at h
  cases b with
  | true =>
    simp only [Bool.and_eq_true] at hb
    exact ⟨hb.1.1.1, Nat.le_of_ble_eq_true hb.1.1.2, Nat.le_of_ble_eq_true hb.1.2, Nat.le_of_ble_eq_true hb.2, (Option.some.inj h).symm⟩
  | false => cases h
theorem xcallV_inv {S : xSh} {mid : Nat} {st : List Value} {z : xR} (h : xcallV S mid st = some z) : ∃ b r fs, st.drop (xN mid) = .ref b :: r ∧ S[b]? = some (0, xI mid, fs) ∧ xSt mid = false ∧ xN mid ≤ st.length ∧ r.length ≤ 4 ∧ xsz (.ref b :: (st.take (xN mid)).reverse) ≤ xL mid ∧ z = .inr (.inl (mid, .ref b :: (st.take (xN mid)).reverse, r)) := by
  unfold xcallV at h
  split at h
  · rename_i b r hd
    split at h
    · rename_i ci fs hS
      generalize hb : (!(xSt mid) && Nat.beq ci (xI mid) && Nat.ble (xN mid) st.length && Nat.ble r.length 4 && Nat.ble (xsz (.ref b :: (st.take (xN mid)).reverse)) (xL mid)) = q at h
      cases q with
      | true =>
        simp only [Bool.and_eq_true, Bool.not_eq_true'] at hb
        obtain ⟨⟨⟨⟨b1, b2⟩, b3⟩, b4⟩, b5⟩ := hb
        obtain rfl := xbeq b2
        exact ⟨b, r, fs, hd, hS, b1, Nat.le_of_ble_eq_true b3, Nat.le_of_ble_eq_true b4, Nat.le_of_ble_eq_true b5, (Option.some.inj h).symm⟩
      | false => cases h
    · cases h
  · cases h
theorem xret_inv {mid : Nat} {st : List Value} {z : xR} (h : xret mid st = some z) : ∃ x ty, st = [.int x] ∧ xRt mid = some ty ∧ xfits ty x = true ∧ z = .inr (.inr (some (.int x))) := by
  unfold xret at h
  split at h
  · rename_i x
    split at h
    · rename_i ty ht
      cases hb : xfits ty x with
      | true =>
        rw [hb] at h
        exact ⟨x, ty, rfl, ht, hb, (Option.some.inj h).symm⟩
      | false => rw [hb] at h; cases h
    · cases h
  · cases h
theorem xretv_inv {mid : Nat} {st : List Value} {z : xR} (h : xretv mid st = some z) : st = [] ∧ xRt mid = none ∧ z = .inr (.inr none) := by
  unfold xretv at h
  split at h
  · split at h
    · rename_i ht
      exact ⟨rfl, ht, (Option.some.inj h).symm⟩
    · cases h
  · cases h
theorem xgo_inv {q : Nat} {L st : List Value} {M : xM} {z : xR} (h : xgo q L st M = some z) : z = .inl (q, L, st, M) := (Option.some.inj h).symm
theorem xtg_eq {pc : Nat} {off : Int} (h : xpos pc off = true) : (pc : Int) + off = (xtg pc off : Int) := by
  have := of_decide_eq_true h
  unfold xtg
  omega
