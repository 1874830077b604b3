/-! a house as numbers -/
def cH (k : Nat) (h : Nat → Nat) (M : xM) : Prop := (M k 0 = nI (h 0) ∧ M k 1 = nI (h 1) ∧ M k 2 = nI (h 2)) ∧ (∀ j, j < 48 → M (k + 1) j = nI (h (3 + j))) ∧ (∀ j, j < 3 * h 2 → M (k + 2) j = nI (h (51 + j))) ∧ (∀ j, j < 80 → M (k + 3) j = nI (h (66 + j))) ∧ ∀ j, j < 10 → M (k + 4) j = nI (h (146 + j))
theorem cH.mono {k : Nat} {h : Nat → Nat} {M M' : xM} (H : cH k h M) (e : ∀ a, k ≤ a → a ≤ k + 4 → M' a = M a) : cH k h M' := by
  obtain ⟨⟨h1, h2, h3⟩, h4, h5, h6, h7⟩ := H
  refine ⟨⟨?_, ?_, ?_⟩, fun j hj => ?_, fun j hj => ?_, fun j hj => ?_, fun j hj => ?_⟩
  · rw [e k (by omega) (by omega)]; exact h1
  · rw [e k (by omega) (by omega)]; exact h2
  · rw [e k (by omega) (by omega)]; exact h3
  · rw [e (k + 1) (by omega) (by omega)]; exact h4 j hj
  · rw [e (k + 2) (by omega) (by omega)]; exact h5 j hj
  · rw [e (k + 3) (by omega) (by omega)]; exact h6 j hj
  · rw [e (k + 4) (by omega) (by omega)]; exact h7 j hj
/-- nothing but the cells lo .. hi has changed -/
def xfr (lo hi : Nat) (M M' : xM) : Prop := ∀ a, a < lo ∨ hi < a → M' a = M a
theorem xfr.rf {lo hi : Nat} {M : xM} : xfr lo hi M M := fun _ _ => rfl
theorem xfr.tr {lo hi : Nat} {M M1 M2 : xM} (h1 : xfr lo hi M M1) (h2 : xfr lo hi M1 M2) : xfr lo hi M M2 := fun a q => (h2 a q).trans (h1 a q)
theorem xfr.wd {lo hi lo2 hi2 : Nat} {M M1 : xM} (h1 : xfr lo hi M M1) (h : lo2 ≤ lo) (h2 : hi ≤ hi2) : xfr lo2 hi2 M M1 := fun a q => h1 a (by omega)
theorem xfr.up {lo hi a i : Nat} {x : Int32} {M : xM} (h1 : lo ≤ a) (h2 : a ≤ hi) : xfr lo hi M (xup M a i x) := fun b q => xup_other (by omega)
theorem xfr.st {lo hi a : Nat} {f : Nat → Int32} {M : xM} (h1 : lo ≤ a) (h2 : a ≤ hi) : xfr lo hi M (xset M a f) := fun b q => xset_other (by omega)
theorem cH.fr {k lo hi : Nat} {h : Nat → Nat} {M M' : xM} (H : cH k h M) (e : xfr lo hi M M') (q : k + 4 < lo ∨ hi < k) : cH k h M' := H.mono (fun a h1 h2 => e a (by omega))
/-- the house without anything told -/
def xpl : Nat → Nat := fun j => if j = 0 then 3 else if 51 ≤ j ∧ j < 66 ∧ j % 3 = 2 then 3 else if j = 146 ∨ j = 147 then 6 else if j = 148 then 4 else if j = 149 then 3 else if j = 150 ∨ j = 151 then 2 else if 152 ≤ j ∧ j < 156 then 3 else 0
section C14
variable {M : xM} {Q : Option Value → xM → Prop}
theorem c21 (hQ : ∀ M', xfr 4 8 M M' → cH 4 xpl M' → Q none M') : xW xSC 21 0 [.ref 4, .null] [] M Q := by
  simp (disch := omega) only [s21, j21, c35, cF, xpush_n, nI_add, nI_lt_t, nI_lt_f, if_true, if_false]
  rw [h21_56]
  simp (disch := omega) only [s21, j21, c35, cF, xpush_n, nI_add, nI_lt_t, nI_lt_f, if_true, if_false]
  rw [h21_56]
  simp (disch := omega) only [s21, j21, c35, cF, xpush_n, nI_add, nI_lt_t, nI_lt_f, if_true, if_false]
  rw [h21_56]
  simp (disch := omega) only [s21, j21, c35, cF, xpush_n, nI_add, nI_lt_t, nI_lt_f, if_true, if_false]
  rw [h21_56]
  simp (disch := omega) only [s21, j21, c35, cF, xpush_n, nI_add, nI_lt_t, nI_lt_f, if_true, if_false]
  rw [h21_56]
  simp (disch := omega) only [s21, j21, c35, cF, xpush_n, nI_add, nI_lt_t, nI_lt_f, if_true, if_false]
  refine hQ _ (fun a q => ?_) ⟨⟨?_, ?_, ?_⟩, fun j hj => ?_, fun j hj => ?_, fun j hj => ?_, fun j hj => ?_⟩
  · have e4 : a ≠ 4 := by omega
    have e5 : a ≠ 5 := by omega
    have e6 : a ≠ 6 := by omega
    have e7 : a ≠ 7 := by omega
    have e8 : a ≠ 8 := by omega
    simp only [xset, xup, if_neg e4, if_neg e5, if_neg e6, if_neg e7, if_neg e8]
  · rfl
  · rfl
  · rfl
  · have e : xpl (3 + j) = 0 := by
      unfold xpl
      simp (disch := omega) only [if_neg]
    rw [e]
    simp [xset, xfl, hj]
  · have : xpl 2 = 0 := rfl
    omega
  · have e : xpl (66 + j) = 0 := by
      unfold xpl
      simp (disch := omega) only [if_neg]
    rw [e]
    simp [xset, xfl, hj]
  · have hj2 : j = 0 ∨ j = 1 ∨ j = 2 ∨ j = 3 ∨ j = 4 ∨ j = 5 ∨ j = 6 ∨ j = 7 ∨ j = 8 ∨ j = 9 := by omega
    rcases hj2 with rfl | rfl | rfl | rfl | rfl | rfl | rfl | rfl | rfl | rfl <;> rfl
/-- one house is as another -/
def xTake (k1 k2 : Nat) (M M' : xM) : Prop := xfr k1 (k1 + 4) M M' ∧ (∀ j, j < 3 → M' k1 j = M k2 j) ∧ (∀ j, j < 48 → M' (k1 + 1) j = M (k2 + 1) j) ∧ (∀ j, j < 15 → M' (k1 + 2) j = M (k2 + 2) j) ∧ (∀ j, j < 80 → M' (k1 + 3) j = M (k2 + 3) j) ∧ ∀ j, j < 10 → M' (k1 + 4) j = M (k2 + 4) j
theorem xTake.cH {k1 k2 : Nat} {h : Nat → Nat} {M M' : xM} (T : xTake k1 k2 M M') (H : cH k2 h M) (hp : h 2 ≤ 5) : cH k1 h M' := by
  obtain ⟨-, t1, t2, t3, t4, t5⟩ := T
  obtain ⟨⟨h1, h2, h3⟩, h4, h5, h6, h7⟩ := H
  exact ⟨⟨(t1 0 (by omega)).trans h1, (t1 1 (by omega)).trans h2, (t1 2 (by omega)).trans h3⟩, fun j hj => (t2 j hj).trans (h4 j hj), fun j hj => (t3 j (by omega)).trans (h5 j hj), fun j hj => (t4 j hj).trans (h6 j hj), fun j hj => (t5 j hj).trans (h7 j hj)⟩
theorem cC :
  (∀ (M : xM) (Q : Option Value → xM → Prop), xW xSC 2 0 [.ref 5, .ref 10] [] M Q = Q none (xset M 10 (xcp 48 (M 5) (M 10)))) ∧
  (∀ (M : xM) (Q : Option Value → xM → Prop), xW xSC 2 0 [.ref 6, .ref 11] [] M Q = Q none (xset M 11 (xcp 15 (M 6) (M 11)))) ∧
  (∀ (M : xM) (Q : Option Value → xM → Prop), xW xSC 2 0 [.ref 7, .ref 12] [] M Q = Q none (xset M 12 (xcp 80 (M 7) (M 12)))) ∧
  (∀ (M : xM) (Q : Option Value → xM → Prop), xW xSC 2 0 [.ref 8, .ref 13] [] M Q = Q none (xset M 13 (xcp 10 (M 8) (M 13)))) ∧
  (∀ (M : xM) (Q : Option Value → xM → Prop), xW xSC 2 0 [.ref 10, .ref 15] [] M Q = Q none (xset M 15 (xcp 48 (M 10) (M 15)))) ∧
  (∀ (M : xM) (Q : Option Value → xM → Prop), xW xSC 2 0 [.ref 11, .ref 16] [] M Q = Q none (xset M 16 (xcp 15 (M 11) (M 16)))) ∧
  (∀ (M : xM) (Q : Option Value → xM → Prop), xW xSC 2 0 [.ref 12, .ref 17] [] M Q = Q none (xset M 17 (xcp 80 (M 12) (M 17)))) ∧
  (∀ (M : xM) (Q : Option Value → xM → Prop), xW xSC 2 0 [.ref 13, .ref 18] [] M Q = Q none (xset M 18 (xcp 10 (M 13) (M 18)))) ∧
  (∀ (M : xM) (Q : Option Value → xM → Prop), xW xSC 2 0 [.ref 10, .ref 20] [] M Q = Q none (xset M 20 (xcp 48 (M 10) (M 20)))) ∧
  (∀ (M : xM) (Q : Option Value → xM → Prop), xW xSC 2 0 [.ref 11, .ref 21] [] M Q = Q none (xset M 21 (xcp 15 (M 11) (M 21)))) ∧
  (∀ (M : xM) (Q : Option Value → xM → Prop), xW xSC 2 0 [.ref 12, .ref 22] [] M Q = Q none (xset M 22 (xcp 80 (M 12) (M 22)))) ∧
  (∀ (M : xM) (Q : Option Value → xM → Prop), xW xSC 2 0 [.ref 13, .ref 23] [] M Q = Q none (xset M 23 (xcp 10 (M 13) (M 23)))) ∧
  (∀ (M : xM) (Q : Option Value → xM → Prop), xW xSC 2 0 [.ref 15, .ref 10] [] M Q = Q none (xset M 10 (xcp 48 (M 15) (M 10)))) ∧
  (∀ (M : xM) (Q : Option Value → xM → Prop), xW xSC 2 0 [.ref 16, .ref 11] [] M Q = Q none (xset M 11 (xcp 15 (M 16) (M 11)))) ∧
  (∀ (M : xM) (Q : Option Value → xM → Prop), xW xSC 2 0 [.ref 17, .ref 12] [] M Q = Q none (xset M 12 (xcp 80 (M 17) (M 12)))) ∧
  (∀ (M : xM) (Q : Option Value → xM → Prop), xW xSC 2 0 [.ref 18, .ref 13] [] M Q = Q none (xset M 13 (xcp 10 (M 18) (M 13)))) ∧
  (∀ (M : xM) (Q : Option Value → xM → Prop), xW xSC 2 0 [.ref 20, .ref 10] [] M Q = Q none (xset M 10 (xcp 48 (M 20) (M 10)))) ∧
  (∀ (M : xM) (Q : Option Value → xM → Prop), xW xSC 2 0 [.ref 21, .ref 11] [] M Q = Q none (xset M 11 (xcp 15 (M 21) (M 11)))) ∧
  (∀ (M : xM) (Q : Option Value → xM → Prop), xW xSC 2 0 [.ref 22, .ref 12] [] M Q = Q none (xset M 12 (xcp 80 (M 22) (M 12)))) ∧
  (∀ (M : xM) (Q : Option Value → xM → Prop), xW xSC 2 0 [.ref 23, .ref 13] [] M Q = Q none (xset M 13 (xcp 10 (M 23) (M 13)))) :=
  ⟨fun M Q => cCopy rfl rfl (by decide), fun M Q => cCopy rfl rfl (by decide), fun M Q => cCopy rfl rfl (by decide), fun M Q => cCopy rfl rfl (by decide), fun M Q => cCopy rfl rfl (by decide), fun M Q => cCopy rfl rfl (by decide), fun M Q => cCopy rfl rfl (by decide), fun M Q => cCopy rfl rfl (by decide), fun M Q => cCopy rfl rfl (by decide), fun M Q => cCopy rfl rfl (by decide), fun M Q => cCopy rfl rfl (by decide), fun M Q => cCopy rfl rfl (by decide), fun M Q => cCopy rfl rfl (by decide), fun M Q => cCopy rfl rfl (by decide), fun M Q => cCopy rfl rfl (by decide), fun M Q => cCopy rfl rfl (by decide), fun M Q => cCopy rfl rfl (by decide), fun M Q => cCopy rfl rfl (by decide), fun M Q => cCopy rfl rfl (by decide), fun M Q => cCopy rfl rfl (by decide)⟩
theorem c22_9_4 (hQ : ∀ M', xTake 9 4 M M' → Q none M') : xW xSC 22 0 [.ref 9, .ref 4] [] M Q := by
  simp only [s22, j22, cC, xpush_n]
  refine hQ _ ⟨fun a q => ?_, fun j hj => ?_, fun j hj => ?_, fun j hj => ?_, fun j hj => ?_, fun j hj => ?_⟩
  · have e4 : a ≠ 9 := by omega
    have e5 : a ≠ 10 := by omega
    have e6 : a ≠ 11 := by omega
    have e7 : a ≠ 12 := by omega
    have e8 : a ≠ 13 := by omega
    simp only [xset, xup, if_neg e4, if_neg e5, if_neg e6, if_neg e7, if_neg e8]
  · have hj2 : j = 0 ∨ j = 1 ∨ j = 2 := by omega
    rcases hj2 with rfl | rfl | rfl <;> rfl
  · simp [xset, xup, xcp, hj]
  · simp [xset, xup, xcp, hj]
  · simp [xset, xup, xcp, hj]
  · simp [xset, xup, xcp, hj]
theorem c22_14_9 (hQ : ∀ M', xTake 14 9 M M' → Q none M') : xW xSC 22 0 [.ref 14, .ref 9] [] M Q := by
  simp only [s22, j22, cC, xpush_n]
  refine hQ _ ⟨fun a q => ?_, fun j hj => ?_, fun j hj => ?_, fun j hj => ?_, fun j hj => ?_, fun j hj => ?_⟩
  · have e4 : a ≠ 14 := by omega
    have e5 : a ≠ 15 := by omega
    have e6 : a ≠ 16 := by omega
    have e7 : a ≠ 17 := by omega
    have e8 : a ≠ 18 := by omega
    simp only [xset, xup, if_neg e4, if_neg e5, if_neg e6, if_neg e7, if_neg e8]
  · have hj2 : j = 0 ∨ j = 1 ∨ j = 2 := by omega
    rcases hj2 with rfl | rfl | rfl <;> rfl
  · simp [xset, xup, xcp, hj]
  · simp [xset, xup, xcp, hj]
  · simp [xset, xup, xcp, hj]
  · simp [xset, xup, xcp, hj]
theorem c22_19_9 (hQ : ∀ M', xTake 19 9 M M' → Q none M') : xW xSC 22 0 [.ref 19, .ref 9] [] M Q := by
  simp only [s22, j22, cC, xpush_n]
  refine hQ _ ⟨fun a q => ?_, fun j hj => ?_, fun j hj => ?_, fun j hj => ?_, fun j hj => ?_, fun j hj => ?_⟩
  · have e4 : a ≠ 19 := by omega
    have e5 : a ≠ 20 := by omega
    have e6 : a ≠ 21 := by omega
    have e7 : a ≠ 22 := by omega
    have e8 : a ≠ 23 := by omega
    simp only [xset, xup, if_neg e4, if_neg e5, if_neg e6, if_neg e7, if_neg e8]
  · have hj2 : j = 0 ∨ j = 1 ∨ j = 2 := by omega
    rcases hj2 with rfl | rfl | rfl <;> rfl
  · simp [xset, xup, xcp, hj]
  · simp [xset, xup, xcp, hj]
  · simp [xset, xup, xcp, hj]
  · simp [xset, xup, xcp, hj]
theorem c22_9_14 (hQ : ∀ M', xTake 9 14 M M' → Q none M') : xW xSC 22 0 [.ref 9, .ref 14] [] M Q := by
  simp only [s22, j22, cC, xpush_n]
  refine hQ _ ⟨fun a q => ?_, fun j hj => ?_, fun j hj => ?_, fun j hj => ?_, fun j hj => ?_, fun j hj => ?_⟩
  · have e4 : a ≠ 9 := by omega
    have e5 : a ≠ 10 := by omega
    have e6 : a ≠ 11 := by omega
    have e7 : a ≠ 12 := by omega
    have e8 : a ≠ 13 := by omega
    simp only [xset, xup, if_neg e4, if_neg e5, if_neg e6, if_neg e7, if_neg e8]
  · have hj2 : j = 0 ∨ j = 1 ∨ j = 2 := by omega
    rcases hj2 with rfl | rfl | rfl <;> rfl
  · simp [xset, xup, xcp, hj]
  · simp [xset, xup, xcp, hj]
  · simp [xset, xup, xcp, hj]
  · simp [xset, xup, xcp, hj]
theorem c22_9_19 (hQ : ∀ M', xTake 9 19 M M' → Q none M') : xW xSC 22 0 [.ref 9, .ref 19] [] M Q := by
  simp only [s22, j22, cC, xpush_n]
  refine hQ _ ⟨fun a q => ?_, fun j hj => ?_, fun j hj => ?_, fun j hj => ?_, fun j hj => ?_, fun j hj => ?_⟩
  · have e4 : a ≠ 9 := by omega
    have e5 : a ≠ 10 := by omega
    have e6 : a ≠ 11 := by omega
    have e7 : a ≠ 12 := by omega
    have e8 : a ≠ 13 := by omega
    simp only [xset, xup, if_neg e4, if_neg e5, if_neg e6, if_neg e7, if_neg e8]
  · have hj2 : j = 0 ∨ j = 1 ∨ j = 2 := by omega
    rcases hj2 with rfl | rfl | rfl <;> rfl
  · simp [xset, xup, xcp, hj]
  · simp [xset, xup, xcp, hj]
  · simp [xset, xup, xcp, hj]
  · simp [xset, xup, xcp, hj]
end C14
