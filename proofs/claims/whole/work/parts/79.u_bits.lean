/-! sets of jobs as bits -/
theorem bit_1 : ∀ A : Nat, A < 128 → ∀ i : Nat, i < 7 → (((zop_ishr (nI A) (nI i) &&& 1) = 1) ↔ A.testBit i = true) := by decide +kernel
theorem bit_0 : ∀ A : Nat, A < 128 → ∀ i : Nat, i < 7 → (((zop_ishr (nI A) (nI i) &&& 1) = 0) ↔ A.testBit i = false) := by decide +kernel
theorem and_k (a b : Nat) : nI a &&& nI b = nI (a &&& b) := by
  show Int32.ofNat a &&& Int32.ofNat b = Int32.ofNat (a &&& b)
  apply Int32.toBitVec_inj.mp
  rw [Int32.toBitVec_and]
  show BitVec.ofNat 32 a &&& BitVec.ofNat 32 b = BitVec.ofNat 32 (a &&& b)
  rw [BitVec.ofNat_and]
/-- the lowest -/
def lwb (P : Nat) : Nat := (zfirst (fun i => P.testBit i) 0 7).getD 7
theorem lwb_p : ∀ P : Nat, P < 128 → 0 < P → lwb P < 7 ∧ P.testBit (lwb P) = true ∧ (P &&& (P - 1)) < P ∧ (∀ i : Nat, i < 7 → (P &&& (P - 1)).testBit i = (P.testBit i && !decide (i = lwb P))) ∧ ∀ i : Nat, i < lwb P → P.testBit i = false := by decide +kernel
theorem sub_b : ∀ A : Nat, A < 128 → ∀ P : Nat, P < 128 → P &&& A = P → P ≤ A ∧ ∀ i : Nat, i < 7 → (A - P).testBit i = (A.testBit i && !P.testBit i) := by decide +kernel
theorem nxt_b : ∀ A : Nat, A < 128 → ∀ P : Nat, P < 128 → 0 < P → P &&& A = P → ((P - 1) &&& A) &&& A = ((P - 1) &&& A) ∧ ((P - 1) &&& A) < P := by decide +kernel
theorem nxt_c : ∀ A : Nat, A < 128 → ∀ P : Nat, P < 128 → (0 < P ∧ P &&& A = P) → ∀ Q : Nat, Q < P → (Q &&& A ≠ Q ∨ Q ≤ ((P - 1) &&& A)) := by decide +kernel
theorem cmp_b : ∀ J : Nat, J < 8 → ∀ A : Nat, A < 2 ^ J → ∀ i : Nat, i < J → (2 ^ J - 1 - A).testBit i = !A.testBit i := by decide +kernel
theorem bits_eq {A B : Nat} (hA : A < 128) (hB : B < 128) (h : ∀ i, i < 7 → A.testBit i = B.testBit i) : A = B := by
  apply Nat.eq_of_testBit_eq
  intro i
  by_cases c : i < 7
  · exact h i c
  · rw [Nat.testBit_lt_two_pow (Nat.lt_of_lt_of_le (show A < 2 ^ 7 from hA) (Nat.pow_le_pow_right (by decide) (show 7 ≤ i by omega))), Nat.testBit_lt_two_pow (Nat.lt_of_lt_of_le (show B < 2 ^ 7 from hB) (Nat.pow_le_pow_right (by decide) (show 7 ≤ i by omega)))]
theorem sub_of {A P : Nat} (hA : A < 128) (hP : P < 128) (h : ∀ i, i < 7 → P.testBit i = true → A.testBit i = true) : P &&& A = P := by
  apply bits_eq (Nat.lt_of_le_of_lt Nat.and_le_left hP) hP
  intro i hi
  rw [Nat.testBit_and]
  cases e : P.testBit i
  · rfl
  · rw [h i hi e]; rfl
theorem bit_hi {A J i : Nat} (hA : A < 2 ^ J) (hi : J ≤ i) : A.testBit i = false := Nat.testBit_lt_two_pow (Nat.lt_of_lt_of_le hA (Nat.pow_le_pow_right (by decide) hi))
theorem msk (f : Nat → Bool) : ∀ n, ∃ P, P < 2 ^ n ∧ ∀ i, i < n → P.testBit i = f i
  | 0 => ⟨0, by decide, fun i hi => absurd hi (Nat.not_lt_zero _)⟩
  | n + 1 => by
    obtain ⟨P, h1, h2⟩ := msk f n
    cases e : f n
    · refine ⟨P, Nat.lt_of_lt_of_le h1 (Nat.pow_le_pow_right (by decide) (by omega)), fun i hi => ?_⟩
      by_cases c : i = n
      · rw [c, e, bit_hi h1 (Nat.le_refl n)]
      · exact h2 i (by omega)
    · refine ⟨2 ^ n + P, by rw [Nat.pow_succ]; omega, fun i hi => ?_⟩
      by_cases c : i = n
      · rw [c, e, Nat.testBit_two_pow_add_eq, bit_hi h1 (Nat.le_refl n)]
        rfl
      · rw [Nat.testBit_two_pow_add_gt (by omega)]
        exact h2 i (by omega)
theorem bit_ex {A J : Nat} (hA : A < 2 ^ J) (h0 : A ≠ 0) : ∃ i, i < J ∧ A.testBit i = true := by
  apply Classical.byContradiction
  intro h
  apply h0
  apply Nat.eq_of_testBit_eq
  intro i
  rw [Nat.zero_testBit]
  by_cases c : i < J
  · cases e : A.testBit i
    · rfl
    · exact absurd ⟨i, c, e⟩ h
  · exact bit_hi hA (by omega)
