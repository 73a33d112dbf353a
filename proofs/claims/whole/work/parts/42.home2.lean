/-- what the new home's writes leave as it was -/
theorem hm_I {σ : zSt} {k : Nat} {p q r w : Int32} {a : Nat} (h : a ≠ 5 ∧ a ≠ 610 ∧ a ≠ 611 ∧ a ≠ 11 ∧ a ≠ 12 ∧ (a < 1301 ∨ 1309 < a)) : gI (hmM2 (hmC2 σ k p q r w) k p q r w) a = gI σ a := by
  unfold hmM2
  rw [gI_ne (by omega), zrow_ne (by omega)]
  unfold hmM
  rw [gI_ne (by omega), gI_ne (by omega), gI_ne (by omega), gI_ne (by omega), gI_ne (by omega), gI_ne (by omega)]
  unfold hmC2
  rw [gI_ne (by omega), gI_R, zrow_ne (by omega)]
  unfold hmC
  rw [gI_ne (by omega), gI_ne (by omega), gI_ne (by omega), gI_ne (by omega), gI_R, gI_nn (by omega), gI_R, gI_nn (by omega), gI_ne (by omega), gI_ne (by omega), gI_nn (by omega)]
theorem hm_R {σ : zSt} {k : Nat} {p q r w : Int32} {a : Nat} (h : a ≠ 5 ∧ a ≠ 610 ∧ a ≠ 611 ∧ a ≠ 1200) : gR (hmM2 (hmC2 σ k p q r w) k p q r w) a = gR σ a := by
  unfold hmM2
  rw [gR_I, zrow_R]
  unfold hmM hmC2
  simp only [gR_I]
  rw [gR_ne (by omega), zrow_R]
  unfold hmC
  simp only [gR_I]
  rw [gR_ne (by omega), gR_nn (by omega), gR_ne (by omega), gR_nn (by omega)]
  simp only [gR_I]
  rw [gR_nn (by omega)]
theorem hm_N {σ : zSt} {k : Nat} {p q r w : Int32} {a : Nat} : gN (hmM2 (hmC2 σ k p q r w) k p q r w) a = if a = 5 ∨ a = 610 ∨ a = 611 then gN σ a + 1 else gN σ a := by
  unfold hmM2
  rw [gN_I, zrow_N]
  unfold hmM hmC2
  simp only [gN_I, gN_R]
  rw [zrow_N]
  unfold hmC
  simp only [gN_I, gN_R]
  by_cases h : a = 611
  · subst h; rfl
  · rw [gN_nn h, gN_R]
    by_cases h2 : a = 610
    · subst h2; rfl
    · rw [gN_nn h2, gN_I, gN_I]
      by_cases h3 : a = 5
      · subst h3; rfl
      · rw [gN_nn h3, if_neg (by omega)]
theorem hm_Z {σ : zSt} {k : Nat} {p q r w : Int32} : gZ (hmM2 (hmC2 σ k p q r w) k p q r w) 1100 = gZ σ 1100 := by
  unfold hmM2
  rw [gZ_I, zrow_Z]
  unfold hmM hmC2
  simp only [gZ_I, gZ_R]
  rw [zrow_Z]
  unfold hmC
  simp only [gZ_I, gZ_R]
  rw [gZ_nn (by decide), gZ_R, gZ_nn (by decide), gZ_I, gZ_I, gZ_nn (by decide)]
theorem hm_12 {σ : zSt} {k : Nat} {p q r w : Int32} {c : Nat} (h : c ≠ 13) (b : Nat) : gI (hmM2 (hmC2 σ k p q r w) k p q r w) 12 b c = gI σ 12 b c := by
  unfold hmM2
  rw [gI_nk (by omega), zrow_ne (by decide)]
  rfl
theorem hm_11 {σ : zSt} {k : Nat} {p q r w : Int32} {c : Nat} (h : c ≠ 1) (b : Nat) : gI (hmM2 (hmC2 σ k p q r w) k p q r w) 11 b c = gI σ 11 b c := by
  unfold hmM2
  rw [gI_ne (by decide), zrow_ne (by decide)]
  show gI (hmC2 σ k p q r w) 11 b c = _
  unfold hmC2
  rw [gI_nk (by omega), gI_R, zrow_ne (by decide)]
  rfl
