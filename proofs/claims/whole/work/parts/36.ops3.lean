theorem nI_add' (a b : Nat) (h : a + b < 2 ^ 31) : nI a + nI b = nI (a + b) := by
  rw [i_eq, Int32.toInt_add, nI_ti h, nI_ti (show a < 2 ^ 31 by omega), nI_ti (show b < 2 ^ 31 by omega), Int.bmod_eq_of_le] <;> omega
theorem nI_mul' (a b : Nat) (ha : a < 2 ^ 31) (hb : b < 2 ^ 31) (h : a * b < 2 ^ 31) : nI a * nI b = nI (a * b) := by
  have h2 : (a : Int) * b = ((a * b : Nat) : Int) := by simp
  rw [i_eq, Int32.toInt_mul, nI_ti h, nI_ti ha, nI_ti hb, h2, Int.bmod_eq_of_le] <;> omega
theorem nI_suc (a : Nat) (h : a + 1 < 2 ^ 31) : nI a + 1 = nI (a + 1) := nI_add' a 1 h
theorem nI_row10 (a b : Nat) (h : a ≤ 1000 ∧ b ≤ 1000) : (10 : Int32) * nI a + nI b = nI (10 * a + b) := by
  rw [show (10 : Int32) = nI 10 from rfl, nI_mul' 10 a (by omega) (by omega) (by omega), nI_add' _ _ (by omega)]
theorem nI_row20 (a b : Nat) (h : a ≤ 1000 ∧ b ≤ 1000) : (20 : Int32) * nI a + nI b = nI (20 * a + b) := by
  rw [show (20 : Int32) = nI 20 from rfl, nI_mul' 20 a (by omega) (by omega) (by omega), nI_add' _ _ (by omega)]
theorem nI_row30 (a b : Nat) (h : a ≤ 1000 ∧ b ≤ 1000) : (30 : Int32) * nI a + nI b = nI (30 * a + b) := by
  rw [show (30 : Int32) = nI 30 from rfl, nI_mul' 30 a (by omega) (by omega) (by omega), nI_add' _ _ (by omega)]
theorem nI_row12 (a b : Nat) (h : a ≤ 1000 ∧ b ≤ 1000) : (12 : Int32) * nI a + nI b = nI (12 * a + b) := by
  rw [show (12 : Int32) = nI 12 from rfl, nI_mul' 12 a (by omega) (by omega) (by omega), nI_add' _ _ (by omega)]
theorem nI_row160 (a b : Nat) (h : a ≤ 1000 ∧ b ≤ 1000) : (160 : Int32) * nI a + nI b = nI (160 * a + b) := by
  rw [show (160 : Int32) = nI 160 from rfl, nI_mul' 160 a (by omega) (by omega) (by omega), nI_add' _ _ (by omega)]
theorem nI_inj {a b : Nat} (ha : a < 2 ^ 31) (hb : b < 2 ^ 31) : nI a = nI b ↔ a = b := by
  rw [i_eq, nI_ti ha, nI_ti hb]
  omega
theorem ti_m1 : (-1 : Int32).toInt = -1 := by decide
theorem e_crewOf {σ : zSt} {i t : Nat} (ht : t < 10) : f5_crewOf i (nI t) σ = some (gI σ 611 i t) := by
  unfold f5_crewOf
  rw [show (10 : Int32) = nI 10 from rfl, e_at_in ht (Nat.le_refl 10) (by decide), zc1_s, if_neg (by decide), zix_s ht (by decide)]
theorem t_crew {σ : zSt} (h : Inv σ) (v1 v2 v3 : Int32) : Ok2 (f11_crew v1 v2 v3 σ) (f12_crew v1 v2 v3) := by
  have h' := h
  obtain ⟨hO, hC, hN, hH, hK, hF, hS, hL, hG, hD, hT, hX, hZ⟩ := h
  have hN' := hN
  obtain ⟨n1, n2, n3, -⟩ := hN'
  rcases zcase v1 (gN σ 5) (by omega) with ⟨i, hi, rfl, hv⟩ | hv
  · have hi' := hH i hi
    have hR := hi'.1
    rcases zcase v2 10 (by omega) with ⟨t, ht, rfl, hw⟩ | hw
    · have hTc := (hi'.2.2.2.2.2.2.2.2.2.2.2.2.2.2.2.2.2.2 t ht).1
      by_cases hb : -1 ≤ v3.toInt ∧ v3.toInt ≤ 9
      · refine ⟨gI σ 611 i t, pI σ 611 i t v3, pI (pI σ 611 i t v3) 1309 0 (10 * i + t) v3, ?_, hO, ?_, ?_⟩
        · unfold f11_crew
          rw [e_homeAt n1 n3 hR hi, zc1_s, zoc_s, e_isIn]
          simp only [zc1_s, t01, Int32.reduceToInt, zlt_s, e_crewOf ht, e_isIn, zix_s (show t < 10 by omega) (by decide)]
          rw [if_neg (by omega)]
          by_cases e : v3 = -1
          · rw [if_pos e]
          · rw [if_neg e, if_neg]
            rw [i_eq] at e
            simp only [Int32.reduceToInt, ti_m1] at e
            omega
        · unfold f12_crew
          rw [m_isHome (n := gN σ 5) (by exact n2) n3]
          simp only [zc1_s, t01, e_within, m_isTrade, Int32.reduceToInt, ti_m1, zlt_s, nI_row10 i t (by omega), zix_s (show 10 * i + t < 400 by omega) (by decide)]
          rw [if_neg (by omega), if_neg (by omega), if_neg (by omega), hTc]
          rfl
        · refine ⟨hO, hC, (by repeat (first | assumption | refine fr_vC_I rfl ?_ | refine fr_vN_I rfl ?_ | refine fr_vH_I rfl ?_ | refine fr_vK_I rfl ?_ | refine fr_vF_I rfl ?_ | refine fr_vS_I rfl ?_ | refine fr_vL_I rfl ?_ | refine fr_vG_I rfl ?_ | refine fr_vD_I rfl ?_ | refine fr_vT_I rfl ?_ | refine fr_vX_I rfl ?_ | refine fr_vZ_I rfl ?_)), ?_, (by repeat (first | assumption | refine fr_vC_I rfl ?_ | refine fr_vN_I rfl ?_ | refine fr_vH_I rfl ?_ | refine fr_vK_I rfl ?_ | refine fr_vF_I rfl ?_ | refine fr_vS_I rfl ?_ | refine fr_vL_I rfl ?_ | refine fr_vG_I rfl ?_ | refine fr_vD_I rfl ?_ | refine fr_vT_I rfl ?_ | refine fr_vX_I rfl ?_ | refine fr_vZ_I rfl ?_)), (by repeat (first | assumption | refine fr_vC_I rfl ?_ | refine fr_vN_I rfl ?_ | refine fr_vH_I rfl ?_ | refine fr_vK_I rfl ?_ | refine fr_vF_I rfl ?_ | refine fr_vS_I rfl ?_ | refine fr_vL_I rfl ?_ | refine fr_vG_I rfl ?_ | refine fr_vD_I rfl ?_ | refine fr_vT_I rfl ?_ | refine fr_vX_I rfl ?_ | refine fr_vZ_I rfl ?_)), (by repeat (first | assumption | refine fr_vC_I rfl ?_ | refine fr_vN_I rfl ?_ | refine fr_vH_I rfl ?_ | refine fr_vK_I rfl ?_ | refine fr_vF_I rfl ?_ | refine fr_vS_I rfl ?_ | refine fr_vL_I rfl ?_ | refine fr_vG_I rfl ?_ | refine fr_vD_I rfl ?_ | refine fr_vT_I rfl ?_ | refine fr_vX_I rfl ?_ | refine fr_vZ_I rfl ?_)), (by repeat (first | assumption | refine fr_vC_I rfl ?_ | refine fr_vN_I rfl ?_ | refine fr_vH_I rfl ?_ | refine fr_vK_I rfl ?_ | refine fr_vF_I rfl ?_ | refine fr_vS_I rfl ?_ | refine fr_vL_I rfl ?_ | refine fr_vG_I rfl ?_ | refine fr_vD_I rfl ?_ | refine fr_vT_I rfl ?_ | refine fr_vX_I rfl ?_ | refine fr_vZ_I rfl ?_)), (by repeat (first | assumption | refine fr_vC_I rfl ?_ | refine fr_vN_I rfl ?_ | refine fr_vH_I rfl ?_ | refine fr_vK_I rfl ?_ | refine fr_vF_I rfl ?_ | refine fr_vS_I rfl ?_ | refine fr_vL_I rfl ?_ | refine fr_vG_I rfl ?_ | refine fr_vD_I rfl ?_ | refine fr_vT_I rfl ?_ | refine fr_vX_I rfl ?_ | refine fr_vZ_I rfl ?_)), (by repeat (first | assumption | refine fr_vC_I rfl ?_ | refine fr_vN_I rfl ?_ | refine fr_vH_I rfl ?_ | refine fr_vK_I rfl ?_ | refine fr_vF_I rfl ?_ | refine fr_vS_I rfl ?_ | refine fr_vL_I rfl ?_ | refine fr_vG_I rfl ?_ | refine fr_vD_I rfl ?_ | refine fr_vT_I rfl ?_ | refine fr_vX_I rfl ?_ | refine fr_vZ_I rfl ?_)), (by repeat (first | assumption | refine fr_vC_I rfl ?_ | refine fr_vN_I rfl ?_ | refine fr_vH_I rfl ?_ | refine fr_vK_I rfl ?_ | refine fr_vF_I rfl ?_ | refine fr_vS_I rfl ?_ | refine fr_vL_I rfl ?_ | refine fr_vG_I rfl ?_ | refine fr_vD_I rfl ?_ | refine fr_vT_I rfl ?_ | refine fr_vX_I rfl ?_ | refine fr_vZ_I rfl ?_)), (by repeat (first | assumption | refine fr_vC_I rfl ?_ | refine fr_vN_I rfl ?_ | refine fr_vH_I rfl ?_ | refine fr_vK_I rfl ?_ | refine fr_vF_I rfl ?_ | refine fr_vS_I rfl ?_ | refine fr_vL_I rfl ?_ | refine fr_vG_I rfl ?_ | refine fr_vD_I rfl ?_ | refine fr_vT_I rfl ?_ | refine fr_vX_I rfl ?_ | refine fr_vZ_I rfl ?_)), (by repeat (first | assumption | refine fr_vC_I rfl ?_ | refine fr_vN_I rfl ?_ | refine fr_vH_I rfl ?_ | refine fr_vK_I rfl ?_ | refine fr_vF_I rfl ?_ | refine fr_vS_I rfl ?_ | refine fr_vL_I rfl ?_ | refine fr_vG_I rfl ?_ | refine fr_vD_I rfl ?_ | refine fr_vT_I rfl ?_ | refine fr_vX_I rfl ?_ | refine fr_vZ_I rfl ?_))⟩
          intro j hj
          have h1 := hH j hj
          have hq2 : btw (-1) v3 9 := hb
          simp only [vH1] at h1 ⊢
          by_cases e : j = i
          · subst e
            obtain ⟨a1, a2, a3, a4, a5, a6, a7, a8, a9, a10, a11, a12, a13, a14, a15, a16, a17, a18, a19⟩ := h1
            refine ⟨a1, a2, a3, a4, a5, a6, a7, a8, a9, a10, a11, a12, a13, a14, a15, a16, a17, a18, fun s hs => ?_⟩
            by_cases e : s = t
            · subst e
              simp [gI_pI, hq2]
            · have := a19 s hs
              simp [gI_pI, e, this]
          · have hne : ∀ s, s < 10 → ¬ 10 * j + s = 10 * i + t := by omega
            obtain ⟨a1, a2, a3, a4, a5, a6, a7, a8, a9, a10, a11, a12, a13, a14, a15, a16, a17, a18, a19⟩ := h1
            refine ⟨a1, a2, a3, a4, a5, a6, a7, a8, a9, a10, a11, a12, a13, a14, a15, a16, a17, a18, fun s hs => ?_⟩
            have := a19 s hs
            simp [gI_pI, e, this, hne s hs]
      · refine Ok2.same h' (r := -2000000000) ?_ ?_
        · unfold f11_crew
          rw [e_homeAt n1 n3 hR hi, zc1_s, zoc_s, e_isIn]
          simp only [zc1_s, t01, Int32.reduceToInt, zlt_s, e_isIn]
          rw [if_neg (by omega), if_neg, if_pos (by omega)]
          intro e
          subst e
          simp only [Int32.reduceToInt, ti_m1] at hb
          omega
        · unfold f12_crew
          rw [m_isHome (n := gN σ 5) (by exact n2) n3]
          simp only [zc1_s, t01, e_within, m_isTrade, Int32.reduceToInt, ti_m1, zlt_s]
          rw [if_neg (by omega), if_neg (by omega), if_pos (by omega)]
    · refine Ok2.same h' (r := -2000000000) ?_ ?_
      · unfold f11_crew
        rw [e_homeAt n1 n3 hR hi, zc1_s, zoc_s, e_isIn]
        simp only [zc1_s, t01, Int32.reduceToInt, zlt_s]
        rw [if_pos (by omega)]
      · unfold f12_crew
        rw [m_isHome (n := gN σ 5) (by exact n2) n3]
        simp only [zc1_s, t01, m_isTrade, Int32.reduceToInt, zlt_s]
        rw [if_neg (by omega), if_pos (by omega)]
  · refine Ok2.same h' (r := -2000000000) ?_ ?_
    · unfold f11_crew
      rw [e_homeAt_o n1 n3 hv, zc1_s, zoc_n]
    · unfold f12_crew
      rw [m_isHome (n := gN σ 5) (by exact n2) n3]
      simp only [zc1_s, t01]
      rw [if_pos hv]
