/-! judge, take -/
theorem Inv_R5 {σ : zSt} (h : Inv σ) (o : Option Nat) : Inv (pR σ 6 0 5 o) := by
  obtain ⟨hO, hC, hN, hH, hK, hF, hS, hL, hG, hD, hT, hX, hZ⟩ := h
  refine ⟨?_, hC, (by repeat (first | assumption | refine fr_vC_I rfl ?_ | refine fr_vN_I rfl ?_ | refine fr_vH_I rfl ?_ | refine fr_vK_I rfl ?_ | refine fr_vF_I rfl ?_ | refine fr_vS_I rfl ?_ | refine fr_vL_I rfl ?_ | refine fr_vG_I rfl ?_ | refine fr_vD_I rfl ?_ | refine fr_vT_I rfl ?_ | refine fr_vX_I rfl ?_ | refine fr_vZ_I rfl ?_ | refine fr_vL_R ?_ | refine fr_vC_R rfl ?_ | refine fr_vN_R rfl ?_ | refine fr_vH_R rfl ?_ | refine fr_vK_R rfl ?_ | refine fr_vF_R rfl ?_ | refine fr_vS_R rfl ?_ | refine fr_vG_R rfl ?_ | refine fr_vT_R rfl ?_ | refine fr_vX_R rfl ?_ | refine fr_vZ_R rfl ?_ | refine fr_vD_R (by decide) ?_)), (by repeat (first | assumption | refine fr_vC_I rfl ?_ | refine fr_vN_I rfl ?_ | refine fr_vH_I rfl ?_ | refine fr_vK_I rfl ?_ | refine fr_vF_I rfl ?_ | refine fr_vS_I rfl ?_ | refine fr_vL_I rfl ?_ | refine fr_vG_I rfl ?_ | refine fr_vD_I rfl ?_ | refine fr_vT_I rfl ?_ | refine fr_vX_I rfl ?_ | refine fr_vZ_I rfl ?_ | refine fr_vL_R ?_ | refine fr_vC_R rfl ?_ | refine fr_vN_R rfl ?_ | refine fr_vH_R rfl ?_ | refine fr_vK_R rfl ?_ | refine fr_vF_R rfl ?_ | refine fr_vS_R rfl ?_ | refine fr_vG_R rfl ?_ | refine fr_vT_R rfl ?_ | refine fr_vX_R rfl ?_ | refine fr_vZ_R rfl ?_ | refine fr_vD_R (by decide) ?_)), (by repeat (first | assumption | refine fr_vC_I rfl ?_ | refine fr_vN_I rfl ?_ | refine fr_vH_I rfl ?_ | refine fr_vK_I rfl ?_ | refine fr_vF_I rfl ?_ | refine fr_vS_I rfl ?_ | refine fr_vL_I rfl ?_ | refine fr_vG_I rfl ?_ | refine fr_vD_I rfl ?_ | refine fr_vT_I rfl ?_ | refine fr_vX_I rfl ?_ | refine fr_vZ_I rfl ?_ | refine fr_vL_R ?_ | refine fr_vC_R rfl ?_ | refine fr_vN_R rfl ?_ | refine fr_vH_R rfl ?_ | refine fr_vK_R rfl ?_ | refine fr_vF_R rfl ?_ | refine fr_vS_R rfl ?_ | refine fr_vG_R rfl ?_ | refine fr_vT_R rfl ?_ | refine fr_vX_R rfl ?_ | refine fr_vZ_R rfl ?_ | refine fr_vD_R (by decide) ?_)), (by repeat (first | assumption | refine fr_vC_I rfl ?_ | refine fr_vN_I rfl ?_ | refine fr_vH_I rfl ?_ | refine fr_vK_I rfl ?_ | refine fr_vF_I rfl ?_ | refine fr_vS_I rfl ?_ | refine fr_vL_I rfl ?_ | refine fr_vG_I rfl ?_ | refine fr_vD_I rfl ?_ | refine fr_vT_I rfl ?_ | refine fr_vX_I rfl ?_ | refine fr_vZ_I rfl ?_ | refine fr_vL_R ?_ | refine fr_vC_R rfl ?_ | refine fr_vN_R rfl ?_ | refine fr_vH_R rfl ?_ | refine fr_vK_R rfl ?_ | refine fr_vF_R rfl ?_ | refine fr_vS_R rfl ?_ | refine fr_vG_R rfl ?_ | refine fr_vT_R rfl ?_ | refine fr_vX_R rfl ?_ | refine fr_vZ_R rfl ?_ | refine fr_vD_R (by decide) ?_)), (by repeat (first | assumption | refine fr_vC_I rfl ?_ | refine fr_vN_I rfl ?_ | refine fr_vH_I rfl ?_ | refine fr_vK_I rfl ?_ | refine fr_vF_I rfl ?_ | refine fr_vS_I rfl ?_ | refine fr_vL_I rfl ?_ | refine fr_vG_I rfl ?_ | refine fr_vD_I rfl ?_ | refine fr_vT_I rfl ?_ | refine fr_vX_I rfl ?_ | refine fr_vZ_I rfl ?_ | refine fr_vL_R ?_ | refine fr_vC_R rfl ?_ | refine fr_vN_R rfl ?_ | refine fr_vH_R rfl ?_ | refine fr_vK_R rfl ?_ | refine fr_vF_R rfl ?_ | refine fr_vS_R rfl ?_ | refine fr_vG_R rfl ?_ | refine fr_vT_R rfl ?_ | refine fr_vX_R rfl ?_ | refine fr_vZ_R rfl ?_ | refine fr_vD_R (by decide) ?_)), (by repeat (first | assumption | refine fr_vC_I rfl ?_ | refine fr_vN_I rfl ?_ | refine fr_vH_I rfl ?_ | refine fr_vK_I rfl ?_ | refine fr_vF_I rfl ?_ | refine fr_vS_I rfl ?_ | refine fr_vL_I rfl ?_ | refine fr_vG_I rfl ?_ | refine fr_vD_I rfl ?_ | refine fr_vT_I rfl ?_ | refine fr_vX_I rfl ?_ | refine fr_vZ_I rfl ?_ | refine fr_vL_R ?_ | refine fr_vC_R rfl ?_ | refine fr_vN_R rfl ?_ | refine fr_vH_R rfl ?_ | refine fr_vK_R rfl ?_ | refine fr_vF_R rfl ?_ | refine fr_vS_R rfl ?_ | refine fr_vG_R rfl ?_ | refine fr_vT_R rfl ?_ | refine fr_vX_R rfl ?_ | refine fr_vZ_R rfl ?_ | refine fr_vD_R (by decide) ?_)), (by repeat (first | assumption | refine fr_vC_I rfl ?_ | refine fr_vN_I rfl ?_ | refine fr_vH_I rfl ?_ | refine fr_vK_I rfl ?_ | refine fr_vF_I rfl ?_ | refine fr_vS_I rfl ?_ | refine fr_vL_I rfl ?_ | refine fr_vG_I rfl ?_ | refine fr_vD_I rfl ?_ | refine fr_vT_I rfl ?_ | refine fr_vX_I rfl ?_ | refine fr_vZ_I rfl ?_ | refine fr_vL_R ?_ | refine fr_vC_R rfl ?_ | refine fr_vN_R rfl ?_ | refine fr_vH_R rfl ?_ | refine fr_vK_R rfl ?_ | refine fr_vF_R rfl ?_ | refine fr_vS_R rfl ?_ | refine fr_vG_R rfl ?_ | refine fr_vT_R rfl ?_ | refine fr_vX_R rfl ?_ | refine fr_vZ_R rfl ?_ | refine fr_vD_R (by decide) ?_)), (by repeat (first | assumption | refine fr_vC_I rfl ?_ | refine fr_vN_I rfl ?_ | refine fr_vH_I rfl ?_ | refine fr_vK_I rfl ?_ | refine fr_vF_I rfl ?_ | refine fr_vS_I rfl ?_ | refine fr_vL_I rfl ?_ | refine fr_vG_I rfl ?_ | refine fr_vD_I rfl ?_ | refine fr_vT_I rfl ?_ | refine fr_vX_I rfl ?_ | refine fr_vZ_I rfl ?_ | refine fr_vL_R ?_ | refine fr_vC_R rfl ?_ | refine fr_vN_R rfl ?_ | refine fr_vH_R rfl ?_ | refine fr_vK_R rfl ?_ | refine fr_vF_R rfl ?_ | refine fr_vS_R rfl ?_ | refine fr_vG_R rfl ?_ | refine fr_vT_R rfl ?_ | refine fr_vX_R rfl ?_ | refine fr_vZ_R rfl ?_ | refine fr_vD_R (by decide) ?_)), (by repeat (first | assumption | refine fr_vC_I rfl ?_ | refine fr_vN_I rfl ?_ | refine fr_vH_I rfl ?_ | refine fr_vK_I rfl ?_ | refine fr_vF_I rfl ?_ | refine fr_vS_I rfl ?_ | refine fr_vL_I rfl ?_ | refine fr_vG_I rfl ?_ | refine fr_vD_I rfl ?_ | refine fr_vT_I rfl ?_ | refine fr_vX_I rfl ?_ | refine fr_vZ_I rfl ?_ | refine fr_vL_R ?_ | refine fr_vC_R rfl ?_ | refine fr_vN_R rfl ?_ | refine fr_vH_R rfl ?_ | refine fr_vK_R rfl ?_ | refine fr_vF_R rfl ?_ | refine fr_vS_R rfl ?_ | refine fr_vG_R rfl ?_ | refine fr_vT_R rfl ?_ | refine fr_vX_R rfl ?_ | refine fr_vZ_R rfl ?_ | refine fr_vD_R (by decide) ?_)), (by repeat (first | assumption | refine fr_vC_I rfl ?_ | refine fr_vN_I rfl ?_ | refine fr_vH_I rfl ?_ | refine fr_vK_I rfl ?_ | refine fr_vF_I rfl ?_ | refine fr_vS_I rfl ?_ | refine fr_vL_I rfl ?_ | refine fr_vG_I rfl ?_ | refine fr_vD_I rfl ?_ | refine fr_vT_I rfl ?_ | refine fr_vX_I rfl ?_ | refine fr_vZ_I rfl ?_ | refine fr_vL_R ?_ | refine fr_vC_R rfl ?_ | refine fr_vN_R rfl ?_ | refine fr_vH_R rfl ?_ | refine fr_vK_R rfl ?_ | refine fr_vF_R rfl ?_ | refine fr_vS_R rfl ?_ | refine fr_vG_R rfl ?_ | refine fr_vT_R rfl ?_ | refine fr_vX_R rfl ?_ | refine fr_vZ_R rfl ?_ | refine fr_vD_R (by decide) ?_)), (by repeat (first | assumption | refine fr_vC_I rfl ?_ | refine fr_vN_I rfl ?_ | refine fr_vH_I rfl ?_ | refine fr_vK_I rfl ?_ | refine fr_vF_I rfl ?_ | refine fr_vS_I rfl ?_ | refine fr_vL_I rfl ?_ | refine fr_vG_I rfl ?_ | refine fr_vD_I rfl ?_ | refine fr_vT_I rfl ?_ | refine fr_vX_I rfl ?_ | refine fr_vZ_I rfl ?_ | refine fr_vL_R ?_ | refine fr_vC_R rfl ?_ | refine fr_vN_R rfl ?_ | refine fr_vH_R rfl ?_ | refine fr_vK_R rfl ?_ | refine fr_vF_R rfl ?_ | refine fr_vS_R rfl ?_ | refine fr_vG_R rfl ?_ | refine fr_vT_R rfl ?_ | refine fr_vX_R rfl ?_ | refine fr_vZ_R rfl ?_ | refine fr_vD_R (by decide) ?_))⟩
  intro t i k j hi hf
  rw [gR_pR]
  by_cases c : t = 6 ∧ i = 0 ∧ k = 5
  · obtain ⟨rfl, rfl, rfl⟩ := c
    simp [zfin] at hf
  · rw [if_neg c]
    exact hO t i k j hi hf
theorem t_judge {σ : zSt} (h : Inv σ) (v1 v2 : Int32) : Ok2 (f11_judge v1 v2 σ) (f12_judge v1 v2) := by
  have hr := RI_of h
  rcases zcase v1 (mF σ) (by have := hr.2.2.1.2; omega) with ⟨f, hf, rfl, hv⟩ | hv
  · by_cases hw : 0 ≤ v2.toInt ∧ v2.toInt < 4
    · obtain ⟨w, -, ⟨o, s1, e1, c1, v1'⟩, e2⟩ := e_decide h hf
      have hI1 : Inv s1 := c1.1 (Inv_R5 h o)
      have x1 : RY s1 σ := c1.ry.tr (RY.rf.R)
      obtain ⟨s2, e3, c2, v2'⟩ := e2 s1 x1
      obtain ⟨a1, a2, a3, a4⟩ := v1'
      obtain ⟨b1, b2, b3, b4⟩ := v2'
      have k1 : f11_judge (nI f) v2 σ = if v2 = 0 then (some (w.1, s1)) else if v2 = 1 then (some (w.2.1, s1)) else if v2 = 2 then (some (w.2.2.1, s1)) else some (w.2.2.2, s1) := by
        unfold f11_judge
        rw [e_fAt h hf, zc1_s, zoc_s, e_isIn, if_pos (show 0 ≤ v2.toInt ∧ v2.toInt < (4 : Int32).toInt from hw), zc1_s, if_neg (by decide), e1, zc2_s, ← a1, ← a2, ← a3, ← a4]
      have k2 : f12_judge (nI f) v2 s1 = if v2 = 0 then (some (w.1, s2)) else if v2 = 1 then (some (w.2.1, s2)) else if v2 = 2 then (some (w.2.2.1, s2)) else some (w.2.2.2, s2) := by
        unfold f12_judge
        rw [m_isF (RI_of hI1), (RY_b x1).2.2.2.2.2.2.1, if_pos hv, zc1_s, if_neg (by decide), e_within, if_pos (by simp only [Int32.reduceToInt]; omega), zc1_s, if_neg (by decide), e3, zc2_s, ← b1, ← b2, ← b3, ← b4]
      by_cases q0 : v2 = 0
      · rw [if_pos q0] at k1 k2
        exact ⟨_, _, _, k1, hI1.1, k2, c2.1 hI1⟩
      · rw [if_neg q0] at k1 k2
        by_cases q1 : v2 = 1
        · rw [if_pos q1] at k1 k2
          exact ⟨_, _, _, k1, hI1.1, k2, c2.1 hI1⟩
        · rw [if_neg q1] at k1 k2
          by_cases q2 : v2 = 2
          · rw [if_pos q2] at k1 k2
            exact ⟨_, _, _, k1, hI1.1, k2, c2.1 hI1⟩
          · rw [if_neg q2] at k1 k2
            exact ⟨_, _, _, k1, hI1.1, k2, c2.1 hI1⟩
    · refine Ok2.same h (r := -1) ?_ ?_
      · unfold f11_judge
        rw [e_fAt h hf, zc1_s, zoc_s, e_isIn, if_neg (show ¬ (0 ≤ v2.toInt ∧ v2.toInt < (4 : Int32).toInt) from hw), zc1_s, if_pos rfl]
      · unfold f12_judge
        rw [m_isF hr, if_pos hv, zc1_s, if_neg (by decide), e_within, if_neg (by simp only [Int32.reduceToInt]; omega), zc1_s, if_pos rfl]
  · refine Ok2.same h (r := -1) ?_ ?_
    · unfold f11_judge
      rw [e_fAt_o h hv, zc1_s, zoc_n]
    · unfold f12_judge
      rw [m_isF hr, if_neg hv, zc1_s, if_pos rfl]
theorem Inv_m8 {σ : zSt} (h : Inv σ) {i : Nat} (hi : i < gN σ 5) {a b : Int32} (ha : btw 0 a 99999) : Inv (pI (pI (pI (pI σ 5 i 6 a) 5 i 8 b) 1310 0 i a) 1312 0 i b) := by
  obtain ⟨hO, hC, hN, hH, hK, hF, hS, hL, hG, hD, hT, hX, hZ⟩ := h
  refine ⟨hO, hC, (by repeat (first | assumption | refine fr_vC_I rfl ?_ | refine fr_vN_I rfl ?_ | refine fr_vH_I rfl ?_ | refine fr_vK_I rfl ?_ | refine fr_vF_I rfl ?_ | refine fr_vS_I rfl ?_ | refine fr_vL_I rfl ?_ | refine fr_vG_I rfl ?_ | refine fr_vD_I rfl ?_ | refine fr_vT_I rfl ?_ | refine fr_vX_I rfl ?_ | refine fr_vZ_I rfl ?_)), ?_, (by repeat (first | assumption | refine fr_vC_I rfl ?_ | refine fr_vN_I rfl ?_ | refine fr_vH_I rfl ?_ | refine fr_vK_I rfl ?_ | refine fr_vF_I rfl ?_ | refine fr_vS_I rfl ?_ | refine fr_vL_I rfl ?_ | refine fr_vG_I rfl ?_ | refine fr_vD_I rfl ?_ | refine fr_vT_I rfl ?_ | refine fr_vX_I rfl ?_ | refine fr_vZ_I rfl ?_)), (by repeat (first | assumption | refine fr_vC_I rfl ?_ | refine fr_vN_I rfl ?_ | refine fr_vH_I rfl ?_ | refine fr_vK_I rfl ?_ | refine fr_vF_I rfl ?_ | refine fr_vS_I rfl ?_ | refine fr_vL_I rfl ?_ | refine fr_vG_I rfl ?_ | refine fr_vD_I rfl ?_ | refine fr_vT_I rfl ?_ | refine fr_vX_I rfl ?_ | refine fr_vZ_I rfl ?_)), (by repeat (first | assumption | refine fr_vC_I rfl ?_ | refine fr_vN_I rfl ?_ | refine fr_vH_I rfl ?_ | refine fr_vK_I rfl ?_ | refine fr_vF_I rfl ?_ | refine fr_vS_I rfl ?_ | refine fr_vL_I rfl ?_ | refine fr_vG_I rfl ?_ | refine fr_vD_I rfl ?_ | refine fr_vT_I rfl ?_ | refine fr_vX_I rfl ?_ | refine fr_vZ_I rfl ?_)), (by repeat (first | assumption | refine fr_vC_I rfl ?_ | refine fr_vN_I rfl ?_ | refine fr_vH_I rfl ?_ | refine fr_vK_I rfl ?_ | refine fr_vF_I rfl ?_ | refine fr_vS_I rfl ?_ | refine fr_vL_I rfl ?_ | refine fr_vG_I rfl ?_ | refine fr_vD_I rfl ?_ | refine fr_vT_I rfl ?_ | refine fr_vX_I rfl ?_ | refine fr_vZ_I rfl ?_)), (by repeat (first | assumption | refine fr_vC_I rfl ?_ | refine fr_vN_I rfl ?_ | refine fr_vH_I rfl ?_ | refine fr_vK_I rfl ?_ | refine fr_vF_I rfl ?_ | refine fr_vS_I rfl ?_ | refine fr_vL_I rfl ?_ | refine fr_vG_I rfl ?_ | refine fr_vD_I rfl ?_ | refine fr_vT_I rfl ?_ | refine fr_vX_I rfl ?_ | refine fr_vZ_I rfl ?_)), (by repeat (first | assumption | refine fr_vC_I rfl ?_ | refine fr_vN_I rfl ?_ | refine fr_vH_I rfl ?_ | refine fr_vK_I rfl ?_ | refine fr_vF_I rfl ?_ | refine fr_vS_I rfl ?_ | refine fr_vL_I rfl ?_ | refine fr_vG_I rfl ?_ | refine fr_vD_I rfl ?_ | refine fr_vT_I rfl ?_ | refine fr_vX_I rfl ?_ | refine fr_vZ_I rfl ?_)), (by repeat (first | assumption | refine fr_vC_I rfl ?_ | refine fr_vN_I rfl ?_ | refine fr_vH_I rfl ?_ | refine fr_vK_I rfl ?_ | refine fr_vF_I rfl ?_ | refine fr_vS_I rfl ?_ | refine fr_vL_I rfl ?_ | refine fr_vG_I rfl ?_ | refine fr_vD_I rfl ?_ | refine fr_vT_I rfl ?_ | refine fr_vX_I rfl ?_ | refine fr_vZ_I rfl ?_)), (by repeat (first | assumption | refine fr_vC_I rfl ?_ | refine fr_vN_I rfl ?_ | refine fr_vH_I rfl ?_ | refine fr_vK_I rfl ?_ | refine fr_vF_I rfl ?_ | refine fr_vS_I rfl ?_ | refine fr_vL_I rfl ?_ | refine fr_vG_I rfl ?_ | refine fr_vD_I rfl ?_ | refine fr_vT_I rfl ?_ | refine fr_vX_I rfl ?_ | refine fr_vZ_I rfl ?_)), vZ_H (by decide) hi (vZ_H (by decide) hi (by repeat (first | assumption | refine fr_vC_I rfl ?_ | refine fr_vN_I rfl ?_ | refine fr_vH_I rfl ?_ | refine fr_vK_I rfl ?_ | refine fr_vF_I rfl ?_ | refine fr_vS_I rfl ?_ | refine fr_vL_I rfl ?_ | refine fr_vG_I rfl ?_ | refine fr_vD_I rfl ?_ | refine fr_vT_I rfl ?_ | refine fr_vX_I rfl ?_ | refine fr_vZ_I rfl ?_)))⟩
  intro j hj
  have h1 := hH j hj
  simp only [vH1] at h1 ⊢
  by_cases e : j = i
  · subst e
    simp (config := { contextual := true }) [gI_pI, gR_I, h1, ha]
  · simp (config := { contextual := true }) [gI_pI, gR_I, h1, e]
theorem Inv_m7 {σ : zSt} (h : Inv σ) {i : Nat} (hi : i < gN σ 5) {a b : Int32} (ha : btw 0 a 99999) : Inv (pI (pI (pI (pI σ 5 i 6 a) 5 i 7 b) 1310 0 i a) 1311 0 i b) := by
  obtain ⟨hO, hC, hN, hH, hK, hF, hS, hL, hG, hD, hT, hX, hZ⟩ := h
  refine ⟨hO, hC, (by repeat (first | assumption | refine fr_vC_I rfl ?_ | refine fr_vN_I rfl ?_ | refine fr_vH_I rfl ?_ | refine fr_vK_I rfl ?_ | refine fr_vF_I rfl ?_ | refine fr_vS_I rfl ?_ | refine fr_vL_I rfl ?_ | refine fr_vG_I rfl ?_ | refine fr_vD_I rfl ?_ | refine fr_vT_I rfl ?_ | refine fr_vX_I rfl ?_ | refine fr_vZ_I rfl ?_)), ?_, (by repeat (first | assumption | refine fr_vC_I rfl ?_ | refine fr_vN_I rfl ?_ | refine fr_vH_I rfl ?_ | refine fr_vK_I rfl ?_ | refine fr_vF_I rfl ?_ | refine fr_vS_I rfl ?_ | refine fr_vL_I rfl ?_ | refine fr_vG_I rfl ?_ | refine fr_vD_I rfl ?_ | refine fr_vT_I rfl ?_ | refine fr_vX_I rfl ?_ | refine fr_vZ_I rfl ?_)), (by repeat (first | assumption | refine fr_vC_I rfl ?_ | refine fr_vN_I rfl ?_ | refine fr_vH_I rfl ?_ | refine fr_vK_I rfl ?_ | refine fr_vF_I rfl ?_ | refine fr_vS_I rfl ?_ | refine fr_vL_I rfl ?_ | refine fr_vG_I rfl ?_ | refine fr_vD_I rfl ?_ | refine fr_vT_I rfl ?_ | refine fr_vX_I rfl ?_ | refine fr_vZ_I rfl ?_)), (by repeat (first | assumption | refine fr_vC_I rfl ?_ | refine fr_vN_I rfl ?_ | refine fr_vH_I rfl ?_ | refine fr_vK_I rfl ?_ | refine fr_vF_I rfl ?_ | refine fr_vS_I rfl ?_ | refine fr_vL_I rfl ?_ | refine fr_vG_I rfl ?_ | refine fr_vD_I rfl ?_ | refine fr_vT_I rfl ?_ | refine fr_vX_I rfl ?_ | refine fr_vZ_I rfl ?_)), (by repeat (first | assumption | refine fr_vC_I rfl ?_ | refine fr_vN_I rfl ?_ | refine fr_vH_I rfl ?_ | refine fr_vK_I rfl ?_ | refine fr_vF_I rfl ?_ | refine fr_vS_I rfl ?_ | refine fr_vL_I rfl ?_ | refine fr_vG_I rfl ?_ | refine fr_vD_I rfl ?_ | refine fr_vT_I rfl ?_ | refine fr_vX_I rfl ?_ | refine fr_vZ_I rfl ?_)), (by repeat (first | assumption | refine fr_vC_I rfl ?_ | refine fr_vN_I rfl ?_ | refine fr_vH_I rfl ?_ | refine fr_vK_I rfl ?_ | refine fr_vF_I rfl ?_ | refine fr_vS_I rfl ?_ | refine fr_vL_I rfl ?_ | refine fr_vG_I rfl ?_ | refine fr_vD_I rfl ?_ | refine fr_vT_I rfl ?_ | refine fr_vX_I rfl ?_ | refine fr_vZ_I rfl ?_)), (by repeat (first | assumption | refine fr_vC_I rfl ?_ | refine fr_vN_I rfl ?_ | refine fr_vH_I rfl ?_ | refine fr_vK_I rfl ?_ | refine fr_vF_I rfl ?_ | refine fr_vS_I rfl ?_ | refine fr_vL_I rfl ?_ | refine fr_vG_I rfl ?_ | refine fr_vD_I rfl ?_ | refine fr_vT_I rfl ?_ | refine fr_vX_I rfl ?_ | refine fr_vZ_I rfl ?_)), (by repeat (first | assumption | refine fr_vC_I rfl ?_ | refine fr_vN_I rfl ?_ | refine fr_vH_I rfl ?_ | refine fr_vK_I rfl ?_ | refine fr_vF_I rfl ?_ | refine fr_vS_I rfl ?_ | refine fr_vL_I rfl ?_ | refine fr_vG_I rfl ?_ | refine fr_vD_I rfl ?_ | refine fr_vT_I rfl ?_ | refine fr_vX_I rfl ?_ | refine fr_vZ_I rfl ?_)), (by repeat (first | assumption | refine fr_vC_I rfl ?_ | refine fr_vN_I rfl ?_ | refine fr_vH_I rfl ?_ | refine fr_vK_I rfl ?_ | refine fr_vF_I rfl ?_ | refine fr_vS_I rfl ?_ | refine fr_vL_I rfl ?_ | refine fr_vG_I rfl ?_ | refine fr_vD_I rfl ?_ | refine fr_vT_I rfl ?_ | refine fr_vX_I rfl ?_ | refine fr_vZ_I rfl ?_)), vZ_H (by decide) hi (vZ_H (by decide) hi (by repeat (first | assumption | refine fr_vC_I rfl ?_ | refine fr_vN_I rfl ?_ | refine fr_vH_I rfl ?_ | refine fr_vK_I rfl ?_ | refine fr_vF_I rfl ?_ | refine fr_vS_I rfl ?_ | refine fr_vL_I rfl ?_ | refine fr_vG_I rfl ?_ | refine fr_vD_I rfl ?_ | refine fr_vT_I rfl ?_ | refine fr_vX_I rfl ?_ | refine fr_vZ_I rfl ?_)))⟩
  intro j hj
  have h1 := hH j hj
  simp only [vH1] at h1 ⊢
  by_cases e : j = i
  · subst e
    simp (config := { contextual := true }) [gI_pI, gR_I, h1, ha]
  · simp (config := { contextual := true }) [gI_pI, gR_I, h1, e]
/-- a fault ends CLOSED -/
theorem Inv_end {σ : zSt} (h : Inv σ) {f n : Nat} {x : Int32} (hf : f < gN σ 1) (hn0 : n = sz σ f) (hlt : n < 30) (ho : gI σ 501 f (n - 1) = 0 ∨ gI σ 501 f (n - 1) = 1) (hx : x = zpe (zpr (gI σ 1 f 13) (gI σ 1 f 12) (gI σ 12 0 0))) : Inv (adM (pI (adC (pI σ 1 f 13 x) f n 3 (gI σ 12 0 0) (-1)) 1330 0 f x) f n 3 (-1)) := by
  obtain ⟨hO, hC, hN, hH, hK, hF, hS, hL, hG, hD, hT, hX, hZ⟩ := h
  obtain ⟨s1, s2, s3, s4, s5, s6, s7, s8, s9⟩ := hS f hf
  rw [← hn0] at s1 s2 s3 s4 s5
  have eo : gI σ 501 f (n - 1) = gI σ 1326 0 (30 * f + (n - 1)) := (s5 (n - 1) (by omega)).2.1
  have hz := zpr_same (q := gI σ 12 0 0) (hF f hf)
  have hl : sT σ f (n - 1) ≠ 2 := by
    show gI σ 1326 0 (30 * f + (n - 1)) ≠ 2
    rw [← eo]
    rcases ho with h | h <;> rw [h] <;> decide
  have hb := (hF f hf).2.2.2.2.2.2.2.2.2.2.2.2.2.2.2.2.2.2.2.2.2.1
  have hx3 : btw 0 x 3 := by
    rw [hx, hz]
    exact (zpe_in (zpr_in hb).1).1
  have hx0 : gI σ 1330 0 f = 0 → x = 0 := fun h0 => by
    rw [hx, hz]
    exact (zpe_in (zpr_in hb).1).2 ((zpr_in hb).2 h0)
  refine ⟨hO, hC, (by unfold adM adC; repeat (first | assumption | refine fr_vN_I rfl ?_ | refine fr_vH_I rfl ?_ | refine fr_vK_I rfl ?_ | refine fr_vG_I rfl ?_ | refine fr_vD_I rfl ?_ | refine fr_vT_I rfl ?_ | refine fr_vX_I rfl ?_)), (by unfold adM adC; repeat (first | assumption | refine fr_vN_I rfl ?_ | refine fr_vH_I rfl ?_ | refine fr_vK_I rfl ?_ | refine fr_vG_I rfl ?_ | refine fr_vD_I rfl ?_ | refine fr_vT_I rfl ?_ | refine fr_vX_I rfl ?_)), (by unfold adM adC; repeat (first | assumption | refine fr_vN_I rfl ?_ | refine fr_vH_I rfl ?_ | refine fr_vK_I rfl ?_ | refine fr_vG_I rfl ?_ | refine fr_vD_I rfl ?_ | refine fr_vT_I rfl ?_ | refine fr_vX_I rfl ?_)), ?_, ?_, ?_, (by unfold adM adC; repeat (first | assumption | refine fr_vN_I rfl ?_ | refine fr_vH_I rfl ?_ | refine fr_vK_I rfl ?_ | refine fr_vG_I rfl ?_ | refine fr_vD_I rfl ?_ | refine fr_vT_I rfl ?_ | refine fr_vX_I rfl ?_)), (by unfold adM adC; repeat (first | assumption | refine fr_vN_I rfl ?_ | refine fr_vH_I rfl ?_ | refine fr_vK_I rfl ?_ | refine fr_vG_I rfl ?_ | refine fr_vD_I rfl ?_ | refine fr_vT_I rfl ?_ | refine fr_vX_I rfl ?_)), (by unfold adM adC; repeat (first | assumption | refine fr_vN_I rfl ?_ | refine fr_vH_I rfl ?_ | refine fr_vK_I rfl ?_ | refine fr_vG_I rfl ?_ | refine fr_vD_I rfl ?_ | refine fr_vT_I rfl ?_ | refine fr_vX_I rfl ?_)), (by unfold adM adC; repeat (first | assumption | refine fr_vN_I rfl ?_ | refine fr_vH_I rfl ?_ | refine fr_vK_I rfl ?_ | refine fr_vG_I rfl ?_ | refine fr_vD_I rfl ?_ | refine fr_vT_I rfl ?_ | refine fr_vX_I rfl ?_)), ?_⟩
  · intro g hg
    have h1 := hF g hg
    by_cases e : g = f
    · subst e
      simp only [vF1, pD, hm, kd, qday] at h1 ⊢
      obtain ⟨a1, a2, a3, a4, a5, a6, a7, a8, a9, a10, a11, a12, a13, a14, a15, a16, a17, a18, a19, a20, a21, a22, a23, a24, a25⟩ := h1
      refine ⟨a1, ?_, a3, a4, a5, ?_, a7, ?_, a9, a10, a11, ?_, a13, ?_, ?_, a16, ?_, a18, ?_, a20, ?_, ?_, ?_, ?_, ?_⟩
      all_goals first | (simp [adM, adC, gI_pI, a2, a6, a8, a12, a14, a15, a17, a19, hx3, a24, a25]; done) | skip
      rcases a23 with h | h
      · exact Or.inl (by simpa [adM, adC, gI_pI] using h)
      · exact Or.inr (by simpa [adM, adC, gI_pI] using hx0 h)
    · simp only [vF1, pD, hm, kd, qday] at h1 ⊢
      simpa [adM, adC, gI_pI, gR_I, gN_I, e] using h1
  · exact vS_more (σ := σ) (f := f) (n := n) (t := 3) (q := gI σ 12 0 0) (w := -1) rfl hn0.symm hlt (fun g j => by simp [adM, adC, gI_pI]) (fun g j => by simp [adM, adC, gI_pI]) (fun g j => by simp [adM, adC, gI_pI]) (fun g => by simp [adM, adC, gI_pI]) (fun k => by simp [adM, adC, gI_pI]) (fun k => by simp [adM, adC, gI_pI]) (fun k => by simp [adM, adC, gI_pI]) (fun g => by simp [adM, adC, gI_pI]) (fun g e => by simp [adM, adC, gI_pI, e]) rfl rfl rfl (by unfold btw; decide) (fun h => absurd h (by decide)) (fun h => absurd h (by decide)) hS
  · exact vL_more (σ := σ) (f := f) (n := n) (t := 3) (w := -1) rfl hn0.symm s3 hlt (fun k => by simp [adM, adC, gI_pI]) (fun k => by simp [adM, adC, gI_pI]) (fun g => by simp [adM, adC, gI_pI]) rfl rfl rfl rfl rfl rfl hl (by decide) (fun g hg => ⟨(hS g hg).2.2.1, (hS g hg).2.2.2.1⟩) hL
  · unfold adM adC
    refine vZ_F (by decide) hf ?_
    refine fr_vZ_I rfl (fr_vZ_I rfl (fr_vZ_I rfl (vZ_F (by decide) hf ?_)))
    repeat (first | assumption | refine fr_vZ_I rfl ?_)
theorem adC_c {s : zSt} {f n T i k : Nat} {t q w v : Int32} (h : T ≠ 500 ∧ T ≠ 501 ∧ T ≠ 502 ∧ T ≠ 4) : pI (adC s f n t q w) T i k v = adC (pI s T i k v) f n t q w := by
  unfold adC
  rw [pI_c (t := 4) (t' := T) (fun e => h.2.2.2 e.1.symm), pI_c (t := 502) (t' := T) (fun e => h.2.2.1 e.1.symm), pI_c (t := 500) (t' := T) (fun e => h.1 e.1.symm), pI_c (t := 501) (t' := T) (fun e => h.2.1 e.1.symm)]
theorem Ch_adC {s σ : zSt} (h : Ch s σ) {f n : Nat} {t q w : Int32} : Ch (adC s f n t q w) (adC σ f n t q w) := by
  unfold adC
  exact (((h.ex).ex).ex).ex
theorem Ch_adM {s σ : zSt} (h : Ch s σ) {f n : Nat} {t w : Int32} : Ch (adM s f n t w) (adM σ f n t w) := by
  unfold adM
  have e : gI (pI s 1326 0 (30 * f + n) t) 12 0 0 = gI (pI σ 1326 0 (30 * f + n) t) 12 0 0 := by
    rw [gI_ne (by decide), gI_ne (by decide)]
    exact h.2.1 12 0 rfl 0
  rw [show gI s 12 0 0 = gI σ 12 0 0 from h.2.1 12 0 rfl 0]
  exact (((h.ex).ex).ex).ex
theorem t_take {σ : zSt} (h : Inv σ) (v1 : Int32) : Ok2 (f11_take v1 σ) (f12_take v1) := by
  have hr := RI_of h
  rcases zcase v1 (mF σ) (by have := hr.2.2.1.2; omega) with ⟨f, hf, rfl, hv⟩ | hv
  · obtain ⟨k1, k2, k3⟩ := F_hm hr hf
    have hl := F_lt hr hf
    obtain ⟨r1, r2, r3, r4⟩ := F_R h hf
    obtain ⟨aF, aS, -⟩ := A_F h hf
    obtain ⟨n, hn0⟩ : ∃ n, n = sz σ f := ⟨_, rfl⟩
    obtain ⟨s1, s2, s3, s4, s5, s6, s7, s8, s9⟩ := aS
    rw [← hn0] at s1 s2 s3 s4 s5
    have eo : gI σ 501 f (n - 1) = gI σ 1326 0 (30 * f + (n - 1)) := (s5 (n - 1) (by omega)).2.1
    obtain ⟨w, w0, ⟨o, t1, e1, c1, v1'⟩, e2⟩ := e_decide h hf
    have a := A_H h k2
    have a6 : gI σ 5 (hm σ f) 6 = gI σ 1310 0 (hm σ f) := a.2.2.2.2.2.2.2.1
    have a8 : gI σ 5 (hm σ f) 8 = gI σ 1312 0 (hm σ f) := a.2.2.2.2.2.2.2.2.2.1
    have b6 : btw 0 (gI σ 1310 0 (hm σ f)) 99999 := (hr.2.2.2.2.2.1 _ k2).2.2.2.2.1
    -- the reference from any state that is the same to it
    have ref : ∀ s, RY s σ → ∃ u, Ch u s ∧ V4 u 12 78 w ∧ f12_take (nI f) s = if gI σ 1326 0 (30 * f + (n - 1)) = 0 ∨ gI σ 1326 0 (30 * f + (n - 1)) = 1 then (if w.1 = 0 then (if (gI σ 1310 0 (hm σ f)) < w.2.2.1 then (some ((-3), u)) else if n = 30 then (some ((-3), u)) else
        zc2 (f12_endPromise (nI f) (pI (pI u 1310 0 (hm σ f) (gI σ 1310 0 (hm σ f) - w.2.2.1)) 1312 0 (hm σ f) (gI σ 1312 0 (hm σ f) + w.2.2.1))) fun _ s16 => zc2 (f12_become (nI f) 3 (-1) s16) fun _ s18 => some (gI s18 12 0 80, s18)) else some ((-3), u)) else some ((-3), u) := fun s x => by
      obtain ⟨u, u1, u2, u3⟩ := e2 s x
      obtain ⟨b1, b2, b3, b4⟩ := u3
      have xu : RY u σ := u2.ry.tr x
      have g29 : gI u 1329 0 f = nI n := by rw [xu.1 1329 (by omega) (by omega)]; exact s1
      refine ⟨u, u2, ⟨b1, b2, b3, b4⟩, ?_⟩
      have mo := m_isOpen (s := u) hl g29 ⟨s3, s4⟩
      rw [xu.1 1326 (by omega) (by omega)] at mo
      have b3' : gI u 12 0 80 = w.2.2.1 := b3
      unfold f12_take
      rw [m_isF (RI_Y x hr), (RY_b x).2.2.2.2.2.2.1, if_pos hv, zc1_s, if_neg (by decide), u1, zc2_s, zix_s hl (by decide), xu.1 1318 (by omega) (by omega), k1, zlt_s, mo, zc1_s]
      by_cases q1 : gI σ 1326 0 (30 * f + (n - 1)) = 0 ∨ gI σ 1326 0 (30 * f + (n - 1)) = 1
      · rw [if_pos q1, if_pos q1, if_neg (by decide), b1]
        by_cases q2 : w.1 = 0
        · rw [if_pos q2, if_pos q2, zix_s k3 (by decide), b3', xu.1 1310 (by omega) (by omega)]
          by_cases q3 : (gI σ 1310 0 (hm σ f)) < w.2.2.1
          · rw [if_pos q3, if_pos q3]
          · rw [if_neg q3, if_neg q3, zix_s hl (by decide), g29]
            by_cases q4 : n = 30
            · rw [q4, if_pos (show nI 30 = 30 from rfl), if_pos rfl]
            · rw [if_neg (show ¬ nI n = 30 by show ¬ _ = nI 30; rw [nI_inj (by omega) (by decide)]; exact q4), if_neg q4, zix_s k3 (by decide), zix_s k3 (by decide), zlt_s, zix_s k3 (by decide), zix_s k3 (by decide), gI_ne (show 1312 ≠ 1310 by decide), gI_ne (show 12 ≠ 1310 by decide), b3', xu.1 1312 (by omega) (by omega), zlt_s]
        · rw [if_neg q2, if_neg q2]
      · rw [if_neg q1, if_neg q1, if_pos rfl]
    by_cases ho : gI σ 501 f (n - 1) = 0 ∨ gI σ 501 f (n - 1) = 1
    · have ho' : gI σ 1326 0 (30 * f + (n - 1)) = 0 ∨ gI σ 1326 0 (30 * f + (n - 1)) = 1 := by rw [← eo]; exact ho
      by_cases hfull : n = 30
      · obtain ⟨u, u1, u2, u3⟩ := ref σ RY.rf
        rw [if_pos ho', if_pos hfull, ite_self] at u3
        refine ⟨-3, σ, u, ?_, h.1, ?_, u1.1 h⟩
        · unfold f11_take
          rw [e_fAt h hf, zc1_s, zoc_s, e_isWaiting s2 ⟨s3, s4⟩, zc1_s, if_neg (by rw [t01]; exact fun h => h ho), e_isFull s2 ⟨s3, s4⟩, zc1_s, if_neg (by rw [t01]; exact fun h => h hfull)]
        · rw [u3, ite_self]
      · have hlt : n < 30 := by omega
        obtain ⟨a1, a2, a3, a4⟩ := v1'
        have x1 : RY t1 σ := c1.ry.tr (RY.rf.R)
        have hI1 : Inv t1 := c1.1 (Inv_R5 h o)
        have gt : ∀ t, nscA t = true → gI t1 t = gI σ t := fun t ht => c1.A ht
        have gr : gR t1 1 f 1 = some (hm σ f) := by
          rw [c1.2.2.1, gR_pR, if_neg (by omega)]
          exact r3
        have cls : f11_take (nI f) σ = if w.1 = 0 then (if w.2.2.1 ≤ gI σ 1310 0 (hm σ f) then zc2 (f1_endWith f 3 (qday σ) (pI (pI t1 5 (hm σ f) 6 (gI σ 1310 0 (hm σ f) - w.2.2.1)) 5 (hm σ f) 8 (gI σ 1312 0 (hm σ f) + w.2.2.1))) fun _ s18 => some (w.2.2.1, s18) else some (-3, t1)) else some (-3, t1) := by
          have a3' : gI t1 6 0 3 = w.2.2.1 := a3
          unfold f11_take
          rw [e_fAt h hf, zc1_s, zoc_s, e_isWaiting s2 ⟨s3, s4⟩, zc1_s, if_neg (by rw [t01]; exact fun h => h ho), e_isFull s2 ⟨s3, s4⟩, zc1_s, if_pos (by rw [t01]; exact hfull), e1, zc2_s]
          dsimp only
          rw [a3', zlt_s, a1]
          by_cases q2 : w.1 = 0
          · rw [if_pos q2, if_pos q2, gr, zlt_s, zoc_s, gt 5 rfl, a6]
            by_cases q3 : w.2.2.1 ≤ gI σ 1310 0 (hm σ f)
            · rw [if_pos q3, if_pos q3, zlt_s, zoc_s, zlt_s, gR_I, gr, zlt_s, zoc_s, gI_nk (show ¬ (5 = 5 ∧ 8 = 6) by decide), gt 5 rfl, a8, zlt_s, gI_ne (show 11 ≠ 5 by decide), gI_ne (show 11 ≠ 5 by decide), gt 11 rfl, (N_q h).1, a6]
            · rw [if_neg q3, if_neg q3]
          · rw [if_neg q2, if_neg q2]
        by_cases q2 : w.1 = 0
        · rw [if_pos q2] at cls
          by_cases q3 : w.2.2.1 ≤ gI σ 1310 0 (hm σ f)
          · rw [if_pos q3] at cls
            have q3' := q3
            rw [i_le] at q3'
            obtain ⟨A, hA⟩ : ∃ A, A = gI σ 1310 0 (hm σ f) - w.2.2.1 := ⟨_, rfl⟩
            obtain ⟨D, hD⟩ : ∃ D, D = gI σ 1312 0 (hm σ f) + w.2.2.1 := ⟨_, rfl⟩
            obtain ⟨X, hX⟩ : ∃ X, X = zpe (zpr (gI σ 1 f 13) (gI σ 1 f 12) (qday σ)) := ⟨_, rfl⟩
            have hA2 : btw 0 A 99999 := by
              have h1 := b6.1
              have h2 := b6.2
              rw [hA]
              unfold btw
              rw [i_subp (by omega)]
              omega
            rw [← hA, ← hD] at cls
            have g4 : gI (pI (pI t1 5 (hm σ f) 6 A) 5 (hm σ f) 8 D) 4 f 3 = nI n := by
              rw [gI_ne (by decide), gI_ne (by decide), gt 4 rfl]
              exact s2
            have g113 : gI (pI (pI t1 5 (hm σ f) 6 A) 5 (hm σ f) 8 D) 1 = gI σ 1 := by rw [gI_ne (by decide), gI_ne (by decide), gt 1 rfl]
            rw [e_endWith g4 hlt, zc2_s, g113, ← hX] at cls
            obtain ⟨u, u1, u2, u3⟩ := ref (adC (pI (pI (pI t1 5 (hm σ f) 6 A) 5 (hm σ f) 8 D) 1 f 13 X) f n 3 (qday σ) (-1)) (by
              unfold adC
              exact ((((((x1.I (by omega)).I (by omega)).I (by omega)).I (by omega)).I (by omega)).I (by omega)).I (by omega))
            rw [if_pos ho', if_pos q2, if_neg (show ¬ gI σ 1310 0 (hm σ f) < w.2.2.1 by rw [i_lt]; omega), if_neg hfull, ← hA, ← hD] at u3
            have xu : RY u σ := u1.ry.tr (by
              unfold adC
              exact ((((((x1.I (by omega)).I (by omega)).I (by omega)).I (by omega)).I (by omega)).I (by omega)).I (by omega))
            have xu2 : ∀ a, a ≠ 1310 → a ≠ 1312 → 1300 ≤ a → a ≤ 1354 → gI (pI (pI u 1310 0 (hm σ f) A) 1312 0 (hm σ f) D) a = gI σ a := fun a h1 h2 h3 h4 => by
              rw [gI_ne h2, gI_ne h1, xu.1 a h3 h4]
            have ep := m_endPromise (s := pI (pI u 1310 0 (hm σ f) A) 1312 0 (hm σ f) D) hl
            rw [xu2 1330 (by decide) (by decide) (by decide) (by decide), xu2 1331 (by decide) (by decide) (by decide) (by decide), gI_ne (show 12 ≠ 1312 by decide), gI_ne (show 12 ≠ 1310 by decide), xu.2 0 (by omega), ← zpr_same aF] at ep
            have ep' : f12_endPromise (nI f) (pI (pI u 1310 0 (hm σ f) A) 1312 0 (hm σ f) D) = some ((), pI (pI (pI u 1310 0 (hm σ f) A) 1312 0 (hm σ f) D) 1330 0 f X) := by
              rw [ep, hX]
              rfl
            have g29 : gI (pI (pI (pI u 1310 0 (hm σ f) A) 1312 0 (hm σ f) D) 1330 0 f X) 1329 0 f = nI n := by
              rw [gI_ne (by decide), xu2 1329 (by decide) (by decide) (by decide) (by decide)]
              exact s1
            rw [ep', zc2_s, m_become hl g29 hlt, zc2_s] at u3
            have e80 : gI (adM (pI (pI (pI u 1310 0 (hm σ f) A) 1312 0 (hm σ f) D) 1330 0 f X) f n 3 (-1)) 12 0 80 = w.2.2.1 := by
              unfold adM
              rw [gI_ne (by decide), gI_ne (by decide), gI_ne (by decide), gI_ne (by decide), gI_ne (by decide), gI_ne (by decide), gI_ne (by decide)]
              exact u2.2.2.1
            rw [e80] at u3
            refine ⟨w.2.2.1, _, _, cls, hI1.1, u3, ?_⟩
            -- the invariant
            have hi5 : hm σ f < gN (pR σ 6 0 5 o) 5 := by
              have := mH_e h
              show hm σ f < gN σ 5
              omega
            have Iρ := Inv_m8 (Inv_R5 h o) hi5 (b := D) hA2
            have If := Inv_end Iρ (f := f) (n := n) (x := X) (by
              have := mF_e h
              show f < gN σ 1
              omega) hn0 hlt ho hX
            have cu : Ch (pI (pI (pI u 1310 0 (hm σ f) A) 1312 0 (hm σ f) D) 1330 0 f X) (pI (adC (pI (pI (pI (pI (pI (pR σ 6 0 5 o) 5 (hm σ f) 6 A) 5 (hm σ f) 8 D) 1310 0 (hm σ f) A) 1312 0 (hm σ f) D) 1 f 13 X) f n 3 (qday σ) (-1)) 1330 0 f X) := by
              have c0 : Ch u (adC (pI (pI (pI (pR σ 6 0 5 o) 5 (hm σ f) 6 A) 5 (hm σ f) 8 D) 1 f 13 X) f n 3 (qday σ) (-1)) := u1.tr (Ch_adC (((c1.ex).ex).ex))
              have c2 := ((c0.ex (t := 1310) (i := 0) (k := hm σ f) (v := A)).ex (t := 1312) (i := 0) (k := hm σ f) (v := D)).ex (t := 1330) (i := 0) (k := f) (v := X)
              rw [adC_c (T := 1310) (by decide), adC_c (T := 1312) (by decide), pI_c (t := 1) (t' := 1310) (fun e => absurd e.1 (by decide)), pI_c (t := 1) (t' := 1312) (fun e => absurd e.1 (by decide))] at c2
              exact c2
            exact (Ch_adM cu).1 If
          · rw [if_neg q3] at cls
            obtain ⟨u, u1, u2, u3⟩ := ref t1 x1
            rw [if_pos ho', if_pos q2, if_pos (show gI σ 1310 0 (hm σ f) < w.2.2.1 by rw [i_lt]; rw [i_le] at q3; omega)] at u3
            exact ⟨-3, t1, u, cls, hI1.1, u3, u1.1 hI1⟩
        · rw [if_neg q2] at cls
          obtain ⟨u, u1, u2, u3⟩ := ref t1 x1
          rw [if_pos ho', if_neg q2] at u3
          exact ⟨-3, t1, u, cls, hI1.1, u3, u1.1 hI1⟩
    · obtain ⟨u, u1, u2, u3⟩ := ref σ RY.rf
      rw [if_neg (by rw [← eo]; exact ho)] at u3
      refine ⟨-3, σ, u, ?_, h.1, u3, u1.1 h⟩
      unfold f11_take
      rw [e_fAt h hf, zc1_s, zoc_s, e_isWaiting s2 ⟨s3, s4⟩, zc1_s, if_pos (by rw [t01]; exact ho)]
  · refine Ok2.same h (r := -1) ?_ ?_
    · unfold f11_take
      rw [e_fAt_o h hv, zc1_s, zoc_n]
    · unfold f12_take
      rw [m_isF hr, if_neg hv, zc1_s, if_pos rfl]
