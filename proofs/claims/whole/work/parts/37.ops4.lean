theorem t_sell {σ : zSt} (h : Inv σ) (v1 : Int32) : Ok2 (f11_sell v1 σ) (f12_sell v1) := by
  have h' := h
  obtain ⟨hO, hC, hN, hH, hK, hF, hS, hL, hG, hD, hT, hX, hZ⟩ := h
  have hN' := hN
  obtain ⟨n1, n2, n3, n4, n5, n6, n7, n8, n9, n10, n11, -⟩ := hN'
  have n10' : gI σ 11 0 6 = gI σ 12 0 0 := n10
  rcases zcase v1 (gN σ 5) (by omega) with ⟨i, hi, rfl, hv⟩ | hv
  · have hi' := hH i hi
    have hR := hi'.1
    obtain ⟨a1, a2, a3, a4, a5, a6, a7, a8, a9, a10, a11, a12, a13, a14, a15, a16, a17, a18, a19⟩ := hi'
    have hb4 : btw (-1) (gI σ 5 i 4) 9999 := by rw [a6]; exact a14
    obtain ⟨c, hc⟩ : ∃ c, c = nT (gI σ 1307 0 i) := ⟨_, rfl⟩
    have hc1 : gI σ 1307 0 i = nI c := by rw [hc]; exact i_ofNat a17.1
    have hc2 : c ≤ 20 := by have := a17.2; have := a17.1; rw [hc]; unfold nT; omega
    have hc3 : gI σ 5 i 9 = nI c := by rw [a11, hc1]
    by_cases hk : 0 ≤ (gI σ 5 i 4).toInt
    · by_cases hlt : c < 20
      · refine ⟨nI (c + 1), pI (pI σ 610 i c (gI σ 11 0 6)) 5 i 9 (nI (c + 1)), pI (pI (pI (pI σ 610 i c (gI σ 11 0 6)) 5 i 9 (nI (c + 1))) 1306 0 (20 * i + c) (gI σ 12 0 0)) 1307 0 i (nI (c + 1)), ?_, hO, ?_, ?_⟩
        · unfold f11_sell f5_addSale
          rw [e_homeAt n1 n3 hR hi, zc1_s, zoc_s, e_hasKey hb4, zc1_s, if_pos hk, if_neg (by decide), hc3, if_pos (show nI c < 20 from nI_lt hlt (by decide))]
          simp only [zlt_s, zc2_s, zix_s (show c < 20 by omega) (show 20 < 2 ^ 31 by decide), gI_pI]
          rw [if_neg (by decide)]
          simp [hc3, nI_suc c (by omega)]
        · unfold f12_sell
          rw [m_isHome (n := gN σ 5) (by exact n2) n3]
          simp only [zc1_s, t01, zlt_s, zix_s (show i < 40 by omega) (by decide)]
          rw [if_neg (by omega), if_pos]
          · have e1 : gI (pI (pI σ 610 i c (gI σ 11 0 6)) 5 i 9 (nI (c + 1))) 1307 0 i = nI c := hc1
            simp only [e1, nI_row20 i c (by omega), zix_s (show 20 * i + c < 800 by omega) (show 800 < 2 ^ 31 by decide)]
            rw [if_neg]
            · simp [gI_pI, hc1, nI_suc c (by omega)]
            · show ¬ nI c = nI 20
              rw [nI_inj (by omega) (by decide)]
              omega
          · show 0 ≤ gI σ 1305 0 i
            rw [← a6, i_le]
            exact hk
        · refine ⟨hO, hC, (by repeat (first | assumption | refine fr_vC_I rfl ?_ | refine fr_vN_I rfl ?_ | refine fr_vH_I rfl ?_ | refine fr_vK_I rfl ?_ | refine fr_vF_I rfl ?_ | refine fr_vS_I rfl ?_ | refine fr_vL_I rfl ?_ | refine fr_vG_I rfl ?_ | refine fr_vD_I rfl ?_ | refine fr_vT_I rfl ?_ | refine fr_vX_I rfl ?_ | refine fr_vZ_I rfl ?_)), ?_, (by repeat (first | assumption | refine fr_vC_I rfl ?_ | refine fr_vN_I rfl ?_ | refine fr_vH_I rfl ?_ | refine fr_vK_I rfl ?_ | refine fr_vF_I rfl ?_ | refine fr_vS_I rfl ?_ | refine fr_vL_I rfl ?_ | refine fr_vG_I rfl ?_ | refine fr_vD_I rfl ?_ | refine fr_vT_I rfl ?_ | refine fr_vX_I rfl ?_ | refine fr_vZ_I rfl ?_)), (by repeat (first | assumption | refine fr_vC_I rfl ?_ | refine fr_vN_I rfl ?_ | refine fr_vH_I rfl ?_ | refine fr_vK_I rfl ?_ | refine fr_vF_I rfl ?_ | refine fr_vS_I rfl ?_ | refine fr_vL_I rfl ?_ | refine fr_vG_I rfl ?_ | refine fr_vD_I rfl ?_ | refine fr_vT_I rfl ?_ | refine fr_vX_I rfl ?_ | refine fr_vZ_I rfl ?_)), (by repeat (first | assumption | refine fr_vC_I rfl ?_ | refine fr_vN_I rfl ?_ | refine fr_vH_I rfl ?_ | refine fr_vK_I rfl ?_ | refine fr_vF_I rfl ?_ | refine fr_vS_I rfl ?_ | refine fr_vL_I rfl ?_ | refine fr_vG_I rfl ?_ | refine fr_vD_I rfl ?_ | refine fr_vT_I rfl ?_ | refine fr_vX_I rfl ?_ | refine fr_vZ_I rfl ?_)), (by repeat (first | assumption | refine fr_vC_I rfl ?_ | refine fr_vN_I rfl ?_ | refine fr_vH_I rfl ?_ | refine fr_vK_I rfl ?_ | refine fr_vF_I rfl ?_ | refine fr_vS_I rfl ?_ | refine fr_vL_I rfl ?_ | refine fr_vG_I rfl ?_ | refine fr_vD_I rfl ?_ | refine fr_vT_I rfl ?_ | refine fr_vX_I rfl ?_ | refine fr_vZ_I rfl ?_)), (by repeat (first | assumption | refine fr_vC_I rfl ?_ | refine fr_vN_I rfl ?_ | refine fr_vH_I rfl ?_ | refine fr_vK_I rfl ?_ | refine fr_vF_I rfl ?_ | refine fr_vS_I rfl ?_ | refine fr_vL_I rfl ?_ | refine fr_vG_I rfl ?_ | refine fr_vD_I rfl ?_ | refine fr_vT_I rfl ?_ | refine fr_vX_I rfl ?_ | refine fr_vZ_I rfl ?_)), (by repeat (first | assumption | refine fr_vC_I rfl ?_ | refine fr_vN_I rfl ?_ | refine fr_vH_I rfl ?_ | refine fr_vK_I rfl ?_ | refine fr_vF_I rfl ?_ | refine fr_vS_I rfl ?_ | refine fr_vL_I rfl ?_ | refine fr_vG_I rfl ?_ | refine fr_vD_I rfl ?_ | refine fr_vT_I rfl ?_ | refine fr_vX_I rfl ?_ | refine fr_vZ_I rfl ?_)), (by repeat (first | assumption | refine fr_vC_I rfl ?_ | refine fr_vN_I rfl ?_ | refine fr_vH_I rfl ?_ | refine fr_vK_I rfl ?_ | refine fr_vF_I rfl ?_ | refine fr_vS_I rfl ?_ | refine fr_vL_I rfl ?_ | refine fr_vG_I rfl ?_ | refine fr_vD_I rfl ?_ | refine fr_vT_I rfl ?_ | refine fr_vX_I rfl ?_ | refine fr_vZ_I rfl ?_)), (by repeat (first | assumption | refine fr_vC_I rfl ?_ | refine fr_vN_I rfl ?_ | refine fr_vH_I rfl ?_ | refine fr_vK_I rfl ?_ | refine fr_vF_I rfl ?_ | refine fr_vS_I rfl ?_ | refine fr_vL_I rfl ?_ | refine fr_vG_I rfl ?_ | refine fr_vD_I rfl ?_ | refine fr_vT_I rfl ?_ | refine fr_vX_I rfl ?_ | refine fr_vZ_I rfl ?_)), vZ_H (by decide) hi (vZ_S hlt hi (by repeat (first | assumption | refine fr_vC_I rfl ?_ | refine fr_vN_I rfl ?_ | refine fr_vH_I rfl ?_ | refine fr_vK_I rfl ?_ | refine fr_vF_I rfl ?_ | refine fr_vS_I rfl ?_ | refine fr_vL_I rfl ?_ | refine fr_vG_I rfl ?_ | refine fr_vD_I rfl ?_ | refine fr_vT_I rfl ?_ | refine fr_vX_I rfl ?_ | refine fr_vZ_I rfl ?_)))⟩
          intro j hj
          have h1 := hH j hj
          have hq2 : btw 0 (nI (c + 1)) 20 := by
            unfold btw
            rw [nI_ti (by omega)]
            omega
          simp only [vH1] at h1 ⊢
          obtain ⟨b1, b2, b3, b4, b5, b6, b7, b8, b9, b10, b11, b12, b13, b14, b15, b16, b17, b18, b19⟩ := h1
          by_cases e : j = i
          · subst e
            refine ⟨b1, (by simpa [gI_pI] using b2), (by simpa [gI_pI] using b3), (by simpa [gI_pI] using b4), (by simpa [gI_pI] using b5), (by simpa [gI_pI] using b6), (by simpa [gI_pI] using b7), (by simpa [gI_pI] using b8), (by simpa [gI_pI] using b9), (by simpa [gI_pI] using b10), ?_, b12, b13, b14, b15, b16, ?_, fun s hs => ?_, b19⟩
            · simp [gI_pI]
            · simp [gI_pI, hq2]
            · by_cases e2 : s = c
              · subst e2
                simp [gI_pI, n10']
              · have := b18 s hs
                simp [gI_pI, e2, this]
          · have hne : ∀ s, s < 20 → ¬ 20 * j + s = 20 * i + c := by omega
            refine ⟨b1, (by simpa [gI_pI] using b2), (by simpa [gI_pI] using b3), (by simpa [gI_pI] using b4), (by simpa [gI_pI] using b5), (by simpa [gI_pI] using b6), (by simpa [gI_pI] using b7), (by simpa [gI_pI] using b8), (by simpa [gI_pI] using b9), (by simpa [gI_pI] using b10), ?_, b12, b13, b14, b15, b16, ?_, fun s hs => ?_, b19⟩
            · simp [gI_pI, e, b11]
            · simp [gI_pI, e, b17]
            · have := b18 s hs
              simp [gI_pI, e, this, hne s hs]
      · have hc20 : c = 20 := by omega
        refine Ok2.same h' (r := -2) ?_ ?_
        · unfold f11_sell f5_addSale
          rw [e_homeAt n1 n3 hR hi, zc1_s, zoc_s, e_hasKey hb4, zc1_s, if_pos hk, if_neg (by decide), hc3, hc20, if_neg (show ¬ (nI 20 < 20) by decide)]
          rfl
        · unfold f12_sell
          rw [m_isHome (n := gN σ 5) (by exact n2) n3]
          simp only [zc1_s, t01, zlt_s, zix_s (show i < 40 by omega) (by decide)]
          rw [if_neg (by omega), if_pos, if_pos]
          · rw [hc1, hc20]; rfl
          · rw [← a6, i_le]
            exact hk
    · refine Ok2.same h' (r := -3) ?_ ?_
      · unfold f11_sell
        rw [e_homeAt n1 n3 hR hi, zc1_s, zoc_s, e_hasKey hb4, zc1_s, if_neg hk, if_pos rfl]
      · unfold f12_sell
        rw [m_isHome (n := gN σ 5) (by exact n2) n3]
        simp only [zc1_s, t01, zlt_s, zix_s (show i < 40 by omega) (by decide)]
        rw [if_neg (by omega), if_neg]
        rw [← a6, i_le]
        exact hk
  · refine Ok2.same h' (r := -1) ?_ ?_
    · unfold f11_sell
      rw [e_homeAt_o n1 n3 hv, zc1_s, zoc_n]
    · unfold f12_sell
      rw [m_isHome (n := gN σ 5) (by exact n2) n3]
      simp only [zc1_s, t01]
      rw [if_pos hv]
