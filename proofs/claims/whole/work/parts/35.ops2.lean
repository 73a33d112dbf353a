theorem vZ_H {σ : zSt} {t k : Nat} {v : Int32} (ht : zoff [1306, 1329, 1330, 1332, 1333, 1334, 1335, 1344] [] t 0 = true) (hk : k < gN σ 5) (H : vZ σ) : vZ (pI σ t 0 k v) := by
  refine ⟨fun i hi => ?_, fun f hf => ?_⟩
  · have h := H.1 i hi
    have hi' : gN σ 5 ≤ i := hi
    have e : ∀ a, gI (pI σ t 0 k v) a 0 i = gI σ a 0 i := fun a => by
      rw [gI_pI, if_neg]
      rintro ⟨_, _, e⟩
      omega
    rw [e, e, e, e, gI_ne (zoff_a ht (a := 1306) (by decide))]
    exact h
  · have h := H.2 f hf
    rw [gI_ne (zoff_a ht (a := 1329) (by decide)), gI_ne (zoff_a ht (a := 1330) (by decide)), gI_ne (zoff_a ht (a := 1332) (by decide)), gI_ne (zoff_a ht (a := 1333) (by decide)), gI_ne (zoff_a ht (a := 1334) (by decide)), gI_ne (zoff_a ht (a := 1335) (by decide)), gI_ne (zoff_a ht (a := 1344) (by decide))]
    exact h
theorem vZ_S {σ : zSt} {k c : Nat} {v : Int32} (hc : c < 20) (hk : k < gN σ 5) (H : vZ σ) : vZ (pI σ 1306 0 (20 * k + c) v) := by
  refine ⟨fun i hi => ?_, H.2⟩
  have h := H.1 i hi
  have hi' : gN σ 5 ≤ i := hi
  refine ⟨h.1, h.2.1, h.2.2.1, h.2.2.2.1, fun j hj => ?_⟩
  rw [gI_pI, if_neg]
  · exact h.2.2.2.2 j hj
  · rintro ⟨_, _, e⟩
    omega
theorem vZ_F {σ : zSt} {t k : Nat} {v : Int32} (ht : zoff [1306, 1307, 1310, 1311, 1312] [] t 0 = true) (hk : k < gN σ 1) (H : vZ σ) : vZ (pI σ t 0 k v) := by
  refine ⟨fun i hi => ?_, fun f hf => ?_⟩
  · have h := H.1 i hi
    rw [gI_ne (zoff_a ht (a := 1306) (by decide)), gI_ne (zoff_a ht (a := 1307) (by decide)), gI_ne (zoff_a ht (a := 1310) (by decide)), gI_ne (zoff_a ht (a := 1311) (by decide)), gI_ne (zoff_a ht (a := 1312) (by decide))]
    exact h
  · have h := H.2 f hf
    have hf' : gN σ 1 ≤ f := hf
    have e : ∀ a, gI (pI σ t 0 k v) a 0 f = gI σ a 0 f := fun a => by
      rw [gI_pI, if_neg]
      rintro ⟨_, _, e⟩
      omega
    rw [e, e, e, e, e, e, e]
    exact h
theorem t_key {σ : zSt} (h : Inv σ) (v1 v2 : Int32) : Ok2 (f11_key v1 v2 σ) (f12_key v1 v2) := by
  have h' := h
  obtain ⟨hO, hC, hN, hH, hK, hF, hS, hL, hG, hD, hT, hX, hZ⟩ := h
  have hN' := hN
  obtain ⟨n1, n2, n3, n4, n5, n6, n7, n8, n9, n10, n11, -⟩ := hN'
  rcases zcase v1 (gN σ 5) (by omega) with ⟨i, hi, rfl, hv⟩ | hv
  · have hi' := hH i hi
    have hR := hi'.1
    have h13 := hi'.2.2.2.2.2.1
    have hb4 : btw (-1) (gI σ 5 i 4) 9999 := by rw [h13]; exact hi'.2.2.2.2.2.2.2.2.2.2.2.2.2.1
    by_cases hb : 0 ≤ v2.toInt ∧ v2.toInt < 100000
    · by_cases hk : 0 ≤ (gI σ 5 i 4).toInt
      · refine Ok2.same h' (r := -3) ?_ ?_
        · unfold f11_key
          rw [e_homeAt n1 n3 hR hi, zc1_s, zoc_s, e_isIn]
          simp only [zc1_s, t01, Int32.reduceToInt, zlt_s, e_hasKey hb4]
          rw [if_neg (by omega), if_neg (by omega)]
        · unfold f12_key
          rw [m_isHome (n := gN σ 5) (by exact n2) n3]
          simp only [zc1_s, t01, e_within, Int32.reduceToInt, zlt_s, zix_s (show i < 40 by omega) (by decide)]
          rw [if_neg (by omega), if_neg (by omega), if_neg (by rw [← h13, i_lt]; simp only [Int32.reduceToInt]; omega)]
      · refine ⟨1, pI (pI σ 5 i 4 (gI σ 11 0 6)) 5 i 6 v2, pI (pI (pI (pI σ 5 i 4 (gI σ 11 0 6)) 5 i 6 v2) 1305 0 i (gI σ 12 0 0)) 1310 0 i v2, ?_, hO, ?_, ?_⟩
        · unfold f11_key
          rw [e_homeAt n1 n3 hR hi, zc1_s, zoc_s, e_isIn]
          simp only [zc1_s, t01, Int32.reduceToInt, zlt_s, e_hasKey hb4]
          rw [if_neg (by omega), if_pos (by omega)]
        · unfold f12_key
          rw [m_isHome (n := gN σ 5) (by exact n2) n3]
          simp only [zc1_s, t01, e_within, Int32.reduceToInt, zlt_s, zix_s (show i < 40 by omega) (by decide)]
          rw [if_neg (by omega), if_neg (by omega), if_pos]
          · rfl
          · show gI σ 1305 0 i < 0
            rw [← h13, i_lt]
            simp only [Int32.reduceToInt]
            omega
        · refine ⟨hO, hC, (by repeat (first | assumption | refine fr_vC_I rfl ?_ | refine fr_vN_I rfl ?_ | refine fr_vH_I rfl ?_ | refine fr_vK_I rfl ?_ | refine fr_vF_I rfl ?_ | refine fr_vS_I rfl ?_ | refine fr_vL_I rfl ?_ | refine fr_vG_I rfl ?_ | refine fr_vD_I rfl ?_ | refine fr_vT_I rfl ?_ | refine fr_vX_I rfl ?_ | refine fr_vZ_I rfl ?_)), ?_, (by repeat (first | assumption | refine fr_vC_I rfl ?_ | refine fr_vN_I rfl ?_ | refine fr_vH_I rfl ?_ | refine fr_vK_I rfl ?_ | refine fr_vF_I rfl ?_ | refine fr_vS_I rfl ?_ | refine fr_vL_I rfl ?_ | refine fr_vG_I rfl ?_ | refine fr_vD_I rfl ?_ | refine fr_vT_I rfl ?_ | refine fr_vX_I rfl ?_ | refine fr_vZ_I rfl ?_)), (by repeat (first | assumption | refine fr_vC_I rfl ?_ | refine fr_vN_I rfl ?_ | refine fr_vH_I rfl ?_ | refine fr_vK_I rfl ?_ | refine fr_vF_I rfl ?_ | refine fr_vS_I rfl ?_ | refine fr_vL_I rfl ?_ | refine fr_vG_I rfl ?_ | refine fr_vD_I rfl ?_ | refine fr_vT_I rfl ?_ | refine fr_vX_I rfl ?_ | refine fr_vZ_I rfl ?_)), (by repeat (first | assumption | refine fr_vC_I rfl ?_ | refine fr_vN_I rfl ?_ | refine fr_vH_I rfl ?_ | refine fr_vK_I rfl ?_ | refine fr_vF_I rfl ?_ | refine fr_vS_I rfl ?_ | refine fr_vL_I rfl ?_ | refine fr_vG_I rfl ?_ | refine fr_vD_I rfl ?_ | refine fr_vT_I rfl ?_ | refine fr_vX_I rfl ?_ | refine fr_vZ_I rfl ?_)), (by repeat (first | assumption | refine fr_vC_I rfl ?_ | refine fr_vN_I rfl ?_ | refine fr_vH_I rfl ?_ | refine fr_vK_I rfl ?_ | refine fr_vF_I rfl ?_ | refine fr_vS_I rfl ?_ | refine fr_vL_I rfl ?_ | refine fr_vG_I rfl ?_ | refine fr_vD_I rfl ?_ | refine fr_vT_I rfl ?_ | refine fr_vX_I rfl ?_ | refine fr_vZ_I rfl ?_)), (by repeat (first | assumption | refine fr_vC_I rfl ?_ | refine fr_vN_I rfl ?_ | refine fr_vH_I rfl ?_ | refine fr_vK_I rfl ?_ | refine fr_vF_I rfl ?_ | refine fr_vS_I rfl ?_ | refine fr_vL_I rfl ?_ | refine fr_vG_I rfl ?_ | refine fr_vD_I rfl ?_ | refine fr_vT_I rfl ?_ | refine fr_vX_I rfl ?_ | refine fr_vZ_I rfl ?_)), (by repeat (first | assumption | refine fr_vC_I rfl ?_ | refine fr_vN_I rfl ?_ | refine fr_vH_I rfl ?_ | refine fr_vK_I rfl ?_ | refine fr_vF_I rfl ?_ | refine fr_vS_I rfl ?_ | refine fr_vL_I rfl ?_ | refine fr_vG_I rfl ?_ | refine fr_vD_I rfl ?_ | refine fr_vT_I rfl ?_ | refine fr_vX_I rfl ?_ | refine fr_vZ_I rfl ?_)), (by repeat (first | assumption | refine fr_vC_I rfl ?_ | refine fr_vN_I rfl ?_ | refine fr_vH_I rfl ?_ | refine fr_vK_I rfl ?_ | refine fr_vF_I rfl ?_ | refine fr_vS_I rfl ?_ | refine fr_vL_I rfl ?_ | refine fr_vG_I rfl ?_ | refine fr_vD_I rfl ?_ | refine fr_vT_I rfl ?_ | refine fr_vX_I rfl ?_ | refine fr_vZ_I rfl ?_)), (by repeat (first | assumption | refine fr_vC_I rfl ?_ | refine fr_vN_I rfl ?_ | refine fr_vH_I rfl ?_ | refine fr_vK_I rfl ?_ | refine fr_vF_I rfl ?_ | refine fr_vS_I rfl ?_ | refine fr_vL_I rfl ?_ | refine fr_vG_I rfl ?_ | refine fr_vD_I rfl ?_ | refine fr_vT_I rfl ?_ | refine fr_vX_I rfl ?_ | refine fr_vZ_I rfl ?_)), vZ_H (by decide) hi (by repeat (first | assumption | refine fr_vC_I rfl ?_ | refine fr_vN_I rfl ?_ | refine fr_vH_I rfl ?_ | refine fr_vK_I rfl ?_ | refine fr_vF_I rfl ?_ | refine fr_vS_I rfl ?_ | refine fr_vL_I rfl ?_ | refine fr_vG_I rfl ?_ | refine fr_vD_I rfl ?_ | refine fr_vT_I rfl ?_ | refine fr_vX_I rfl ?_ | refine fr_vZ_I rfl ?_))⟩
          intro j hj
          have h1 := hH j hj
          have hq : btw (-1) (gI σ 12 0 0) 9999 := ⟨by have := n11.1; simp only [qday] at this; omega, n11.2⟩
          have hq2 : btw 0 v2 99999 := ⟨hb.1, by omega⟩
          have n10' : gI σ 11 0 6 = gI σ 12 0 0 := n10
          simp only [vH1] at h1 ⊢
          by_cases e : j = i
          · subst e
            simp (config := { contextual := true }) [gI_pI, gR_I, h1, hq, hq2, n10']
          · simp (config := { contextual := true }) [gI_pI, gR_I, h1, e]
    · refine Ok2.same h' (r := -1) ?_ ?_
      · unfold f11_key
        rw [e_homeAt n1 n3 hR hi, zc1_s, zoc_s, e_isIn]
        simp only [zc1_s, t01, Int32.reduceToInt, zlt_s]
        rw [if_pos hb]
      · unfold f12_key
        rw [m_isHome (n := gN σ 5) (by exact n2) n3]
        simp only [zc1_s, t01, e_within, Int32.reduceToInt]
        rw [if_neg (by omega), if_pos (by omega)]
  · refine Ok2.same h' (r := -1) ?_ ?_
    · unfold f11_key
      rw [e_homeAt_o n1 n3 hv, zc1_s, zoc_n]
    · unfold f12_key
      rw [m_isHome (n := gN σ 5) (by exact n2) n3]
      simp only [zc1_s, t01]
      rw [if_pos hv]
theorem t_men {σ : zSt} (h : Inv σ) (v1 v2 : Int32) : Ok2 (f11_men v1 v2 σ) (f12_men v1 v2) := by
  have h' := h
  obtain ⟨hO, hC, hN, hH, hK, hF, hS, hL, hG, hD, hT, hX, hZ⟩ := h
  rcases zcase v1 10 (by omega) with ⟨i, hi, rfl, hv⟩ | hv
  · by_cases hb : 0 ≤ v2.toInt ∧ v2.toInt < 10
    · refine ⟨gI σ 100 0 i, pI σ 100 0 i v2, pI (pI σ 100 0 i v2) 1345 0 i v2, ?_, hO, ?_, ?_⟩
      · unfold f11_men
        simp only [e_isIn, zc1_s, t01, Int32.reduceToInt, zlt_s, zix_s (show i < 10 by omega) (by decide)]
        rw [if_neg (by omega), if_neg (by omega)]
      · unfold f12_men
        simp only [m_isTrade, e_within, zc1_s, t01, Int32.reduceToInt, zlt_s, zix_s (show i < 10 by omega) (by decide)]
        rw [if_neg (by omega), if_neg (by omega), (hD.1 i hi).1]
        rfl
      · refine ⟨hO, hC, (by repeat (first | assumption | refine fr_vC_I rfl ?_ | refine fr_vN_I rfl ?_ | refine fr_vH_I rfl ?_ | refine fr_vK_I rfl ?_ | refine fr_vF_I rfl ?_ | refine fr_vS_I rfl ?_ | refine fr_vL_I rfl ?_ | refine fr_vG_I rfl ?_ | refine fr_vD_I rfl ?_ | refine fr_vT_I rfl ?_ | refine fr_vX_I rfl ?_ | refine fr_vZ_I rfl ?_)), (by repeat (first | assumption | refine fr_vC_I rfl ?_ | refine fr_vN_I rfl ?_ | refine fr_vH_I rfl ?_ | refine fr_vK_I rfl ?_ | refine fr_vF_I rfl ?_ | refine fr_vS_I rfl ?_ | refine fr_vL_I rfl ?_ | refine fr_vG_I rfl ?_ | refine fr_vD_I rfl ?_ | refine fr_vT_I rfl ?_ | refine fr_vX_I rfl ?_ | refine fr_vZ_I rfl ?_)), (by repeat (first | assumption | refine fr_vC_I rfl ?_ | refine fr_vN_I rfl ?_ | refine fr_vH_I rfl ?_ | refine fr_vK_I rfl ?_ | refine fr_vF_I rfl ?_ | refine fr_vS_I rfl ?_ | refine fr_vL_I rfl ?_ | refine fr_vG_I rfl ?_ | refine fr_vD_I rfl ?_ | refine fr_vT_I rfl ?_ | refine fr_vX_I rfl ?_ | refine fr_vZ_I rfl ?_)), (by repeat (first | assumption | refine fr_vC_I rfl ?_ | refine fr_vN_I rfl ?_ | refine fr_vH_I rfl ?_ | refine fr_vK_I rfl ?_ | refine fr_vF_I rfl ?_ | refine fr_vS_I rfl ?_ | refine fr_vL_I rfl ?_ | refine fr_vG_I rfl ?_ | refine fr_vD_I rfl ?_ | refine fr_vT_I rfl ?_ | refine fr_vX_I rfl ?_ | refine fr_vZ_I rfl ?_)), (by repeat (first | assumption | refine fr_vC_I rfl ?_ | refine fr_vN_I rfl ?_ | refine fr_vH_I rfl ?_ | refine fr_vK_I rfl ?_ | refine fr_vF_I rfl ?_ | refine fr_vS_I rfl ?_ | refine fr_vL_I rfl ?_ | refine fr_vG_I rfl ?_ | refine fr_vD_I rfl ?_ | refine fr_vT_I rfl ?_ | refine fr_vX_I rfl ?_ | refine fr_vZ_I rfl ?_)), (by repeat (first | assumption | refine fr_vC_I rfl ?_ | refine fr_vN_I rfl ?_ | refine fr_vH_I rfl ?_ | refine fr_vK_I rfl ?_ | refine fr_vF_I rfl ?_ | refine fr_vS_I rfl ?_ | refine fr_vL_I rfl ?_ | refine fr_vG_I rfl ?_ | refine fr_vD_I rfl ?_ | refine fr_vT_I rfl ?_ | refine fr_vX_I rfl ?_ | refine fr_vZ_I rfl ?_)), (by repeat (first | assumption | refine fr_vC_I rfl ?_ | refine fr_vN_I rfl ?_ | refine fr_vH_I rfl ?_ | refine fr_vK_I rfl ?_ | refine fr_vF_I rfl ?_ | refine fr_vS_I rfl ?_ | refine fr_vL_I rfl ?_ | refine fr_vG_I rfl ?_ | refine fr_vD_I rfl ?_ | refine fr_vT_I rfl ?_ | refine fr_vX_I rfl ?_ | refine fr_vZ_I rfl ?_)), ?_, (by repeat (first | assumption | refine fr_vC_I rfl ?_ | refine fr_vN_I rfl ?_ | refine fr_vH_I rfl ?_ | refine fr_vK_I rfl ?_ | refine fr_vF_I rfl ?_ | refine fr_vS_I rfl ?_ | refine fr_vL_I rfl ?_ | refine fr_vG_I rfl ?_ | refine fr_vD_I rfl ?_ | refine fr_vT_I rfl ?_ | refine fr_vX_I rfl ?_ | refine fr_vZ_I rfl ?_)), (by repeat (first | assumption | refine fr_vC_I rfl ?_ | refine fr_vN_I rfl ?_ | refine fr_vH_I rfl ?_ | refine fr_vK_I rfl ?_ | refine fr_vF_I rfl ?_ | refine fr_vS_I rfl ?_ | refine fr_vL_I rfl ?_ | refine fr_vG_I rfl ?_ | refine fr_vD_I rfl ?_ | refine fr_vT_I rfl ?_ | refine fr_vX_I rfl ?_ | refine fr_vZ_I rfl ?_)), (by repeat (first | assumption | refine fr_vC_I rfl ?_ | refine fr_vN_I rfl ?_ | refine fr_vH_I rfl ?_ | refine fr_vK_I rfl ?_ | refine fr_vF_I rfl ?_ | refine fr_vS_I rfl ?_ | refine fr_vL_I rfl ?_ | refine fr_vG_I rfl ?_ | refine fr_vD_I rfl ?_ | refine fr_vT_I rfl ?_ | refine fr_vX_I rfl ?_ | refine fr_vZ_I rfl ?_))⟩
        refine ⟨fun t ht => ?_, hD.2⟩
        have h1 := hD.1 t ht
        have hq : btw 0 v2 9 := ⟨hb.1, by omega⟩
        by_cases e : t = i
        · subst e
          simp [gI_pI, h1, hq]
        · simp [gI_pI, h1, e]
    · refine Ok2.same h' (r := -1) ?_ ?_
      · unfold f11_men
        simp only [e_isIn, zc1_s, t01, Int32.reduceToInt]
        rw [if_neg (by omega), if_pos (by omega)]
      · unfold f12_men
        simp only [m_isTrade, e_within, zc1_s, t01, Int32.reduceToInt]
        rw [if_neg (by omega), if_pos (by omega)]
  · refine Ok2.same h' (r := -1) ?_ ?_
    · unfold f11_men
      simp only [e_isIn, zc1_s, t01, Int32.reduceToInt]
      rw [if_pos (by omega)]
    · unfold f12_men
      simp only [m_isTrade, e_within, zc1_s, t01, Int32.reduceToInt]
      rw [if_pos (by omega)]
theorem t_rule {σ : zSt} (h : Inv σ) (v1 v2 : Int32) : Ok2 (f11_rule v1 v2 σ) (f12_rule v1 v2) := by
  have h' := h
  obtain ⟨hO, hC, hN, hH, hK, hF, hS, hL, hG, hD, hT, hX, hZ⟩ := h
  have hN' := hN
  obtain ⟨n1, n2, n3, n4, n5, n6, n7, n8, n9, n10, n11, n12, n13, n14, n15⟩ := hN'
  by_cases h0 : v1 = 0
  · subst h0
    by_cases hb : 0 ≤ v2.toInt ∧ v2.toInt ≤ 60
    · refine ⟨gI σ 11 0 7, pI σ 11 0 7 v2, pI (pI σ 11 0 7 v2) 12 0 40 v2, ?_, hO, ?_, ?_⟩
      · unfold f11_rule
        simp only [e_isIn, zc1_s, t01, Int32.reduceToInt, zlt_s, if_true]
        rw [if_neg (by omega)]
      · unfold f12_rule
        simp only [e_within, zc1_s, t01, Int32.reduceToInt, zlt_s, if_true]
        rw [if_neg (by omega), if_neg (by omega), n12]
        rfl
      · refine ⟨hO, hC, ?_, (by repeat (first | assumption | refine fr_vC_I rfl ?_ | refine fr_vN_I rfl ?_ | refine fr_vH_I rfl ?_ | refine fr_vK_I rfl ?_ | refine fr_vF_I rfl ?_ | refine fr_vS_I rfl ?_ | refine fr_vL_I rfl ?_ | refine fr_vG_I rfl ?_ | refine fr_vD_I rfl ?_ | refine fr_vT_I rfl ?_ | refine fr_vX_I rfl ?_ | refine fr_vZ_I rfl ?_)), (by repeat (first | assumption | refine fr_vC_I rfl ?_ | refine fr_vN_I rfl ?_ | refine fr_vH_I rfl ?_ | refine fr_vK_I rfl ?_ | refine fr_vF_I rfl ?_ | refine fr_vS_I rfl ?_ | refine fr_vL_I rfl ?_ | refine fr_vG_I rfl ?_ | refine fr_vD_I rfl ?_ | refine fr_vT_I rfl ?_ | refine fr_vX_I rfl ?_ | refine fr_vZ_I rfl ?_)), (by repeat (first | assumption | refine fr_vC_I rfl ?_ | refine fr_vN_I rfl ?_ | refine fr_vH_I rfl ?_ | refine fr_vK_I rfl ?_ | refine fr_vF_I rfl ?_ | refine fr_vS_I rfl ?_ | refine fr_vL_I rfl ?_ | refine fr_vG_I rfl ?_ | refine fr_vD_I rfl ?_ | refine fr_vT_I rfl ?_ | refine fr_vX_I rfl ?_ | refine fr_vZ_I rfl ?_)), (by repeat (first | assumption | refine fr_vC_I rfl ?_ | refine fr_vN_I rfl ?_ | refine fr_vH_I rfl ?_ | refine fr_vK_I rfl ?_ | refine fr_vF_I rfl ?_ | refine fr_vS_I rfl ?_ | refine fr_vL_I rfl ?_ | refine fr_vG_I rfl ?_ | refine fr_vD_I rfl ?_ | refine fr_vT_I rfl ?_ | refine fr_vX_I rfl ?_ | refine fr_vZ_I rfl ?_)), (by repeat (first | assumption | refine fr_vC_I rfl ?_ | refine fr_vN_I rfl ?_ | refine fr_vH_I rfl ?_ | refine fr_vK_I rfl ?_ | refine fr_vF_I rfl ?_ | refine fr_vS_I rfl ?_ | refine fr_vL_I rfl ?_ | refine fr_vG_I rfl ?_ | refine fr_vD_I rfl ?_ | refine fr_vT_I rfl ?_ | refine fr_vX_I rfl ?_ | refine fr_vZ_I rfl ?_)), (by repeat (first | assumption | refine fr_vC_I rfl ?_ | refine fr_vN_I rfl ?_ | refine fr_vH_I rfl ?_ | refine fr_vK_I rfl ?_ | refine fr_vF_I rfl ?_ | refine fr_vS_I rfl ?_ | refine fr_vL_I rfl ?_ | refine fr_vG_I rfl ?_ | refine fr_vD_I rfl ?_ | refine fr_vT_I rfl ?_ | refine fr_vX_I rfl ?_ | refine fr_vZ_I rfl ?_)), (by repeat (first | assumption | refine fr_vC_I rfl ?_ | refine fr_vN_I rfl ?_ | refine fr_vH_I rfl ?_ | refine fr_vK_I rfl ?_ | refine fr_vF_I rfl ?_ | refine fr_vS_I rfl ?_ | refine fr_vL_I rfl ?_ | refine fr_vG_I rfl ?_ | refine fr_vD_I rfl ?_ | refine fr_vT_I rfl ?_ | refine fr_vX_I rfl ?_ | refine fr_vZ_I rfl ?_)), (by repeat (first | assumption | refine fr_vC_I rfl ?_ | refine fr_vN_I rfl ?_ | refine fr_vH_I rfl ?_ | refine fr_vK_I rfl ?_ | refine fr_vF_I rfl ?_ | refine fr_vS_I rfl ?_ | refine fr_vL_I rfl ?_ | refine fr_vG_I rfl ?_ | refine fr_vD_I rfl ?_ | refine fr_vT_I rfl ?_ | refine fr_vX_I rfl ?_ | refine fr_vZ_I rfl ?_)), (by repeat (first | assumption | refine fr_vC_I rfl ?_ | refine fr_vN_I rfl ?_ | refine fr_vH_I rfl ?_ | refine fr_vK_I rfl ?_ | refine fr_vF_I rfl ?_ | refine fr_vS_I rfl ?_ | refine fr_vL_I rfl ?_ | refine fr_vG_I rfl ?_ | refine fr_vD_I rfl ?_ | refine fr_vT_I rfl ?_ | refine fr_vX_I rfl ?_ | refine fr_vZ_I rfl ?_)), (by repeat (first | assumption | refine fr_vC_I rfl ?_ | refine fr_vN_I rfl ?_ | refine fr_vH_I rfl ?_ | refine fr_vK_I rfl ?_ | refine fr_vF_I rfl ?_ | refine fr_vS_I rfl ?_ | refine fr_vL_I rfl ?_ | refine fr_vG_I rfl ?_ | refine fr_vD_I rfl ?_ | refine fr_vT_I rfl ?_ | refine fr_vX_I rfl ?_ | refine fr_vZ_I rfl ?_))⟩
        exact ⟨n1, n2, n3, n4, n5, n6, n7, n8, n9, n10, n11, rfl, ⟨hb.1, hb.2⟩, n14, n15⟩
    · refine Ok2.same h' (r := -1) ?_ ?_
      · unfold f11_rule
        simp only [e_isIn, zc1_s, t01, Int32.reduceToInt, zlt_s, if_true]
        rw [if_pos (by omega), if_neg (by decide)]
      · unfold f12_rule
        simp only [e_within, zc1_s, t01, Int32.reduceToInt, zlt_s, if_true]
        rw [if_neg (by omega), if_pos (by omega)]
  · by_cases h1 : v1 = 1
    · subst h1
      by_cases hb : 0 ≤ v2.toInt ∧ v2.toInt ≤ 999
      · refine ⟨gI σ 11 0 8, pI σ 11 0 8 v2, pI (pI σ 11 0 8 v2) 12 0 41 v2, ?_, hO, ?_, ?_⟩
        · unfold f11_rule
          simp only [e_isIn, zc1_s, t01, Int32.reduceToInt, zlt_s, if_true]
          rw [if_neg (by decide), if_neg (by omega)]
        · unfold f12_rule
          simp only [e_within, zc1_s, t01, Int32.reduceToInt, zlt_s, if_true]
          simp only [if_neg (show ¬ ((1 : Int32) = 0) by decide), Int32.reduceToInt]
          rw [if_neg (by omega), if_neg (by omega), n14]
          rfl
        · refine ⟨hO, hC, ?_, (by repeat (first | assumption | refine fr_vC_I rfl ?_ | refine fr_vN_I rfl ?_ | refine fr_vH_I rfl ?_ | refine fr_vK_I rfl ?_ | refine fr_vF_I rfl ?_ | refine fr_vS_I rfl ?_ | refine fr_vL_I rfl ?_ | refine fr_vG_I rfl ?_ | refine fr_vD_I rfl ?_ | refine fr_vT_I rfl ?_ | refine fr_vX_I rfl ?_ | refine fr_vZ_I rfl ?_)), (by repeat (first | assumption | refine fr_vC_I rfl ?_ | refine fr_vN_I rfl ?_ | refine fr_vH_I rfl ?_ | refine fr_vK_I rfl ?_ | refine fr_vF_I rfl ?_ | refine fr_vS_I rfl ?_ | refine fr_vL_I rfl ?_ | refine fr_vG_I rfl ?_ | refine fr_vD_I rfl ?_ | refine fr_vT_I rfl ?_ | refine fr_vX_I rfl ?_ | refine fr_vZ_I rfl ?_)), (by repeat (first | assumption | refine fr_vC_I rfl ?_ | refine fr_vN_I rfl ?_ | refine fr_vH_I rfl ?_ | refine fr_vK_I rfl ?_ | refine fr_vF_I rfl ?_ | refine fr_vS_I rfl ?_ | refine fr_vL_I rfl ?_ | refine fr_vG_I rfl ?_ | refine fr_vD_I rfl ?_ | refine fr_vT_I rfl ?_ | refine fr_vX_I rfl ?_ | refine fr_vZ_I rfl ?_)), (by repeat (first | assumption | refine fr_vC_I rfl ?_ | refine fr_vN_I rfl ?_ | refine fr_vH_I rfl ?_ | refine fr_vK_I rfl ?_ | refine fr_vF_I rfl ?_ | refine fr_vS_I rfl ?_ | refine fr_vL_I rfl ?_ | refine fr_vG_I rfl ?_ | refine fr_vD_I rfl ?_ | refine fr_vT_I rfl ?_ | refine fr_vX_I rfl ?_ | refine fr_vZ_I rfl ?_)), (by repeat (first | assumption | refine fr_vC_I rfl ?_ | refine fr_vN_I rfl ?_ | refine fr_vH_I rfl ?_ | refine fr_vK_I rfl ?_ | refine fr_vF_I rfl ?_ | refine fr_vS_I rfl ?_ | refine fr_vL_I rfl ?_ | refine fr_vG_I rfl ?_ | refine fr_vD_I rfl ?_ | refine fr_vT_I rfl ?_ | refine fr_vX_I rfl ?_ | refine fr_vZ_I rfl ?_)), (by repeat (first | assumption | refine fr_vC_I rfl ?_ | refine fr_vN_I rfl ?_ | refine fr_vH_I rfl ?_ | refine fr_vK_I rfl ?_ | refine fr_vF_I rfl ?_ | refine fr_vS_I rfl ?_ | refine fr_vL_I rfl ?_ | refine fr_vG_I rfl ?_ | refine fr_vD_I rfl ?_ | refine fr_vT_I rfl ?_ | refine fr_vX_I rfl ?_ | refine fr_vZ_I rfl ?_)), (by repeat (first | assumption | refine fr_vC_I rfl ?_ | refine fr_vN_I rfl ?_ | refine fr_vH_I rfl ?_ | refine fr_vK_I rfl ?_ | refine fr_vF_I rfl ?_ | refine fr_vS_I rfl ?_ | refine fr_vL_I rfl ?_ | refine fr_vG_I rfl ?_ | refine fr_vD_I rfl ?_ | refine fr_vT_I rfl ?_ | refine fr_vX_I rfl ?_ | refine fr_vZ_I rfl ?_)), (by repeat (first | assumption | refine fr_vC_I rfl ?_ | refine fr_vN_I rfl ?_ | refine fr_vH_I rfl ?_ | refine fr_vK_I rfl ?_ | refine fr_vF_I rfl ?_ | refine fr_vS_I rfl ?_ | refine fr_vL_I rfl ?_ | refine fr_vG_I rfl ?_ | refine fr_vD_I rfl ?_ | refine fr_vT_I rfl ?_ | refine fr_vX_I rfl ?_ | refine fr_vZ_I rfl ?_)), (by repeat (first | assumption | refine fr_vC_I rfl ?_ | refine fr_vN_I rfl ?_ | refine fr_vH_I rfl ?_ | refine fr_vK_I rfl ?_ | refine fr_vF_I rfl ?_ | refine fr_vS_I rfl ?_ | refine fr_vL_I rfl ?_ | refine fr_vG_I rfl ?_ | refine fr_vD_I rfl ?_ | refine fr_vT_I rfl ?_ | refine fr_vX_I rfl ?_ | refine fr_vZ_I rfl ?_)), (by repeat (first | assumption | refine fr_vC_I rfl ?_ | refine fr_vN_I rfl ?_ | refine fr_vH_I rfl ?_ | refine fr_vK_I rfl ?_ | refine fr_vF_I rfl ?_ | refine fr_vS_I rfl ?_ | refine fr_vL_I rfl ?_ | refine fr_vG_I rfl ?_ | refine fr_vD_I rfl ?_ | refine fr_vT_I rfl ?_ | refine fr_vX_I rfl ?_ | refine fr_vZ_I rfl ?_))⟩
          exact ⟨n1, n2, n3, n4, n5, n6, n7, n8, n9, n10, n11, n12, n13, rfl, n15⟩
      · refine Ok2.same h' (r := -1) ?_ ?_
        · unfold f11_rule
          simp only [e_isIn, zc1_s, t01, Int32.reduceToInt, zlt_s, if_true]
          rw [if_neg (by decide), if_pos (by omega)]
        · unfold f12_rule
          simp only [e_within, zc1_s, t01, Int32.reduceToInt, zlt_s, if_true]
          simp only [if_neg (show ¬ ((1 : Int32) = 0) by decide), Int32.reduceToInt]
          rw [if_neg (by omega), if_pos (by omega)]
    · refine Ok2.same h' (r := -1) ?_ ?_
      · unfold f11_rule
        simp only [zlt_s]
        rw [if_neg h0, if_neg h1]
      · unfold f12_rule
        simp only [e_within, zc1_s, t01, Int32.reduceToInt, zlt_s, if_true]
        rw [if_pos]
        rw [i_eq] at h0 h1
        simp only [Int32.reduceToInt] at h0 h1
        omega
/-- a call that only reads, on both sides -/
def Ok1 (a b : Option Int32) : Prop := ∃ r, a = some r ∧ b = some r
theorem t_planned {σ : zSt} (h : Inv σ) (v : Int32) : Ok1 (f11_planned v σ) (f12_planned v σ) := by
  obtain ⟨hO, hC, hN, hH, hK, hF, hS, hL, hG, hD, hT, hX, hZ⟩ := h
  obtain ⟨-, -, -, -, -, -, d1, d2, d3, d4⟩ := hD
  rcases zcase v (pln σ) (by omega) with ⟨i, hi, rfl, hv⟩ | hv
  · refine ⟨gI σ 103 0 i, ?_, ?_⟩
    · unfold f11_planned
      rw [d2, e_at_in hi d3 (by omega), zc1_s, if_neg (by decide), zix_s (by omega) (by decide)]
    · unfold f12_planned
      rw [d1, if_neg (by rw [i_lt]; simp only [Int32.reduceToInt]; omega), if_pos (by rw [i_lt, nI_ti (show pln σ < 2 ^ 31 by omega)]; omega), zix_s (by omega) (by decide), zix_s (by omega) (by decide), d4 i hi]
      unfold zpl
      by_cases e : gI σ 1361 0 i < 0
      · rw [if_pos e, if_neg (by rw [i_lt] at e; rw [i_le]; simp only [Int32.reduceToInt] at e ⊢; omega)]
      · rw [if_neg e, if_pos (by rw [i_lt] at e; rw [i_le]; simp only [Int32.reduceToInt] at e ⊢; omega)]
  · refine ⟨-1, ?_, ?_⟩
    · unfold f11_planned
      rw [d2, e_at_out (by omega) hv, zc1_s, if_pos rfl]
    · unfold f12_planned
      by_cases e : v < 0
      · rw [if_pos e]
      · rw [if_neg e, d1, if_neg]
        rw [i_lt] at e ⊢
        rw [nI_ti (show pln σ < 2 ^ 31 by omega)]
        simp only [Int32.reduceToInt] at e
        omega
