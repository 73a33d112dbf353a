theorem t_home {σ : zSt} (h : Inv σ) (v1 v2 v3 : Int32) : Ok2 (f11_home v1 v2 v3 σ) (f12_home v1 v2 v3) := by
  have h' := h
  obtain ⟨hO, hC, hN, hH, hK, hF, hS, hL, hG, hD, hT, hX, hZ⟩ := h
  have hN' := hN
  obtain ⟨n1, n2, n3, n4, n5, n6, n7, n8, n9, n10, n11, n12⟩ := hN'
  obtain ⟨k, hk⟩ : ∃ k, k = gN σ 5 := ⟨_, rfl⟩
  have h11 : gR σ 11 0 0 = some 0 := hO 11 0 0 0 (by rw [hC.2.2.2.2.1]; decide) rfl
  rw [← hk] at n1 n2 n3
  by_cases hv : (0 ≤ v1.toInt ∧ v1.toInt < 800) ∧ (0 ≤ v2.toInt ∧ v2.toInt ≤ 999) ∧ (0 ≤ v3.toInt ∧ v3.toInt ≤ 9)
  · obtain ⟨hv1, hv2, hv3⟩ := hv
    by_cases hlt : k < 40
    · have hp : btw 0 (zop_idiv v1 100) 7 := by
        have := e_div (d := 100) hv1.1 (by omega)
        unfold btw
        rw [show (100 : Int32) = nI 100 from rfl, this]
        omega
      have hr : btw 0 (zop_irem v1 100) 99 := by
        have := e_rem (d := 100) hv1.1 (by omega)
        unfold btw
        rw [show (100 : Int32) = nI 100 from rfl, this]
        omega
      have hc := c_home hlt hC hk.symm n1 h11 hv1 hv2 hv3
      have hm := m_home (s := hmC2 σ k (zop_idiv v1 100) (zop_irem v1 100) v2 v3) hlt (by unfold hmC2; rw [gI_ne (by decide), gI_R, zrow_ne (by decide)]; exact n2) hv1 hv2 hv3
      exact ⟨nI k, _, _, hc, hm_zOK hk.symm hO, hm, hm_Inv h' hk.symm hlt hp hr⟩
    · have hk40 : k = 40 := by omega
      refine Ok2.same h' (r := -2) ?_ ?_
      · unfold f11_home
        simp only [e_isIn, zc1_s, t01, Int32.reduceToInt, zlt_s]
        rw [if_neg (by omega), if_neg (by omega), if_neg (by omega), if_neg (by decide), n1, hk40, if_neg (by decide)]
      · have hd := e_div (d := 100) hv1.1 (by omega)
        unfold f12_home
        rw [if_neg (by rw [i_lt]; simp only [Int32.reduceToInt]; omega), if_neg (by rw [i_le, show (100 : Int32) = nI 100 from rfl, hd]; simp only [Int32.reduceToInt]; omega)]
        rw [e_within, zc1_s, if_neg (by rw [t01]; simp only [Int32.reduceToInt]; omega), e_within, zc1_s, if_neg (by rw [t01]; simp only [Int32.reduceToInt]; omega), n2, hk40, if_pos (by rfl)]
  · refine Ok2.same h' (r := -1) ?_ ?_
    · unfold f11_home
      rw [zlt_s, e_isIn, zc1_s, zlt_s, e_isIn, zlt_s, zc1_s]
      simp only [t01, Int32.reduceToInt, e_isIn, zc1_s]
      by_cases c1 : 0 ≤ v1.toInt ∧ v1.toInt < 800
      · rw [if_neg (by omega)]
        by_cases c2 : 0 ≤ v2.toInt ∧ v2.toInt < 1000
        · rw [if_neg (by omega), if_pos (by omega)]
          rfl
        · rw [if_pos (by omega)]
          rfl
      · rw [if_pos (by omega)]
        rfl
    · unfold f12_home
      by_cases c0 : v1 < 0
      · rw [if_pos c0]
      · have c0' : 0 ≤ v1.toInt := by rw [i_lt] at c0; simp only [Int32.reduceToInt] at c0; omega
        have hd := e_div (d := 100) c0' (by omega)
        rw [if_neg c0]
        by_cases c1 : v1.toInt < 800
        · rw [if_neg (by rw [i_le, show (100 : Int32) = nI 100 from rfl, hd]; simp only [Int32.reduceToInt]; omega), e_within, zc1_s]
          by_cases c2 : 0 ≤ v2.toInt ∧ v2.toInt ≤ 999
          · rw [if_neg (by rw [t01]; simp only [Int32.reduceToInt]; omega), e_within, zc1_s, if_pos (by rw [t01]; simp only [Int32.reduceToInt]; omega)]
          · rw [if_pos (by rw [t01]; simp only [Int32.reduceToInt]; omega)]
        · rw [if_pos (by rw [i_le, show (100 : Int32) = nI 100 from rfl, hd]; simp only [Int32.reduceToInt]; omega)]
