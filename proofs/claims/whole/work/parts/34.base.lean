/-- a number within 0 .. n-1, or not -/
theorem zcase (v : Int32) (n : Nat) (hn : n < 2 ^ 31) : (∃ i, i < n ∧ v = nI i ∧ (0 ≤ v.toInt ∧ v.toInt < n)) ∨ ¬ (0 ≤ v.toInt ∧ v.toInt < n) := by
  by_cases h : 0 ≤ v.toInt ∧ v.toInt < n
  · exact Or.inl ⟨v.toInt.toNat, by omega, i_ofNat h.1, h⟩
  · exact Or.inr h
theorem nI_ti {i : Nat} (h : i < 2 ^ 31) : (nI i).toInt = i := nI_toInt h
theorem e_at_in {n i m : Nat} {σ : zSt} (hi : i < n) (hn : n ≤ m) (hm : m ≤ 1000) : f11_isIn (nI i) (nI n) σ = some 1 := by
  rw [e_isIn, nI_ti (by omega), nI_ti (by omega), if_pos (by omega)]
theorem e_at_out {n : Nat} {v : Int32} {σ : zSt} (hn : n ≤ 1000) (h : ¬ (0 ≤ v.toInt ∧ v.toInt < n)) : f11_isIn v (nI n) σ = some 0 := by
  rw [e_isIn, nI_ti (by omega), if_neg h]
theorem e_homeAt {σ : zSt} {n i : Nat} (h : gI σ 11 0 1 = nI n) (hn : n ≤ 40) (hr : gR σ 1200 0 i = some i) (hi : i < n) : f11_homeAt (nI i) σ = some (some i) := by
  unfold f11_homeAt
  rw [h, e_at_in hi hn (by omega), zc1_s, if_neg (by decide), zix_s (by omega) (by decide), zlt_s, hr]
theorem e_homeAt_o {σ : zSt} {n : Nat} {v : Int32} (h : gI σ 11 0 1 = nI n) (hn : n ≤ 40) (hv : ¬ (0 ≤ v.toInt ∧ v.toInt < n)) : f11_homeAt v σ = some none := by
  unfold f11_homeAt
  rw [h, e_at_out (by omega) hv, zc1_s, if_pos rfl]
theorem e_kindAt {σ : zSt} {n i : Nat} (h : gI σ 11 0 3 = nI n) (hn : n ≤ 20) (hr : gR σ 1202 0 i = some i) (hi : i < n) : f11_kindAt (nI i) σ = some (some i) := by
  unfold f11_kindAt
  rw [h, e_at_in hi hn (by omega), zc1_s, if_neg (by decide), zix_s (by omega) (by decide), zlt_s, hr]
theorem e_kindAt_o {σ : zSt} {n : Nat} {v : Int32} (h : gI σ 11 0 3 = nI n) (hn : n ≤ 20) (hv : ¬ (0 ≤ v.toInt ∧ v.toInt < n)) : f11_kindAt v σ = some none := by
  unfold f11_kindAt
  rw [h, e_at_out (by omega) hv, zc1_s, if_pos rfl]
theorem e_faultAt {σ : zSt} {n i : Nat} (h : gI σ 11 0 5 = nI n) (hn : n ≤ 200) (hr : gR σ 1204 0 i = some i) (hi : i < n) : f11_faultAt (nI i) σ = some (some i) := by
  unfold f11_faultAt
  rw [h, e_at_in hi hn (by omega), zc1_s, if_neg (by decide), zix_s (by omega) (by decide), zlt_s, hr]
theorem e_faultAt_o {σ : zSt} {n : Nat} {v : Int32} (h : gI σ 11 0 5 = nI n) (hn : n ≤ 200) (hv : ¬ (0 ≤ v.toInt ∧ v.toInt < n)) : f11_faultAt v σ = some none := by
  unfold f11_faultAt
  rw [h, e_at_out (by omega) hv, zc1_s, if_pos rfl]
theorem m_isHome {σ : zSt} {n : Nat} (h : gI σ 12 0 13 = nI n) (hn : n ≤ 40) (v : Int32) : f12_isHome v σ = some (if 0 ≤ v.toInt ∧ v.toInt < n then 1 else 0) := by
  unfold f12_isHome
  rw [h]
  simp only [zlt_s, i_lt, i_le, Int32.reduceToInt, nI_ti (show n < 2 ^ 31 by omega)]
  repeat' split
  all_goals first | rfl | omega
theorem m_isKind {σ : zSt} {n : Nat} (h : gI σ 12 0 17 = nI n) (hn : n ≤ 20) (v : Int32) : f12_isKind v σ = some (if 0 ≤ v.toInt ∧ v.toInt < n then 1 else 0) := by
  unfold f12_isKind
  rw [h]
  simp only [zlt_s, i_lt, i_le, Int32.reduceToInt, nI_ti (show n < 2 ^ 31 by omega)]
  repeat' split
  all_goals first | rfl | omega
theorem m_isFault {σ : zSt} {n : Nat} (h : gI σ 12 0 36 = nI n) (hn : n ≤ 200) (v : Int32) : f12_isFault v σ = some (if 0 ≤ v.toInt ∧ v.toInt < n then 1 else 0) := by
  unfold f12_isFault
  rw [h]
  simp only [zlt_s, i_lt, i_le, Int32.reduceToInt, nI_ti (show n < 2 ^ 31 by omega)]
  repeat' split
  all_goals first | rfl | omega
theorem m_isCrew (v : Int32) (σ : zSt) : f12_isCrew v σ = some (if 0 ≤ v.toInt ∧ v.toInt ≤ 9 then 1 else 0) := by
  unfold f12_isCrew
  simp only [e_within, zc1_s, zbo_ite, Int32.reduceToInt]
theorem m_isTrade (v : Int32) (σ : zSt) : f12_isTrade v σ = some (if 0 ≤ v.toInt ∧ v.toInt ≤ 9 then 1 else 0) := by
  unfold f12_isTrade
  simp only [e_within, zc1_s, zbo_ite, Int32.reduceToInt]
theorem e_hasKey {σ : zSt} {i : Nat} (h : btw (-1) (gI σ 5 i 4) 9999) : f5_hasKey i σ = some (if 0 ≤ (gI σ 5 i 4).toInt then 1 else 0) := by
  unfold f5_hasKey
  unfold btw at h
  by_cases hk : gI σ 5 i 4 = -1
  · rw [if_pos hk, hk, if_neg (by decide)]
  · rw [if_neg hk, if_pos]
    rw [i_eq] at hk
    have : (-1 : Int32).toInt = -1 := by decide
    rw [this] at hk
    omega
theorem t_in {σ : zSt} (h : Inv σ) (v1 v2 : Int32) : Ok2 (f11_in v1 v2 σ) (f12_in v1 v2) := by
  have h' := h
  obtain ⟨hO, hC, hN, hH, hK, hF, hS, hL, hG, hD, hT, hX, hZ⟩ := h
  obtain ⟨n1, n2, n3, -⟩ := hN
  rcases zcase v1 (gN σ 5) (by omega) with ⟨i, hi, rfl, hv⟩ | hv
  · have hi' := hH i hi
    have hR := hi'.1
    by_cases hb : 0 ≤ v2.toInt ∧ v2.toInt < 128
    · refine ⟨gI σ 1308 0 i, pI σ 5 i 5 v2, pI (pI σ 5 i 5 v2) 1308 0 i v2, ?_, hO, ?_, ?_⟩
      · unfold f11_in
        rw [e_homeAt n1 n3 hR hi, zc1_s, zoc_s, e_isIn]
        simp only [zc1_s, t01, Int32.reduceToInt, zlt_s]
        rw [if_neg (by omega), hi'.2.2.2.2.2.2.1]
      · unfold f12_in
        rw [m_isHome (σ := pI σ 5 i 5 v2) (n := gN σ 5) n2 n3]
        simp only [zc1_s, t01, e_within, Int32.reduceToInt, zlt_s, zix_s (show i < 40 by omega) (by decide)]
        rw [if_neg (by omega), if_neg (by omega)]
        rfl
      · refine ⟨hO, hC, fr_vN_I rfl (fr_vN_I rfl h'.2.2.1), ?_, fr_vK_I rfl (fr_vK_I rfl hK), fr_vF_I rfl (fr_vF_I rfl hF), fr_vS_I rfl (fr_vS_I rfl hS), fr_vL_I rfl (fr_vL_I rfl hL), fr_vG_I rfl (fr_vG_I rfl hG), fr_vD_I rfl (fr_vD_I rfl hD), fr_vT_I rfl (fr_vT_I rfl hT), fr_vX_I rfl (fr_vX_I rfl hX), fr_vZ_I rfl (fr_vZ_I rfl hZ)⟩
        intro j hj
        have h1 := hH j hj
        simp only [vH1] at h1 ⊢
        by_cases e : j = i
        · subst e
          have hb' : btw 0 v2 127 := ⟨hb.1, by omega⟩
          simp (config := { contextual := true }) [gI_pI, gR_I, h1, hb']
        · simp (config := { contextual := true }) [gI_pI, gR_I, h1, e]
    · refine Ok2.same h' (r := -1) ?_ ?_
      · unfold f11_in
        rw [e_homeAt n1 n3 hR hi, zc1_s, zoc_s, e_isIn]
        simp only [zc1_s, t01, Int32.reduceToInt, zlt_s]
        rw [if_pos hb]
      · unfold f12_in
        rw [m_isHome (n := gN σ 5) n2 n3]
        simp only [zc1_s, t01, e_within, Int32.reduceToInt]
        rw [if_neg (by omega), if_pos (by omega)]
  · refine Ok2.same h' (r := -1) ?_ ?_
    · unfold f11_in
      rw [e_homeAt_o n1 n3 hv, zc1_s, zoc_n]
    · unfold f12_in
      rw [m_isHome (n := gN σ 5) n2 n3]
      simp only [zc1_s, t01]
      rw [if_pos hv]
