theorem fr_zOK_N {σ : zSt} {t n : Nat} (h : ∀ k i, zfin t k i = none) (H : zOK σ) : zOK (nw σ t n) := by
  intro a b c j hb hf
  by_cases e : a = t
  · subst e
    rw [h] at hf; cases hf
  · rw [gR_nn e]
    rw [gN_nn e] at hb
    exact H a b c j hb hf
theorem vG_1316 {σ : zSt} {k : Nat} {v : Int32} (hk : ∀ f, f < gN σ 1 → kd σ f ≠ k) (H : vG σ) : vG (pI σ 1316 0 k v) := by
  refine ⟨fun f hf => ?_, H.2⟩
  have e : isCr (pI σ 1316 0 k v) f ↔ isCr σ f := by
    have : kd (pI σ 1316 0 k v) f = kd σ f := rfl
    unfold isCr
    rw [this, gI_pI, if_neg (fun z => hk f hf z.2.2)]
  obtain ⟨a, b, c, d, g⟩ := H.1 f hf
  refine ⟨a, b, c, d, ?_⟩
  rw [e]
  exact g
theorem vF_k {σ σ' : zSt} (hI : ∀ a, 1318 ≤ a → a ≤ 1333 → gI σ' a = gI σ a) (h1 : gI σ' 1 = gI σ 1) (hR1 : gR σ' 1 = gR σ 1) (hR2 : gR σ' 1204 = gR σ 1204) (hN1 : gN σ' 1 = gN σ 1) (hN5 : gN σ 5 ≤ gN σ' 5) (hN7 : gN σ 7 ≤ gN σ' 7) (hq : qday σ' = qday σ) (H : vF σ) : vF σ' := by
  have hk : ∀ f, kd σ' f = kd σ f := fun f => by unfold kd; rw [hI 1320 (by decide) (by decide)]
  have hh : ∀ f, hm σ' f = hm σ f := fun f => by unfold hm; rw [hI 1318 (by decide) (by decide)]
  intro f hf
  rw [hN1] at hf
  have h := H f hf
  simp only [vF1, pD, hk, hh, hq, h1, hR1, hR2, hI 1318 (by decide) (by decide), hI 1319 (by decide) (by decide), hI 1320 (by decide) (by decide), hI 1321 (by decide) (by decide), hI 1322 (by decide) (by decide), hI 1323 (by decide) (by decide), hI 1324 (by decide) (by decide), hI 1325 (by decide) (by decide), hI 1330 (by decide) (by decide), hI 1331 (by decide) (by decide), hI 1332 (by decide) (by decide), hI 1333 (by decide) (by decide)] at h ⊢
  obtain ⟨a1, a2, a3, a4, a5, a6, a7, a8, a9, a10, a11, a12⟩ := h
  exact ⟨a1, a2, a3, a4, (by omega), a6, a7, a8, a9, a10, (by omega), a12⟩
theorem t_kind {σ : zSt} (h : Inv σ) (v1 v2 v3 : Int32) : Ok2 (f11_kind v1 v2 v3 σ) (f12_kind v1 v2 v3) := by
  have h' := h
  obtain ⟨hO, hC, hN, hH, hK, hF, hS, hL, hG, hD, hT, hX, hZ⟩ := h
  have hN' := hN
  obtain ⟨n1, n2, n3, n4, n5, n6, n7, n8, n9, n10, n11, n12⟩ := hN'
  obtain ⟨k, hk⟩ : ∃ k, k = gN σ 7 := ⟨_, rfl⟩
  have h11 : gR σ 11 0 2 = some 0 := hO 11 0 2 0 (by rw [hC.2.2.2.2.1]; decide) rfl
  by_cases hv : (0 ≤ v1.toInt ∧ v1.toInt ≤ 9) ∧ (1 ≤ v2.toInt ∧ v2.toInt ≤ 999) ∧ (0 ≤ v3.toInt ∧ v3.toInt ≤ 7)
  · obtain ⟨hv1, hv2, hv3⟩ := hv
    by_cases hlt : k < 20
    · rw [← hk] at n4 n5 n6
      refine ⟨nI k, pI (pR (pI (pI (pI (nw σ 7 0) 7 k 0 v1) 7 k 1 v2) 7 k 2 v3) 1202 0 k (some k)) 11 0 3 (nI (k + 1)), pI (pI (pI (pI (pI (pR (pI (pI (pI (nw σ 7 0) 7 k 0 v1) 7 k 1 v2) 7 k 2 v3) 1202 0 k (some k)) 11 0 3 (nI (k + 1))) 1314 0 k v1) 1315 0 k v2) 1316 0 k v3) 12 0 17 (nI (k + 1)), ?_, ?_, ?_, ?_⟩
      · unfold f11_kind f7_init
        simp only [e_isIn, zc1_s, t01, Int32.reduceToInt, zlt_s, zc2_s, h11, zoc_s, n4, ← hk]
        rw [if_neg (by omega), if_neg (by rw [i_lt]; simp only [Int32.reduceToInt]; omega), if_neg (by rw [i_lt]; simp only [Int32.reduceToInt]; omega), if_neg (by omega), if_pos (show nI k < 20 from nI_lt hlt (by decide)), zix_s (by omega) (by decide)]
        have e1 : gI (pR (pI (pI (pI (nw σ 7 0) 7 k 0 v1) 7 k 1 v2) 7 k 2 v3) 1202 0 k (some k)) 11 0 3 = nI k := n4
        rw [e1, nI_suc k (by omega)]
        show some (nI (k + 1) - 1, _) = _
        rw [← nI_suc k (by omega), Int32.add_sub_cancel]
      · exact fr_zOK_R (fun _ => rfl) (fr_zOK_N (fun _ _ => rfl) hO)
      · unfold f12_kind
        simp only [m_isTrade, e_within, zc1_s, t01, Int32.reduceToInt, zlt_s]
        rw [if_neg (by omega), if_neg (by omega), if_neg (by omega)]
        have e1 : gI (pI (pR (pI (pI (pI (nw σ 7 0) 7 k 0 v1) 7 k 1 v2) 7 k 2 v3) 1202 0 k (some k)) 11 0 3 (nI (k + 1))) 12 0 17 = nI k := n5
        have e2 : gI (pI (pI (pR (pI (pI (pI (nw σ 7 0) 7 k 0 v1) 7 k 1 v2) 7 k 2 v3) 1202 0 k (some k)) 11 0 3 (nI (k + 1))) 1314 0 k v1) 12 0 17 = nI k := n5
        have e3 : gI (pI (pI (pI (pR (pI (pI (pI (nw σ 7 0) 7 k 0 v1) 7 k 1 v2) 7 k 2 v3) 1202 0 k (some k)) 11 0 3 (nI (k + 1))) 1314 0 k v1) 1315 0 k v2) 12 0 17 = nI k := n5
        have e4 : gI (pI (pI (pI (pI (pR (pI (pI (pI (nw σ 7 0) 7 k 0 v1) 7 k 1 v2) 7 k 2 v3) 1202 0 k (some k)) 11 0 3 (nI (k + 1))) 1314 0 k v1) 1315 0 k v2) 1316 0 k v3) 12 0 17 = nI k := n5
        rw [e1, if_neg (by show ¬ nI k = nI 20; rw [nI_inj (by omega) (by decide)]; omega), zix_s (by omega) (by decide), e2, zix_s (by omega) (by decide), e3, zix_s (by omega) (by decide), e4, nI_suc k (by omega)]
        show some (nI (k + 1) - 1, _) = _
        rw [← nI_suc k (by omega), Int32.add_sub_cancel]
      · refine ⟨fr_zOK_R (fun _ => rfl) (fr_zOK_N (fun _ _ => rfl) hO), (by repeat (first | assumption | refine fr_vC_I rfl ?_ | refine fr_vN_I rfl ?_ | refine fr_vH_I rfl ?_ | refine fr_vK_I rfl ?_ | refine fr_vF_I rfl ?_ | refine fr_vS_I rfl ?_ | refine fr_vL_I rfl ?_ | refine fr_vG_I rfl ?_ | refine fr_vD_I rfl ?_ | refine fr_vT_I rfl ?_ | refine fr_vX_I rfl ?_ | refine fr_vZ_I rfl ?_ | refine fr_vL_R ?_ | refine fr_vC_R rfl ?_ | refine fr_vN_R rfl ?_ | refine fr_vH_R rfl ?_ | refine fr_vK_R rfl ?_ | refine fr_vF_R rfl ?_ | refine fr_vS_R rfl ?_ | refine fr_vG_R rfl ?_ | refine fr_vT_R rfl ?_ | refine fr_vX_R rfl ?_ | refine fr_vZ_R rfl ?_ | refine fr_vD_R (by decide) ?_ | refine fr_vC_N rfl ?_ | refine fr_vN_N rfl ?_ | refine fr_vH_N rfl ?_ | refine fr_vK_N rfl ?_ | refine fr_vF_N rfl ?_ | refine fr_vS_N rfl ?_ | refine fr_vL_N rfl ?_ | refine fr_vG_N rfl ?_ | refine fr_vD_N rfl ?_ | refine fr_vT_N rfl ?_ | refine fr_vX_N rfl ?_ | refine fr_vZ_N rfl ?_)), ?_, (by repeat (first | assumption | refine fr_vC_I rfl ?_ | refine fr_vN_I rfl ?_ | refine fr_vH_I rfl ?_ | refine fr_vK_I rfl ?_ | refine fr_vF_I rfl ?_ | refine fr_vS_I rfl ?_ | refine fr_vL_I rfl ?_ | refine fr_vG_I rfl ?_ | refine fr_vD_I rfl ?_ | refine fr_vT_I rfl ?_ | refine fr_vX_I rfl ?_ | refine fr_vZ_I rfl ?_ | refine fr_vL_R ?_ | refine fr_vC_R rfl ?_ | refine fr_vN_R rfl ?_ | refine fr_vH_R rfl ?_ | refine fr_vK_R rfl ?_ | refine fr_vF_R rfl ?_ | refine fr_vS_R rfl ?_ | refine fr_vG_R rfl ?_ | refine fr_vT_R rfl ?_ | refine fr_vX_R rfl ?_ | refine fr_vZ_R rfl ?_ | refine fr_vD_R (by decide) ?_ | refine fr_vC_N rfl ?_ | refine fr_vN_N rfl ?_ | refine fr_vH_N rfl ?_ | refine fr_vK_N rfl ?_ | refine fr_vF_N rfl ?_ | refine fr_vS_N rfl ?_ | refine fr_vL_N rfl ?_ | refine fr_vG_N rfl ?_ | refine fr_vD_N rfl ?_ | refine fr_vT_N rfl ?_ | refine fr_vX_N rfl ?_ | refine fr_vZ_N rfl ?_)), ?_, ?_, (by repeat (first | assumption | refine fr_vC_I rfl ?_ | refine fr_vN_I rfl ?_ | refine fr_vH_I rfl ?_ | refine fr_vK_I rfl ?_ | refine fr_vF_I rfl ?_ | refine fr_vS_I rfl ?_ | refine fr_vL_I rfl ?_ | refine fr_vG_I rfl ?_ | refine fr_vD_I rfl ?_ | refine fr_vT_I rfl ?_ | refine fr_vX_I rfl ?_ | refine fr_vZ_I rfl ?_ | refine fr_vL_R ?_ | refine fr_vC_R rfl ?_ | refine fr_vN_R rfl ?_ | refine fr_vH_R rfl ?_ | refine fr_vK_R rfl ?_ | refine fr_vF_R rfl ?_ | refine fr_vS_R rfl ?_ | refine fr_vG_R rfl ?_ | refine fr_vT_R rfl ?_ | refine fr_vX_R rfl ?_ | refine fr_vZ_R rfl ?_ | refine fr_vD_R (by decide) ?_ | refine fr_vC_N rfl ?_ | refine fr_vN_N rfl ?_ | refine fr_vH_N rfl ?_ | refine fr_vK_N rfl ?_ | refine fr_vF_N rfl ?_ | refine fr_vS_N rfl ?_ | refine fr_vL_N rfl ?_ | refine fr_vG_N rfl ?_ | refine fr_vD_N rfl ?_ | refine fr_vT_N rfl ?_ | refine fr_vX_N rfl ?_ | refine fr_vZ_N rfl ?_)), (by repeat (first | assumption | refine fr_vC_I rfl ?_ | refine fr_vN_I rfl ?_ | refine fr_vH_I rfl ?_ | refine fr_vK_I rfl ?_ | refine fr_vF_I rfl ?_ | refine fr_vS_I rfl ?_ | refine fr_vL_I rfl ?_ | refine fr_vG_I rfl ?_ | refine fr_vD_I rfl ?_ | refine fr_vT_I rfl ?_ | refine fr_vX_I rfl ?_ | refine fr_vZ_I rfl ?_ | refine fr_vL_R ?_ | refine fr_vC_R rfl ?_ | refine fr_vN_R rfl ?_ | refine fr_vH_R rfl ?_ | refine fr_vK_R rfl ?_ | refine fr_vF_R rfl ?_ | refine fr_vS_R rfl ?_ | refine fr_vG_R rfl ?_ | refine fr_vT_R rfl ?_ | refine fr_vX_R rfl ?_ | refine fr_vZ_R rfl ?_ | refine fr_vD_R (by decide) ?_ | refine fr_vC_N rfl ?_ | refine fr_vN_N rfl ?_ | refine fr_vH_N rfl ?_ | refine fr_vK_N rfl ?_ | refine fr_vF_N rfl ?_ | refine fr_vS_N rfl ?_ | refine fr_vL_N rfl ?_ | refine fr_vG_N rfl ?_ | refine fr_vD_N rfl ?_ | refine fr_vT_N rfl ?_ | refine fr_vX_N rfl ?_ | refine fr_vZ_N rfl ?_)), ?_, (by repeat (first | assumption | refine fr_vC_I rfl ?_ | refine fr_vN_I rfl ?_ | refine fr_vH_I rfl ?_ | refine fr_vK_I rfl ?_ | refine fr_vF_I rfl ?_ | refine fr_vS_I rfl ?_ | refine fr_vL_I rfl ?_ | refine fr_vG_I rfl ?_ | refine fr_vD_I rfl ?_ | refine fr_vT_I rfl ?_ | refine fr_vX_I rfl ?_ | refine fr_vZ_I rfl ?_ | refine fr_vL_R ?_ | refine fr_vC_R rfl ?_ | refine fr_vN_R rfl ?_ | refine fr_vH_R rfl ?_ | refine fr_vK_R rfl ?_ | refine fr_vF_R rfl ?_ | refine fr_vS_R rfl ?_ | refine fr_vG_R rfl ?_ | refine fr_vT_R rfl ?_ | refine fr_vX_R rfl ?_ | refine fr_vZ_R rfl ?_ | refine fr_vD_R (by decide) ?_ | refine fr_vC_N rfl ?_ | refine fr_vN_N rfl ?_ | refine fr_vH_N rfl ?_ | refine fr_vK_N rfl ?_ | refine fr_vF_N rfl ?_ | refine fr_vS_N rfl ?_ | refine fr_vL_N rfl ?_ | refine fr_vG_N rfl ?_ | refine fr_vD_N rfl ?_ | refine fr_vT_N rfl ?_ | refine fr_vX_N rfl ?_ | refine fr_vZ_N rfl ?_)), (by repeat (first | assumption | refine fr_vC_I rfl ?_ | refine fr_vN_I rfl ?_ | refine fr_vH_I rfl ?_ | refine fr_vK_I rfl ?_ | refine fr_vF_I rfl ?_ | refine fr_vS_I rfl ?_ | refine fr_vL_I rfl ?_ | refine fr_vG_I rfl ?_ | refine fr_vD_I rfl ?_ | refine fr_vT_I rfl ?_ | refine fr_vX_I rfl ?_ | refine fr_vZ_I rfl ?_ | refine fr_vL_R ?_ | refine fr_vC_R rfl ?_ | refine fr_vN_R rfl ?_ | refine fr_vH_R rfl ?_ | refine fr_vK_R rfl ?_ | refine fr_vF_R rfl ?_ | refine fr_vS_R rfl ?_ | refine fr_vG_R rfl ?_ | refine fr_vT_R rfl ?_ | refine fr_vX_R rfl ?_ | refine fr_vZ_R rfl ?_ | refine fr_vD_R (by decide) ?_ | refine fr_vC_N rfl ?_ | refine fr_vN_N rfl ?_ | refine fr_vH_N rfl ?_ | refine fr_vK_N rfl ?_ | refine fr_vF_N rfl ?_ | refine fr_vS_N rfl ?_ | refine fr_vL_N rfl ?_ | refine fr_vG_N rfl ?_ | refine fr_vD_N rfl ?_ | refine fr_vT_N rfl ?_ | refine fr_vX_N rfl ?_ | refine fr_vZ_N rfl ?_)), (by repeat (first | assumption | refine fr_vC_I rfl ?_ | refine fr_vN_I rfl ?_ | refine fr_vH_I rfl ?_ | refine fr_vK_I rfl ?_ | refine fr_vF_I rfl ?_ | refine fr_vS_I rfl ?_ | refine fr_vL_I rfl ?_ | refine fr_vG_I rfl ?_ | refine fr_vD_I rfl ?_ | refine fr_vT_I rfl ?_ | refine fr_vX_I rfl ?_ | refine fr_vZ_I rfl ?_ | refine fr_vL_R ?_ | refine fr_vC_R rfl ?_ | refine fr_vN_R rfl ?_ | refine fr_vH_R rfl ?_ | refine fr_vK_R rfl ?_ | refine fr_vF_R rfl ?_ | refine fr_vS_R rfl ?_ | refine fr_vG_R rfl ?_ | refine fr_vT_R rfl ?_ | refine fr_vX_R rfl ?_ | refine fr_vZ_R rfl ?_ | refine fr_vD_R (by decide) ?_ | refine fr_vC_N rfl ?_ | refine fr_vN_N rfl ?_ | refine fr_vH_N rfl ?_ | refine fr_vK_N rfl ?_ | refine fr_vF_N rfl ?_ | refine fr_vS_N rfl ?_ | refine fr_vL_N rfl ?_ | refine fr_vG_N rfl ?_ | refine fr_vD_N rfl ?_ | refine fr_vT_N rfl ?_ | refine fr_vX_N rfl ?_ | refine fr_vZ_N rfl ?_)), (by repeat (first | assumption | refine fr_vC_I rfl ?_ | refine fr_vN_I rfl ?_ | refine fr_vH_I rfl ?_ | refine fr_vK_I rfl ?_ | refine fr_vF_I rfl ?_ | refine fr_vS_I rfl ?_ | refine fr_vL_I rfl ?_ | refine fr_vG_I rfl ?_ | refine fr_vD_I rfl ?_ | refine fr_vT_I rfl ?_ | refine fr_vX_I rfl ?_ | refine fr_vZ_I rfl ?_ | refine fr_vL_R ?_ | refine fr_vC_R rfl ?_ | refine fr_vN_R rfl ?_ | refine fr_vH_R rfl ?_ | refine fr_vK_R rfl ?_ | refine fr_vF_R rfl ?_ | refine fr_vS_R rfl ?_ | refine fr_vG_R rfl ?_ | refine fr_vT_R rfl ?_ | refine fr_vX_R rfl ?_ | refine fr_vZ_R rfl ?_ | refine fr_vD_R (by decide) ?_ | refine fr_vC_N rfl ?_ | refine fr_vN_N rfl ?_ | refine fr_vH_N rfl ?_ | refine fr_vK_N rfl ?_ | refine fr_vF_N rfl ?_ | refine fr_vS_N rfl ?_ | refine fr_vL_N rfl ?_ | refine fr_vG_N rfl ?_ | refine fr_vD_N rfl ?_ | refine fr_vT_N rfl ?_ | refine fr_vX_N rfl ?_ | refine fr_vZ_N rfl ?_))⟩
        · exact ⟨n1, n2, n3, (by show nI (k + 1) = nI (gN σ 7 + 1); rw [hk]), (by show nI (k + 1) = nI (gN σ 7 + 1); rw [hk]), (by show gN σ 7 + 1 ≤ 20; omega), n7, n8, n9, n10, n11, n12⟩
        · intro j hj
          have hj' : j < gN σ 7 + 1 := hj
          by_cases e : j = k
          · subst e
            have q1 : btw 0 v1 9 := hv1
            have q2 : btw 1 v2 999 := hv2
            have q3 : btw 0 v3 7 := hv3
            simp [vK1, gI_pI, gR_pR, gR_I, gI_R, q1, q2, q3]
          · have h1 := hK j (by omega)
            simp only [vK1] at h1 ⊢
            simp [gI_pI, gR_pR, gR_I, gI_R, gI_nw, gR_nw, h1, e, ← hk]
        · exact vF_k (σ := σ) (fun a b1 b2 => by rw [gI_ne (by omega), gI_ne (by omega), gI_ne (by omega), gI_ne (by omega), gI_ne (by omega), gI_R, gI_ne (by omega), gI_ne (by omega), gI_ne (by omega), gI_nn (by omega)]) rfl rfl rfl rfl (Nat.le_refl _) (by show gN σ 7 ≤ gN σ 7 + 1; omega) rfl hF
        · refine fr_vG_I rfl (vG_1316 ?_ (by repeat (first | assumption | refine fr_vC_I rfl ?_ | refine fr_vN_I rfl ?_ | refine fr_vH_I rfl ?_ | refine fr_vK_I rfl ?_ | refine fr_vF_I rfl ?_ | refine fr_vS_I rfl ?_ | refine fr_vL_I rfl ?_ | refine fr_vG_I rfl ?_ | refine fr_vD_I rfl ?_ | refine fr_vT_I rfl ?_ | refine fr_vX_I rfl ?_ | refine fr_vZ_I rfl ?_ | refine fr_vL_R ?_ | refine fr_vC_R rfl ?_ | refine fr_vN_R rfl ?_ | refine fr_vH_R rfl ?_ | refine fr_vK_R rfl ?_ | refine fr_vF_R rfl ?_ | refine fr_vS_R rfl ?_ | refine fr_vG_R rfl ?_ | refine fr_vT_R rfl ?_ | refine fr_vX_R rfl ?_ | refine fr_vZ_R rfl ?_ | refine fr_vD_R (by decide) ?_ | refine fr_vC_N rfl ?_ | refine fr_vN_N rfl ?_ | refine fr_vH_N rfl ?_ | refine fr_vK_N rfl ?_ | refine fr_vF_N rfl ?_ | refine fr_vS_N rfl ?_ | refine fr_vL_N rfl ?_ | refine fr_vG_N rfl ?_ | refine fr_vD_N rfl ?_ | refine fr_vT_N rfl ?_ | refine fr_vX_N rfl ?_ | refine fr_vZ_N rfl ?_)))
          intro f hf
          have := (hF f hf).2.2.2.2.2.2.2.2.2.2.1
          show kd σ f ≠ k
          omega
    · have hk20 : gN σ 7 = 20 := by omega
      refine Ok2.same h' (r := -2) ?_ ?_
      · unfold f11_kind
        simp only [e_isIn, zc1_s, t01, Int32.reduceToInt, zlt_s]
        rw [if_neg (by omega), if_neg (by rw [i_lt]; simp only [Int32.reduceToInt]; omega), if_neg (by rw [i_lt]; simp only [Int32.reduceToInt]; omega), if_neg (by omega), n4, hk20, if_neg (by decide)]
      · unfold f12_kind
        simp only [m_isTrade, e_within, zc1_s, t01, Int32.reduceToInt, zlt_s]
        rw [if_neg (by omega), if_neg (by omega), if_neg (by omega), n5, hk20, if_pos (by rfl)]
  · refine Ok2.same h' (r := -1) ?_ ?_
    · unfold f11_kind
      simp only [e_isIn, zc1_s, t01, Int32.reduceToInt, zlt_s, i_lt]
      by_cases c1 : 0 ≤ v1.toInt ∧ v1.toInt < 10
      · rw [if_neg (by omega)]
        by_cases c2 : v2.toInt < 1
        · rw [if_pos c2]
        · rw [if_neg c2]
          by_cases c3 : 999 < v2.toInt
          · rw [if_pos c3]
          · rw [if_neg c3, if_pos (by omega)]
      · rw [if_pos c1]
    · unfold f12_kind
      simp only [m_isTrade, e_within, zc1_s, t01, Int32.reduceToInt, zlt_s]
      by_cases c1 : 0 ≤ v1.toInt ∧ v1.toInt ≤ 9
      · rw [if_neg (by omega)]
        by_cases c2 : 1 ≤ v2.toInt ∧ v2.toInt ≤ 999
        · rw [if_neg (by omega), if_pos (by omega)]
        · rw [if_pos c2]
      · rw [if_pos c1]
