def InvT (σ : zSt) : Prop := zOK σ ∧ vC σ ∧ vN σ ∧ vH σ ∧ vK σ ∧ vF σ ∧ vS σ ∧ vL σ ∧ vG σ ∧ vD σ ∧ vX σ ∧ vZ σ
theorem fC_inv (x : Int32) (t i : Nat) (s : zSt) (h : InvT s) : InvT (fC x t i s) := by
  obtain ⟨hO, hC, hN, hH, hK, hF, hS, hL, hG, hD, hX, hZ⟩ := h
  unfold fC
  exact ⟨hO, hC, (by repeat (first | assumption | refine fr_vC_I rfl ?_ | refine fr_vN_I rfl ?_ | refine fr_vH_I rfl ?_ | refine fr_vK_I rfl ?_ | refine fr_vF_I rfl ?_ | refine fr_vS_I rfl ?_ | refine fr_vL_I rfl ?_ | refine fr_vG_I rfl ?_ | refine fr_vD_I rfl ?_ | refine fr_vT_I rfl ?_ | refine fr_vX_I rfl ?_ | refine fr_vZ_I rfl ?_)), (by repeat (first | assumption | refine fr_vC_I rfl ?_ | refine fr_vN_I rfl ?_ | refine fr_vH_I rfl ?_ | refine fr_vK_I rfl ?_ | refine fr_vF_I rfl ?_ | refine fr_vS_I rfl ?_ | refine fr_vL_I rfl ?_ | refine fr_vG_I rfl ?_ | refine fr_vD_I rfl ?_ | refine fr_vT_I rfl ?_ | refine fr_vX_I rfl ?_ | refine fr_vZ_I rfl ?_)), (by repeat (first | assumption | refine fr_vC_I rfl ?_ | refine fr_vN_I rfl ?_ | refine fr_vH_I rfl ?_ | refine fr_vK_I rfl ?_ | refine fr_vF_I rfl ?_ | refine fr_vS_I rfl ?_ | refine fr_vL_I rfl ?_ | refine fr_vG_I rfl ?_ | refine fr_vD_I rfl ?_ | refine fr_vT_I rfl ?_ | refine fr_vX_I rfl ?_ | refine fr_vZ_I rfl ?_)), (by repeat (first | assumption | refine fr_vC_I rfl ?_ | refine fr_vN_I rfl ?_ | refine fr_vH_I rfl ?_ | refine fr_vK_I rfl ?_ | refine fr_vF_I rfl ?_ | refine fr_vS_I rfl ?_ | refine fr_vL_I rfl ?_ | refine fr_vG_I rfl ?_ | refine fr_vD_I rfl ?_ | refine fr_vT_I rfl ?_ | refine fr_vX_I rfl ?_ | refine fr_vZ_I rfl ?_)), (by repeat (first | assumption | refine fr_vC_I rfl ?_ | refine fr_vN_I rfl ?_ | refine fr_vH_I rfl ?_ | refine fr_vK_I rfl ?_ | refine fr_vF_I rfl ?_ | refine fr_vS_I rfl ?_ | refine fr_vL_I rfl ?_ | refine fr_vG_I rfl ?_ | refine fr_vD_I rfl ?_ | refine fr_vT_I rfl ?_ | refine fr_vX_I rfl ?_ | refine fr_vZ_I rfl ?_)), (by repeat (first | assumption | refine fr_vC_I rfl ?_ | refine fr_vN_I rfl ?_ | refine fr_vH_I rfl ?_ | refine fr_vK_I rfl ?_ | refine fr_vF_I rfl ?_ | refine fr_vS_I rfl ?_ | refine fr_vL_I rfl ?_ | refine fr_vG_I rfl ?_ | refine fr_vD_I rfl ?_ | refine fr_vT_I rfl ?_ | refine fr_vX_I rfl ?_ | refine fr_vZ_I rfl ?_)), (by repeat (first | assumption | refine fr_vC_I rfl ?_ | refine fr_vN_I rfl ?_ | refine fr_vH_I rfl ?_ | refine fr_vK_I rfl ?_ | refine fr_vF_I rfl ?_ | refine fr_vS_I rfl ?_ | refine fr_vL_I rfl ?_ | refine fr_vG_I rfl ?_ | refine fr_vD_I rfl ?_ | refine fr_vT_I rfl ?_ | refine fr_vX_I rfl ?_ | refine fr_vZ_I rfl ?_)), (by repeat (first | assumption | refine fr_vC_I rfl ?_ | refine fr_vN_I rfl ?_ | refine fr_vH_I rfl ?_ | refine fr_vK_I rfl ?_ | refine fr_vF_I rfl ?_ | refine fr_vS_I rfl ?_ | refine fr_vL_I rfl ?_ | refine fr_vG_I rfl ?_ | refine fr_vD_I rfl ?_ | refine fr_vT_I rfl ?_ | refine fr_vX_I rfl ?_ | refine fr_vZ_I rfl ?_)), (by repeat (first | assumption | refine fr_vC_I rfl ?_ | refine fr_vN_I rfl ?_ | refine fr_vH_I rfl ?_ | refine fr_vK_I rfl ?_ | refine fr_vF_I rfl ?_ | refine fr_vS_I rfl ?_ | refine fr_vL_I rfl ?_ | refine fr_vG_I rfl ?_ | refine fr_vD_I rfl ?_ | refine fr_vT_I rfl ?_ | refine fr_vX_I rfl ?_ | refine fr_vZ_I rfl ?_)), (by repeat (first | assumption | refine fr_vC_I rfl ?_ | refine fr_vN_I rfl ?_ | refine fr_vH_I rfl ?_ | refine fr_vK_I rfl ?_ | refine fr_vF_I rfl ?_ | refine fr_vS_I rfl ?_ | refine fr_vL_I rfl ?_ | refine fr_vG_I rfl ?_ | refine fr_vD_I rfl ?_ | refine fr_vT_I rfl ?_ | refine fr_vX_I rfl ?_ | refine fr_vZ_I rfl ?_))⟩
theorem fM_inv (x : Int32) (t i : Nat) (s : zSt) (h : InvT s) : InvT (fM x t i s) := by
  obtain ⟨hO, hC, hN, hH, hK, hF, hS, hL, hG, hD, hX, hZ⟩ := h
  unfold fM
  exact ⟨hO, hC, (by repeat (first | assumption | refine fr_vC_I rfl ?_ | refine fr_vN_I rfl ?_ | refine fr_vH_I rfl ?_ | refine fr_vK_I rfl ?_ | refine fr_vF_I rfl ?_ | refine fr_vS_I rfl ?_ | refine fr_vL_I rfl ?_ | refine fr_vG_I rfl ?_ | refine fr_vD_I rfl ?_ | refine fr_vT_I rfl ?_ | refine fr_vX_I rfl ?_ | refine fr_vZ_I rfl ?_)), (by repeat (first | assumption | refine fr_vC_I rfl ?_ | refine fr_vN_I rfl ?_ | refine fr_vH_I rfl ?_ | refine fr_vK_I rfl ?_ | refine fr_vF_I rfl ?_ | refine fr_vS_I rfl ?_ | refine fr_vL_I rfl ?_ | refine fr_vG_I rfl ?_ | refine fr_vD_I rfl ?_ | refine fr_vT_I rfl ?_ | refine fr_vX_I rfl ?_ | refine fr_vZ_I rfl ?_)), (by repeat (first | assumption | refine fr_vC_I rfl ?_ | refine fr_vN_I rfl ?_ | refine fr_vH_I rfl ?_ | refine fr_vK_I rfl ?_ | refine fr_vF_I rfl ?_ | refine fr_vS_I rfl ?_ | refine fr_vL_I rfl ?_ | refine fr_vG_I rfl ?_ | refine fr_vD_I rfl ?_ | refine fr_vT_I rfl ?_ | refine fr_vX_I rfl ?_ | refine fr_vZ_I rfl ?_)), (by repeat (first | assumption | refine fr_vC_I rfl ?_ | refine fr_vN_I rfl ?_ | refine fr_vH_I rfl ?_ | refine fr_vK_I rfl ?_ | refine fr_vF_I rfl ?_ | refine fr_vS_I rfl ?_ | refine fr_vL_I rfl ?_ | refine fr_vG_I rfl ?_ | refine fr_vD_I rfl ?_ | refine fr_vT_I rfl ?_ | refine fr_vX_I rfl ?_ | refine fr_vZ_I rfl ?_)), (by repeat (first | assumption | refine fr_vC_I rfl ?_ | refine fr_vN_I rfl ?_ | refine fr_vH_I rfl ?_ | refine fr_vK_I rfl ?_ | refine fr_vF_I rfl ?_ | refine fr_vS_I rfl ?_ | refine fr_vL_I rfl ?_ | refine fr_vG_I rfl ?_ | refine fr_vD_I rfl ?_ | refine fr_vT_I rfl ?_ | refine fr_vX_I rfl ?_ | refine fr_vZ_I rfl ?_)), (by repeat (first | assumption | refine fr_vC_I rfl ?_ | refine fr_vN_I rfl ?_ | refine fr_vH_I rfl ?_ | refine fr_vK_I rfl ?_ | refine fr_vF_I rfl ?_ | refine fr_vS_I rfl ?_ | refine fr_vL_I rfl ?_ | refine fr_vG_I rfl ?_ | refine fr_vD_I rfl ?_ | refine fr_vT_I rfl ?_ | refine fr_vX_I rfl ?_ | refine fr_vZ_I rfl ?_)), (by repeat (first | assumption | refine fr_vC_I rfl ?_ | refine fr_vN_I rfl ?_ | refine fr_vH_I rfl ?_ | refine fr_vK_I rfl ?_ | refine fr_vF_I rfl ?_ | refine fr_vS_I rfl ?_ | refine fr_vL_I rfl ?_ | refine fr_vG_I rfl ?_ | refine fr_vD_I rfl ?_ | refine fr_vT_I rfl ?_ | refine fr_vX_I rfl ?_ | refine fr_vZ_I rfl ?_)), (by repeat (first | assumption | refine fr_vC_I rfl ?_ | refine fr_vN_I rfl ?_ | refine fr_vH_I rfl ?_ | refine fr_vK_I rfl ?_ | refine fr_vF_I rfl ?_ | refine fr_vS_I rfl ?_ | refine fr_vL_I rfl ?_ | refine fr_vG_I rfl ?_ | refine fr_vD_I rfl ?_ | refine fr_vT_I rfl ?_ | refine fr_vX_I rfl ?_ | refine fr_vZ_I rfl ?_)), (by repeat (first | assumption | refine fr_vC_I rfl ?_ | refine fr_vN_I rfl ?_ | refine fr_vH_I rfl ?_ | refine fr_vK_I rfl ?_ | refine fr_vF_I rfl ?_ | refine fr_vS_I rfl ?_ | refine fr_vL_I rfl ?_ | refine fr_vG_I rfl ?_ | refine fr_vD_I rfl ?_ | refine fr_vT_I rfl ?_ | refine fr_vX_I rfl ?_ | refine fr_vZ_I rfl ?_)), (by repeat (first | assumption | refine fr_vC_I rfl ?_ | refine fr_vN_I rfl ?_ | refine fr_vH_I rfl ?_ | refine fr_vK_I rfl ?_ | refine fr_vF_I rfl ?_ | refine fr_vS_I rfl ?_ | refine fr_vL_I rfl ?_ | refine fr_vG_I rfl ?_ | refine fr_vD_I rfl ?_ | refine fr_vT_I rfl ?_ | refine fr_vX_I rfl ?_ | refine fr_vZ_I rfl ?_))⟩
theorem fC_o (x : Int32) (t : Nat) (s : zSt) : ∀ n, gI (zfold (fC x t) s n) 1348 = gI s 1348 ∧ gI (zfold (fC x t) s n) 12 = gI s 12
  | 0 => ⟨rfl, rfl⟩
  | n + 1 => fC_o x t s n
theorem fM_o (x : Int32) (t : Nat) (s : zSt) : ∀ n, gI (zfold (fM x t) s n) 1210 = gI s 1210 ∧ gI (zfold (fM x t) s n) 11 = gI s 11
  | 0 => ⟨rfl, rfl⟩
  | n + 1 => fM_o x t s n
theorem t_feed {σ : zSt} (h : Inv σ) (v1 v2 : Int32) : Ok2 (f11_feed v1 v2 σ) (f12_feed v1 v2) := by
  have h' := h
  obtain ⟨hO, hC, hN, hH, hK, hF, hS, hL, hG, hD, ⟨t1, t2, t3, t4⟩, hX, hZ⟩ := h
  obtain ⟨t, ht⟩ : ∃ t, t = tpn σ := ⟨_, rfl⟩
  rw [← ht] at t1 t2 t3 t4
  by_cases hv : 1 ≤ v1.toInt ∧ v1.toInt ≤ 4
  · obtain ⟨v, hv0⟩ : ∃ v, v = nT v1 := ⟨_, rfl⟩
    have hv1 : v1 = nI v := by rw [hv0]; exact i_ofNat (by omega)
    have hv2 : 1 ≤ v ∧ v ≤ 4 := by rw [hv0]; unfold nT; omega
    clear hv0
    subst hv1
    by_cases hb : t + v ≤ 160
    · have e1 : gI (zfold (fC v2 t) σ v) 11 0 11 = nI (t + v) := fC_11 v2 t σ t2 v
      have e2 : gI (zfold (fC v2 t) σ v) 12 0 49 = nI t := by rw [(fC_o v2 t σ v).2]; exact t1
      have e3 : gI (zfold (fM v2 t) (zfold (fC v2 t) σ v) v) 12 0 49 = nI (t + v) := fM_12 v2 t _ e2 v
      have hI : InvT (zfold (fM v2 t) (zfold (fC v2 t) σ v) v) := zfold_ind InvT _ _ (zfold_ind InvT _ _ ⟨hO, hC, hN, hH, hK, hF, hS, hL, hG, hD, hX, hZ⟩ (fun i s => fC_inv v2 t i s) v) (fun i s => fM_inv v2 t i s) v
      have hI1 : InvT (zfold (fC v2 t) σ v) := zfold_ind InvT _ _ ⟨hO, hC, hN, hH, hK, hF, hS, hL, hG, hD, hX, hZ⟩ (fun i s => fC_inv v2 t i s) v
      refine ⟨nI (t + v), zfold (fC v2 t) σ v, zfold (fM v2 t) (zfold (fC v2 t) σ v) v, ?_, hI1.1, ?_, ?_⟩
      · unfold f11_feed
        rw [if_neg (by rw [i_lt]; simp only [Int32.reduceToInt]; omega), if_pos (by rw [i_le]; simp only [Int32.reduceToInt]; omega), t2, nI_add' t v (by omega), if_pos (by rw [i_le, nI_ti (show t + v < 2 ^ 31 by omega)]; simp only [Int32.reduceToInt]; omega), l_feedC v2 v t hv2.2 hb _ σ t2, e1]
      · unfold f12_feed
        simp only [e_within, zc1_s, t01, Int32.reduceToInt]
        rw [if_neg (by omega), e2, nI_add' t v (by omega), if_pos (by rw [i_le, nI_ti (show t + v < 2 ^ 31 by omega)]; simp only [Int32.reduceToInt]; omega), l_feedM v2 v t hv2.2 hb _ _ e2, e3]
      · obtain ⟨i1, i2, i3, i4, i5, i6, i7, i8, i9, i10, i11, i12⟩ := hI
        refine ⟨i1, i2, i3, i4, i5, i6, i7, i8, i9, i10, ?_, i11, i12⟩
        have etp : tpn (zfold (fM v2 t) (zfold (fC v2 t) σ v) v) = t + v := by
          unfold tpn nT
          rw [e3, nI_ti (by omega)]
          omega
        unfold vT
        rw [etp]
        refine ⟨e3, ?_, hb, fun j hj => ?_⟩
        · rw [(fM_o v2 t _ v).2]
          exact e1
        · rw [(fM_o v2 t _ v).1, fC_b v2 t σ j v, fM_b v2 t _ j v, (fC_o v2 t σ v).1]
          by_cases e : t ≤ j ∧ j < t + v
          · rw [if_pos e, if_pos e]
            exact ⟨rfl, b255 _⟩
          · rw [if_neg e, if_neg e]
            exact t4 j (by omega)
    · refine Ok2.same h' (r := -2) ?_ ?_
      · unfold f11_feed
        rw [if_neg (by rw [i_lt]; simp only [Int32.reduceToInt]; omega), if_pos (by rw [i_le]; simp only [Int32.reduceToInt]; omega), t2, nI_add' t v (by omega), if_neg (by rw [i_le, nI_ti (show t + v < 2 ^ 31 by omega)]; simp only [Int32.reduceToInt]; omega)]
      · unfold f12_feed
        simp only [e_within, zc1_s, t01, Int32.reduceToInt]
        rw [if_neg (by omega), t1, nI_add' t v (by omega), if_neg (by rw [i_le, nI_ti (show t + v < 2 ^ 31 by omega)]; simp only [Int32.reduceToInt]; omega)]
  · refine Ok2.same h' (r := -1) ?_ ?_
    · unfold f11_feed
      by_cases e : v1 < 1
      · rw [if_pos e]
      · rw [if_neg e, if_neg]
        rw [i_lt] at e
        rw [i_le]
        simp only [Int32.reduceToInt] at e ⊢
        omega
    · unfold f12_feed
      simp only [e_within, zc1_s, t01, Int32.reduceToInt]
      rw [if_pos hv]
