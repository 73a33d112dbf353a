/-! causes -/
theorem gI_at (σ : zSt) (t i k : Nat) (v : Int32) : gI (pI σ t i k v) t i k = v := by rw [gI_pI, if_pos ⟨rfl, rfl, rfl⟩]
def pwk (σ : zSt) (k : Nat) (d : Int32) (i f : Nat) : Bool := decide (hm σ f = i ∧ kd σ f = k) && decide (0 ≤ (stn σ f d).toInt ∧ ¬ stn σ f d = 4)
def wth (σ : zSt) (k : Nat) (d : Int32) (i : Nat) : Bool := zan (pwk σ k d i) (mF σ)
theorem RY_wth {s σ : zSt} (x : RY s σ) : wth s = wth σ := by
  obtain ⟨b1, b2, b3, b4, b5, b6, b7, -⟩ := RY_b x
  funext k d i
  unfold wth
  rw [b7]
  congr 1
  funext f
  unfold pwk
  rw [b5, b6, RY_stn x]
theorem e_hasKind {σ : zSt} (h : Inv σ) (i k : Nat) (d : Int32) : f11_hasKind i k d σ = some (b01 (wth σ k d i)) := by
  obtain ⟨n1, n2, n3⟩ := N_f h
  have hr := RI_of h
  unfold f11_hasKind wth
  rw [zan_first, lfirst (f11_hasKind_L3 i k d σ) (some 0) (pwk σ k d i) (fun _ => some 1) (mF σ) (by omega) (fun n f hf => ?_) (fun n => ?_) (zfuel_pos (by omega))]
  · cases zfirst (pwk σ k d i) 0 (mF σ) <;> rfl
  · have hl := F_lt hr hf
    obtain ⟨r1, r2, r3, r4⟩ := F_R h hf
    rw [f11_hasKind_L3, n1, if_neg (zn_nle hf (by omega)), zix_s hl (by decide), zlt_s, r1, zoc_s, zlt_s, r3, zlt_s, zlt_s, r4, zlt_s, e_onDay' d (A_F h hf).2.1, zc1_s]
    simp only [some_eq]
    unfold pwk
    by_cases c1 : hm σ f = i
    · rw [if_pos c1]
      by_cases c2 : kd σ f = k
      · rw [if_pos c2, decide_eq_true ⟨c1, c2⟩]
        rcases stn_in d (F_RS hr hf) with e | e
        · rw [e, if_pos (by rfl)]
          rfl
        · rw [zpl_pos e.1, if_neg (show ¬ stn σ f d = -4 by
            rw [i_eq]
            have := e.1
            have h4 : (-4 : Int32).toInt = -4 := by decide
            omega)]
          by_cases c4 : stn σ f d = 4
          · rw [if_pos c4, decide_eq_false (fun hh => hh.2 c4)]; rfl
          · rw [if_neg c4, decide_eq_true ⟨e.1, c4⟩]; rfl
      · rw [if_neg c2, decide_eq_false (fun hh => c2 hh.2)]; rfl
    · rw [if_neg c1, decide_eq_false (fun hh => c1 hh.1)]; rfl
  · rw [f11_hasKind_L3, n1, if_pos (zn_rle _)]
theorem m_hasKind {σ : zSt} (h : RI σ) {i k : Nat} (hi : i < 40) (hk : k < 20) (d : Int32) : f12_hasKind (nI i) (nI k) d σ = some (b01 (wth σ k d i)) := by
  obtain ⟨n1, n2⟩ := h.2.2.1
  unfold f12_hasKind wth
  have key : ∀ dd f m, f + dd = mF σ → dd < m → f12_hasKind_L6 (nI i) (nI k) d σ m (b01 (zan (pwk σ k d i) f)) (nI f) = some (b01 (zan (pwk σ k d i) (mF σ))) := by
    intro dd
    induction dd with
    | zero =>
      intro f m hfd hq
      obtain ⟨m, rfl⟩ : ∃ q, m = q + 1 := ⟨m - 1, by omega⟩
      obtain rfl : f = mF σ := by omega
      rw [f12_hasKind_L6, n1, if_pos (zn_rle _)]
      cases zan (pwk σ k d i) (mF σ) <;> rfl
    | succ dd ih =>
      intro f m hfd hq
      obtain ⟨m, rfl⟩ : ∃ q, m = q + 1 := ⟨m - 1, by omega⟩
      have hf : f < mF σ := by omega
      have hl := F_lt h hf
      obtain ⟨k1, k2, k3⟩ := F_kd h hf
      rw [← ih (f + 1) m (by omega) (by omega), f12_hasKind_L6, n1, if_neg (zn_nle hf (by omega)), zix_s hl (by decide), zlt_s, zlt_s, zix_s hl (by decide), m_stateOn' d hl (F_RS h hf), zc1_s, k1]
      simp only [hm_eq h hf hi, nI_inj (show kd σ f < 2 ^ 31 by omega) (show k < 2 ^ 31 by omega)]
      have J : ∀ x : Int32, (decide (0 ≤ x.toInt ∧ ¬ x = 4)) = pwk σ k d i f → (zlt (if b01 (zan (pwk σ k d i) f) = 0 then (if x < 0 then 0 else (if x = 4 then 0 else 1)) else 1 : Int32) fun x15 => zlt (nI f + 1 : Int32) fun x16 => f12_hasKind_L6 (nI i) (nI k) d σ m x15 x16) = f12_hasKind_L6 (nI i) (nI k) d σ m (b01 (zan (pwk σ k d i) (f + 1))) (nI (f + 1)) := fun x hx => by
        rw [zlt_s, zlt_s, nI_suc f (by omega)]
        show _ = f12_hasKind_L6 (nI i) (nI k) d σ m (b01 (zan (pwk σ k d i) f || pwk σ k d i f)) (nI (f + 1))
        congr 1
        cases zan (pwk σ k d i) f
        · rw [if_pos (show b01 false = 0 from rfl), Bool.false_or, ← hx]
          by_cases c1 : x < 0
          · rw [if_pos c1, decide_eq_false (fun hh => by rw [i_lt] at c1; simp only [Int32.reduceToInt] at c1; omega)]; rfl
          · rw [if_neg c1]
            by_cases c2 : x = 4
            · rw [if_pos c2, decide_eq_false (fun hh => hh.2 c2)]; rfl
            · rw [if_neg c2, decide_eq_true ⟨by rw [i_lt] at c1; simp only [Int32.reduceToInt] at c1; omega, c2⟩]; rfl
        · rfl
      by_cases c1 : hm σ f = i
      · rw [if_pos c1]
        by_cases c2 : kd σ f = k
        · rw [if_pos c2]
          exact J _ (by unfold pwk; rw [decide_eq_true (show hm σ f = i ∧ kd σ f = k from ⟨c1, c2⟩), Bool.true_and])
        · rw [if_neg c2]
          exact J (-1) (by unfold pwk; rw [decide_eq_false (show ¬ (hm σ f = i ∧ kd σ f = k) from fun hh => c2 hh.2), Bool.false_and]; decide)
      · rw [if_neg c1]
        exact J (-1) (by unfold pwk; rw [decide_eq_false (show ¬ (hm σ f = i ∧ kd σ f = k) from fun hh => c1 hh.1), Bool.false_and]; decide)
  exact key (mF σ) 0 zfuel (by omega) (zfuel_pos (by omega))
theorem Inv_1218 {σ : zSt} (h : Inv σ) (i : Nat) (v : Int32) : Inv (pI σ 1218 0 i v) := by
  obtain ⟨hO, hC, hN, hH, hK, hF, hS, hL, hG, hD, hT, hX, hZ⟩ := h
  exact ⟨hO, hC, (by repeat (first | assumption | refine fr_vC_I rfl ?_ | refine fr_vN_I rfl ?_ | refine fr_vH_I rfl ?_ | refine fr_vK_I rfl ?_ | refine fr_vF_I rfl ?_ | refine fr_vS_I rfl ?_ | refine fr_vL_I rfl ?_ | refine fr_vG_I rfl ?_ | refine fr_vD_I rfl ?_ | refine fr_vT_I rfl ?_ | refine fr_vX_I rfl ?_ | refine fr_vZ_I rfl ?_)), (by repeat (first | assumption | refine fr_vC_I rfl ?_ | refine fr_vN_I rfl ?_ | refine fr_vH_I rfl ?_ | refine fr_vK_I rfl ?_ | refine fr_vF_I rfl ?_ | refine fr_vS_I rfl ?_ | refine fr_vL_I rfl ?_ | refine fr_vG_I rfl ?_ | refine fr_vD_I rfl ?_ | refine fr_vT_I rfl ?_ | refine fr_vX_I rfl ?_ | refine fr_vZ_I rfl ?_)), (by repeat (first | assumption | refine fr_vC_I rfl ?_ | refine fr_vN_I rfl ?_ | refine fr_vH_I rfl ?_ | refine fr_vK_I rfl ?_ | refine fr_vF_I rfl ?_ | refine fr_vS_I rfl ?_ | refine fr_vL_I rfl ?_ | refine fr_vG_I rfl ?_ | refine fr_vD_I rfl ?_ | refine fr_vT_I rfl ?_ | refine fr_vX_I rfl ?_ | refine fr_vZ_I rfl ?_)), (by repeat (first | assumption | refine fr_vC_I rfl ?_ | refine fr_vN_I rfl ?_ | refine fr_vH_I rfl ?_ | refine fr_vK_I rfl ?_ | refine fr_vF_I rfl ?_ | refine fr_vS_I rfl ?_ | refine fr_vL_I rfl ?_ | refine fr_vG_I rfl ?_ | refine fr_vD_I rfl ?_ | refine fr_vT_I rfl ?_ | refine fr_vX_I rfl ?_ | refine fr_vZ_I rfl ?_)), (by repeat (first | assumption | refine fr_vC_I rfl ?_ | refine fr_vN_I rfl ?_ | refine fr_vH_I rfl ?_ | refine fr_vK_I rfl ?_ | refine fr_vF_I rfl ?_ | refine fr_vS_I rfl ?_ | refine fr_vL_I rfl ?_ | refine fr_vG_I rfl ?_ | refine fr_vD_I rfl ?_ | refine fr_vT_I rfl ?_ | refine fr_vX_I rfl ?_ | refine fr_vZ_I rfl ?_)), (by repeat (first | assumption | refine fr_vC_I rfl ?_ | refine fr_vN_I rfl ?_ | refine fr_vH_I rfl ?_ | refine fr_vK_I rfl ?_ | refine fr_vF_I rfl ?_ | refine fr_vS_I rfl ?_ | refine fr_vL_I rfl ?_ | refine fr_vG_I rfl ?_ | refine fr_vD_I rfl ?_ | refine fr_vT_I rfl ?_ | refine fr_vX_I rfl ?_ | refine fr_vZ_I rfl ?_)), (by repeat (first | assumption | refine fr_vC_I rfl ?_ | refine fr_vN_I rfl ?_ | refine fr_vH_I rfl ?_ | refine fr_vK_I rfl ?_ | refine fr_vF_I rfl ?_ | refine fr_vS_I rfl ?_ | refine fr_vL_I rfl ?_ | refine fr_vG_I rfl ?_ | refine fr_vD_I rfl ?_ | refine fr_vT_I rfl ?_ | refine fr_vX_I rfl ?_ | refine fr_vZ_I rfl ?_)), (by repeat (first | assumption | refine fr_vC_I rfl ?_ | refine fr_vN_I rfl ?_ | refine fr_vH_I rfl ?_ | refine fr_vK_I rfl ?_ | refine fr_vF_I rfl ?_ | refine fr_vS_I rfl ?_ | refine fr_vL_I rfl ?_ | refine fr_vG_I rfl ?_ | refine fr_vD_I rfl ?_ | refine fr_vT_I rfl ?_ | refine fr_vX_I rfl ?_ | refine fr_vZ_I rfl ?_)), (by repeat (first | assumption | refine fr_vC_I rfl ?_ | refine fr_vN_I rfl ?_ | refine fr_vH_I rfl ?_ | refine fr_vK_I rfl ?_ | refine fr_vF_I rfl ?_ | refine fr_vS_I rfl ?_ | refine fr_vL_I rfl ?_ | refine fr_vG_I rfl ?_ | refine fr_vD_I rfl ?_ | refine fr_vT_I rfl ?_ | refine fr_vX_I rfl ?_ | refine fr_vZ_I rfl ?_)), (by repeat (first | assumption | refine fr_vC_I rfl ?_ | refine fr_vN_I rfl ?_ | refine fr_vH_I rfl ?_ | refine fr_vK_I rfl ?_ | refine fr_vF_I rfl ?_ | refine fr_vS_I rfl ?_ | refine fr_vL_I rfl ?_ | refine fr_vG_I rfl ?_ | refine fr_vD_I rfl ?_ | refine fr_vT_I rfl ?_ | refine fr_vX_I rfl ?_ | refine fr_vZ_I rfl ?_)), (by repeat (first | assumption | refine fr_vC_I rfl ?_ | refine fr_vN_I rfl ?_ | refine fr_vH_I rfl ?_ | refine fr_vK_I rfl ?_ | refine fr_vF_I rfl ?_ | refine fr_vS_I rfl ?_ | refine fr_vL_I rfl ?_ | refine fr_vG_I rfl ?_ | refine fr_vD_I rfl ?_ | refine fr_vT_I rfl ?_ | refine fr_vX_I rfl ?_ | refine fr_vZ_I rfl ?_))⟩
theorem Inv_1357 {σ : zSt} (h : Inv σ) (i : Nat) (v : Int32) : Inv (pI σ 1357 0 i v) := by
  obtain ⟨hO, hC, hN, hH, hK, hF, hS, hL, hG, hD, hT, hX, hZ⟩ := h
  exact ⟨hO, hC, (by repeat (first | assumption | refine fr_vC_I rfl ?_ | refine fr_vN_I rfl ?_ | refine fr_vH_I rfl ?_ | refine fr_vK_I rfl ?_ | refine fr_vF_I rfl ?_ | refine fr_vS_I rfl ?_ | refine fr_vL_I rfl ?_ | refine fr_vG_I rfl ?_ | refine fr_vD_I rfl ?_ | refine fr_vT_I rfl ?_ | refine fr_vX_I rfl ?_ | refine fr_vZ_I rfl ?_)), (by repeat (first | assumption | refine fr_vC_I rfl ?_ | refine fr_vN_I rfl ?_ | refine fr_vH_I rfl ?_ | refine fr_vK_I rfl ?_ | refine fr_vF_I rfl ?_ | refine fr_vS_I rfl ?_ | refine fr_vL_I rfl ?_ | refine fr_vG_I rfl ?_ | refine fr_vD_I rfl ?_ | refine fr_vT_I rfl ?_ | refine fr_vX_I rfl ?_ | refine fr_vZ_I rfl ?_)), (by repeat (first | assumption | refine fr_vC_I rfl ?_ | refine fr_vN_I rfl ?_ | refine fr_vH_I rfl ?_ | refine fr_vK_I rfl ?_ | refine fr_vF_I rfl ?_ | refine fr_vS_I rfl ?_ | refine fr_vL_I rfl ?_ | refine fr_vG_I rfl ?_ | refine fr_vD_I rfl ?_ | refine fr_vT_I rfl ?_ | refine fr_vX_I rfl ?_ | refine fr_vZ_I rfl ?_)), (by repeat (first | assumption | refine fr_vC_I rfl ?_ | refine fr_vN_I rfl ?_ | refine fr_vH_I rfl ?_ | refine fr_vK_I rfl ?_ | refine fr_vF_I rfl ?_ | refine fr_vS_I rfl ?_ | refine fr_vL_I rfl ?_ | refine fr_vG_I rfl ?_ | refine fr_vD_I rfl ?_ | refine fr_vT_I rfl ?_ | refine fr_vX_I rfl ?_ | refine fr_vZ_I rfl ?_)), (by repeat (first | assumption | refine fr_vC_I rfl ?_ | refine fr_vN_I rfl ?_ | refine fr_vH_I rfl ?_ | refine fr_vK_I rfl ?_ | refine fr_vF_I rfl ?_ | refine fr_vS_I rfl ?_ | refine fr_vL_I rfl ?_ | refine fr_vG_I rfl ?_ | refine fr_vD_I rfl ?_ | refine fr_vT_I rfl ?_ | refine fr_vX_I rfl ?_ | refine fr_vZ_I rfl ?_)), (by repeat (first | assumption | refine fr_vC_I rfl ?_ | refine fr_vN_I rfl ?_ | refine fr_vH_I rfl ?_ | refine fr_vK_I rfl ?_ | refine fr_vF_I rfl ?_ | refine fr_vS_I rfl ?_ | refine fr_vL_I rfl ?_ | refine fr_vG_I rfl ?_ | refine fr_vD_I rfl ?_ | refine fr_vT_I rfl ?_ | refine fr_vX_I rfl ?_ | refine fr_vZ_I rfl ?_)), (by repeat (first | assumption | refine fr_vC_I rfl ?_ | refine fr_vN_I rfl ?_ | refine fr_vH_I rfl ?_ | refine fr_vK_I rfl ?_ | refine fr_vF_I rfl ?_ | refine fr_vS_I rfl ?_ | refine fr_vL_I rfl ?_ | refine fr_vG_I rfl ?_ | refine fr_vD_I rfl ?_ | refine fr_vT_I rfl ?_ | refine fr_vX_I rfl ?_ | refine fr_vZ_I rfl ?_)), (by repeat (first | assumption | refine fr_vC_I rfl ?_ | refine fr_vN_I rfl ?_ | refine fr_vH_I rfl ?_ | refine fr_vK_I rfl ?_ | refine fr_vF_I rfl ?_ | refine fr_vS_I rfl ?_ | refine fr_vL_I rfl ?_ | refine fr_vG_I rfl ?_ | refine fr_vD_I rfl ?_ | refine fr_vT_I rfl ?_ | refine fr_vX_I rfl ?_ | refine fr_vZ_I rfl ?_)), (by repeat (first | assumption | refine fr_vC_I rfl ?_ | refine fr_vN_I rfl ?_ | refine fr_vH_I rfl ?_ | refine fr_vK_I rfl ?_ | refine fr_vF_I rfl ?_ | refine fr_vS_I rfl ?_ | refine fr_vL_I rfl ?_ | refine fr_vG_I rfl ?_ | refine fr_vD_I rfl ?_ | refine fr_vT_I rfl ?_ | refine fr_vX_I rfl ?_ | refine fr_vZ_I rfl ?_)), (by repeat (first | assumption | refine fr_vC_I rfl ?_ | refine fr_vN_I rfl ?_ | refine fr_vH_I rfl ?_ | refine fr_vK_I rfl ?_ | refine fr_vF_I rfl ?_ | refine fr_vS_I rfl ?_ | refine fr_vL_I rfl ?_ | refine fr_vG_I rfl ?_ | refine fr_vD_I rfl ?_ | refine fr_vT_I rfl ?_ | refine fr_vX_I rfl ?_ | refine fr_vZ_I rfl ?_)), (by repeat (first | assumption | refine fr_vC_I rfl ?_ | refine fr_vN_I rfl ?_ | refine fr_vH_I rfl ?_ | refine fr_vK_I rfl ?_ | refine fr_vF_I rfl ?_ | refine fr_vS_I rfl ?_ | refine fr_vL_I rfl ?_ | refine fr_vG_I rfl ?_ | refine fr_vD_I rfl ?_ | refine fr_vT_I rfl ?_ | refine fr_vX_I rfl ?_ | refine fr_vZ_I rfl ?_))⟩
theorem Inv_58 {σ : zSt} (h : Inv σ) (v : Int32) : Inv (pI σ 12 0 58 v) := by
  obtain ⟨hO, hC, hN, hH, hK, hF, hS, hL, hG, hD, hT, hX, hZ⟩ := h
  exact ⟨hO, hC, (by repeat (first | assumption | refine fr_vC_I rfl ?_ | refine fr_vN_I rfl ?_ | refine fr_vH_I rfl ?_ | refine fr_vK_I rfl ?_ | refine fr_vF_I rfl ?_ | refine fr_vS_I rfl ?_ | refine fr_vL_I rfl ?_ | refine fr_vG_I rfl ?_ | refine fr_vD_I rfl ?_ | refine fr_vT_I rfl ?_ | refine fr_vX_I rfl ?_ | refine fr_vZ_I rfl ?_)), (by repeat (first | assumption | refine fr_vC_I rfl ?_ | refine fr_vN_I rfl ?_ | refine fr_vH_I rfl ?_ | refine fr_vK_I rfl ?_ | refine fr_vF_I rfl ?_ | refine fr_vS_I rfl ?_ | refine fr_vL_I rfl ?_ | refine fr_vG_I rfl ?_ | refine fr_vD_I rfl ?_ | refine fr_vT_I rfl ?_ | refine fr_vX_I rfl ?_ | refine fr_vZ_I rfl ?_)), (by repeat (first | assumption | refine fr_vC_I rfl ?_ | refine fr_vN_I rfl ?_ | refine fr_vH_I rfl ?_ | refine fr_vK_I rfl ?_ | refine fr_vF_I rfl ?_ | refine fr_vS_I rfl ?_ | refine fr_vL_I rfl ?_ | refine fr_vG_I rfl ?_ | refine fr_vD_I rfl ?_ | refine fr_vT_I rfl ?_ | refine fr_vX_I rfl ?_ | refine fr_vZ_I rfl ?_)), (by repeat (first | assumption | refine fr_vC_I rfl ?_ | refine fr_vN_I rfl ?_ | refine fr_vH_I rfl ?_ | refine fr_vK_I rfl ?_ | refine fr_vF_I rfl ?_ | refine fr_vS_I rfl ?_ | refine fr_vL_I rfl ?_ | refine fr_vG_I rfl ?_ | refine fr_vD_I rfl ?_ | refine fr_vT_I rfl ?_ | refine fr_vX_I rfl ?_ | refine fr_vZ_I rfl ?_)), (by repeat (first | assumption | refine fr_vC_I rfl ?_ | refine fr_vN_I rfl ?_ | refine fr_vH_I rfl ?_ | refine fr_vK_I rfl ?_ | refine fr_vF_I rfl ?_ | refine fr_vS_I rfl ?_ | refine fr_vL_I rfl ?_ | refine fr_vG_I rfl ?_ | refine fr_vD_I rfl ?_ | refine fr_vT_I rfl ?_ | refine fr_vX_I rfl ?_ | refine fr_vZ_I rfl ?_)), (by repeat (first | assumption | refine fr_vC_I rfl ?_ | refine fr_vN_I rfl ?_ | refine fr_vH_I rfl ?_ | refine fr_vK_I rfl ?_ | refine fr_vF_I rfl ?_ | refine fr_vS_I rfl ?_ | refine fr_vL_I rfl ?_ | refine fr_vG_I rfl ?_ | refine fr_vD_I rfl ?_ | refine fr_vT_I rfl ?_ | refine fr_vX_I rfl ?_ | refine fr_vZ_I rfl ?_)), (by repeat (first | assumption | refine fr_vC_I rfl ?_ | refine fr_vN_I rfl ?_ | refine fr_vH_I rfl ?_ | refine fr_vK_I rfl ?_ | refine fr_vF_I rfl ?_ | refine fr_vS_I rfl ?_ | refine fr_vL_I rfl ?_ | refine fr_vG_I rfl ?_ | refine fr_vD_I rfl ?_ | refine fr_vT_I rfl ?_ | refine fr_vX_I rfl ?_ | refine fr_vZ_I rfl ?_)), (by repeat (first | assumption | refine fr_vC_I rfl ?_ | refine fr_vN_I rfl ?_ | refine fr_vH_I rfl ?_ | refine fr_vK_I rfl ?_ | refine fr_vF_I rfl ?_ | refine fr_vS_I rfl ?_ | refine fr_vL_I rfl ?_ | refine fr_vG_I rfl ?_ | refine fr_vD_I rfl ?_ | refine fr_vT_I rfl ?_ | refine fr_vX_I rfl ?_ | refine fr_vZ_I rfl ?_)), (by repeat (first | assumption | refine fr_vC_I rfl ?_ | refine fr_vN_I rfl ?_ | refine fr_vH_I rfl ?_ | refine fr_vK_I rfl ?_ | refine fr_vF_I rfl ?_ | refine fr_vS_I rfl ?_ | refine fr_vL_I rfl ?_ | refine fr_vG_I rfl ?_ | refine fr_vD_I rfl ?_ | refine fr_vT_I rfl ?_ | refine fr_vX_I rfl ?_ | refine fr_vZ_I rfl ?_)), (by repeat (first | assumption | refine fr_vC_I rfl ?_ | refine fr_vN_I rfl ?_ | refine fr_vH_I rfl ?_ | refine fr_vK_I rfl ?_ | refine fr_vF_I rfl ?_ | refine fr_vS_I rfl ?_ | refine fr_vL_I rfl ?_ | refine fr_vG_I rfl ?_ | refine fr_vD_I rfl ?_ | refine fr_vT_I rfl ?_ | refine fr_vX_I rfl ?_ | refine fr_vZ_I rfl ?_)), (by repeat (first | assumption | refine fr_vC_I rfl ?_ | refine fr_vN_I rfl ?_ | refine fr_vH_I rfl ?_ | refine fr_vK_I rfl ?_ | refine fr_vF_I rfl ?_ | refine fr_vS_I rfl ?_ | refine fr_vL_I rfl ?_ | refine fr_vG_I rfl ?_ | refine fr_vD_I rfl ?_ | refine fr_vT_I rfl ?_ | refine fr_vX_I rfl ?_ | refine fr_vZ_I rfl ?_))⟩
theorem nar01 (c : Bool) : vp_nar .boolean (b01 c) = b01 c := by
  cases c
  · exact znar0
  · exact znar1
theorem inc01 (a : Nat) (c : Bool) (h : a < 1000) : nI a + (if b01 c = 0 then 0 else 1) = nI (a + (if c then 1 else 0)) := by
  cases c
  · rw [if_pos (show b01 false = 0 from rfl)]
    exact i_add0 _
  · rw [if_neg (show ¬ b01 true = 0 by decide)]
    exact nI_suc a (by omega)
/-- the class marks the HOMES with it -/
theorem e_mark {σ : zSt} (h : Inv σ) (k : Nat) (d : Int32) : ∃ s, f11_markHomesWith k d σ = some (nI (cnt (wth σ k d) 0 (mH σ)), s) ∧ Inv s ∧ RY s σ ∧ ∀ i, i < mH σ → gI s 1218 0 i = b01 (wth σ k d i) := by
  unfold f11_markHomesWith
  have h40 := (N_h h).2.2
  have key : ∀ dd i m s, i + dd = mH σ → dd < m → Inv s → RY s σ → (∀ j, j < i → gI s 1218 0 j = b01 (wth σ k d j)) → ∃ s', f11_markHomesWith_L5 k d m (nI (cnt (wth σ k d) 0 i)) (nI i) s = some (nI (cnt (wth σ k d) 0 (mH σ)), s') ∧ Inv s' ∧ RY s' σ ∧ ∀ j, j < mH σ → gI s' 1218 0 j = b01 (wth σ k d j) := by
    intro dd
    induction dd with
    | zero =>
      intro i m s hi hq hs y hw
      obtain ⟨m, rfl⟩ : ∃ q, m = q + 1 := ⟨m - 1, by omega⟩
      obtain rfl : i = mH σ := by omega
      refine ⟨s, ?_, hs, y, hw⟩
      have e1 := (N_h hs).1
      rw [(RY_b y).2.2.2.2.2.2.2.1] at e1
      rw [f11_markHomesWith_L5, e1, if_pos (zn_rle _)]
    | succ dd ih =>
      intro i m s hi hq hs y hw
      obtain ⟨m, rfl⟩ : ∃ q, m = q + 1 := ⟨m - 1, by omega⟩
      have e1 := (N_h hs).1
      rw [(RY_b y).2.2.2.2.2.2.2.1] at e1
      have hi2 : i < mH σ := by omega
      have hc := cnt_le (wth σ k d) i 0
      have a1 := (A_H hs (k := i) (by rw [(RY_b y).2.2.2.2.2.2.2.1]; exact hi2)).1
      have ce : cnt (wth σ k d) 0 (i + 1) = cnt (wth σ k d) 0 i + (if wth σ k d i then 1 else 0) := by rw [cnt_end, Nat.zero_add]
      obtain ⟨s', q1, q2, q3, q4⟩ := ih (i + 1) m (pI s 1218 0 i (b01 (wth σ k d i))) (by omega) (by omega) (Inv_1218 hs _ _) (y.I (by omega)) (fun j hj => by
        rw [gI_pI]
        by_cases e : j = i
        · rw [if_pos ⟨rfl, rfl, e⟩, e]
        · rw [if_neg (fun hh => e hh.2.2)]
          exact hw j (by omega))
      refine ⟨s', ?_, q2, q3, q4⟩
      rw [← q1, f11_markHomesWith_L5, e1, if_neg (zn_nle hi2 (by omega)), zix_s (show i < 40 by omega) (by decide), zlt_s, a1, zoc_s, e_hasKind hs, RY_wth y, zc1_s, zix_s (show i < 40 by omega) (by decide), nar01, zlt_s, zix_s (show i < 40 by omega) (by decide), gI_at, inc01 _ _ (by omega), zlt_s, nI_suc i (by omega), zlt_s, ce]
  obtain ⟨s', q1, q2, q3, q4⟩ := key (mH σ) 0 zfuel σ (by omega) (zfuel_pos (by omega)) h RY.rf (fun j hj => by omega)
  exact ⟨s', q1, q2, q3, q4⟩
/-- so does the reference -/
theorem m_find {σ s0 : zSt} (h : Inv s0) (y0 : RY s0 σ) {k : Nat} (hk : k < 20) (d : Int32) : ∃ s, f12_findWith (nI k) d s0 = some ((), s) ∧ Inv s ∧ RY s σ ∧ gI s 12 0 58 = nI (cnt (wth σ k d) 0 (mH σ)) ∧ ∀ i, i < mH σ → gI s 1357 0 i = b01 (wth σ k d i) := by
  unfold f12_findWith
  have mh := (RY_b y0).2.2.2.2.2.2.2.1
  have h40 := (N_h h).2.2
  rw [mh] at h40
  have key : ∀ dd i m s, i + dd = mH σ → dd < m → Inv s → RY s σ → gI s 12 0 58 = nI (cnt (wth σ k d) 0 i) → (∀ j, j < i → gI s 1357 0 j = b01 (wth σ k d j)) → ∃ s', f12_findWith_L7 (nI k) d m (nI i) s = some ((), s') ∧ Inv s' ∧ RY s' σ ∧ gI s' 12 0 58 = nI (cnt (wth σ k d) 0 (mH σ)) ∧ ∀ j, j < mH σ → gI s' 1357 0 j = b01 (wth σ k d j) := by
    intro dd
    induction dd with
    | zero =>
      intro i m s hi hq hs y h58 hw
      obtain ⟨m, rfl⟩ : ∃ q, m = q + 1 := ⟨m - 1, by omega⟩
      obtain rfl : i = mH σ := by omega
      refine ⟨s, ?_, hs, y, h58, hw⟩
      have e1 := (N_h hs).2.1
      rw [(RY_b y).2.2.2.2.2.2.2.1] at e1
      rw [f12_findWith_L7, e1, if_pos (zn_rle _)]
    | succ dd ih =>
      intro i m s hi hq hs y h58 hw
      obtain ⟨m, rfl⟩ : ∃ q, m = q + 1 := ⟨m - 1, by omega⟩
      have e1 := (N_h hs).2.1
      rw [(RY_b y).2.2.2.2.2.2.2.1] at e1
      have hi2 : i < mH σ := by omega
      have hc := cnt_le (wth σ k d) i 0
      have ce : cnt (wth σ k d) 0 (i + 1) = cnt (wth σ k d) 0 i + (if wth σ k d i then 1 else 0) := by rw [cnt_end, Nat.zero_add]
      obtain ⟨s', q1, q2, q3, q4, q5⟩ := ih (i + 1) m (pI (pI s 1357 0 i (b01 (wth σ k d i))) 12 0 58 (nI (cnt (wth σ k d) 0 (i + 1)))) (by omega) (by omega) (Inv_58 (Inv_1357 hs _ _) _) ((y.I (by omega)).I (by omega)) (by rw [gI_pI, if_pos ⟨rfl, rfl, rfl⟩]) (fun j hj => by
        rw [gI_ne (by decide), gI_pI]
        by_cases e : j = i
        · rw [if_pos ⟨rfl, rfl, e⟩, e]
        · rw [if_neg (fun hh => e hh.2.2)]
          exact hw j (by omega))
      refine ⟨s', ?_, q2, q3, q4, q5⟩
      rw [← q1, f12_findWith_L7, e1, if_neg (zn_nle hi2 (by omega)), m_hasKind (RI_of hs) (by omega) hk, RY_wth y, zc1_s, zix_s (show i < 40 by omega) (by decide), nar01, zlt_s, zix_s (show i < 40 by omega) (by decide), gI_ne (show 12 ≠ 1357 by decide), h58, gI_at, inc01 _ _ (by omega), zlt_s, nI_suc i (by omega), zlt_s, ce]
  rw [zlt_s]
  exact key (mH σ) 0 zfuel (pI s0 12 0 58 0) (by omega) (zfuel_pos (by omega)) (Inv_58 h _) (y0.I (by omega)) (by rw [gI_pI, if_pos ⟨rfl, rfl, rfl⟩]; rfl) (fun j hj => by omega)
/-- a HOME of a GROUP -/
def grp (σ : zSt) (k : Nat) (g : Int32) (i : Nat) : Bool := if zop_idiv g 10 = 0 then decide (gI σ 1301 0 i = zop_irem g 10) else if zop_idiv g 10 = 1 then decide (gI σ 1309 0 (10 * i + nT (gI σ 1314 0 k)) = zop_irem g 10) else if zop_idiv g 10 = 2 then decide (gI σ 1304 0 i = zop_irem g 10) else !decide (gI σ 12 0 41 ≤ gI σ 1303 0 i)
theorem RY_grp {s σ : zSt} (x : RY s σ) : grp s = grp σ := by
  funext k g i
  unfold grp
  rw [x.1 1301 (by omega) (by omega), x.1 1309 (by omega) (by omega), x.1 1314 (by omega) (by omega), x.1 1304 (by omega) (by omega), x.1 1303 (by omega) (by omega), x.2 41 (by omega)]
theorem ite_01 {P : Prop} [Decidable P] : (if P then some (1 : Int32) else some 0) = some (b01 (decide P)) := by
  by_cases h : P
  · rw [if_pos h, decide_eq_true h]; rfl
  · rw [if_neg h, decide_eq_false h]; rfl
theorem ite_10 {P : Prop} [Decidable P] : (if P then some (0 : Int32) else some 1) = some (b01 (!decide P)) := by
  by_cases h : P
  · rw [if_pos h, decide_eq_true h]; rfl
  · rw [if_neg h, decide_eq_false h]; rfl
theorem e_isOf {σ : zSt} (h : Inv σ) {i k : Nat} (hi : i < mH σ) (hk : k < mK σ) (g : Int32) : f11_isOfGroup i k g σ = some (b01 (grp σ k g i)) := by
  have a := A_H h hi
  have b := A_K h hk
  obtain ⟨t1, t2⟩ := b.2.2.2.2.1
  have e8 : gI σ 11 0 8 = gI σ 12 0 41 := h.2.2.1.2.2.2.2.2.2.2.2.2.2.2.2.2.1
  have et : gI σ 7 k 0 = nI (nT (gI σ 1314 0 k)) := by rw [b.2.1]; exact i_ofNat t1
  have et2 : nT (gI σ 1314 0 k) < 10 := by unfold nT; omega
  unfold f11_isOfGroup grp
  rw [zlt_s, zlt_s, et, e_crewOf et2, zc1_s, a.2.1, a.2.2.2.1, a.2.2.2.2.1, e8, (a.2.2.2.2.2.2.2.2.2.2.2.2.2.2.2.2.2.2 _ et2).1]
  by_cases c0 : zop_idiv g 10 = 0
  · rw [if_pos c0, if_pos c0, ite_01]
  · rw [if_neg c0, if_neg c0]
    by_cases c1 : zop_idiv g 10 = 1
    · rw [if_pos c1, if_pos c1, ite_01]
    · rw [if_neg c1, if_neg c1]
      by_cases c2 : zop_idiv g 10 = 2
      · rw [if_pos c2, if_pos c2, ite_01]
      · rw [if_neg c2, if_neg c2, ite_10]
theorem m_isIn {σ : zSt} (h : RI σ) {i k : Nat} (hi : i < 40) (hk : k < mK σ) (g : Int32) : f12_isIn (nI i) g (nI k) σ = some (b01 (grp σ k g i)) := by
  obtain ⟨t1, t2⟩ := (h.2.2.2.2.2.2 k hk).1
  have hk20 : k < 20 := Nat.lt_of_lt_of_le hk h.2.1.2
  have et : gI σ 1314 0 k = nI (nT (gI σ 1314 0 k)) := i_ofNat t1
  have et2 : nT (gI σ 1314 0 k) < 10 := by unfold nT; omega
  unfold f12_isIn grp
  rw [zlt_s, zix_s hi (by decide), zix_s hk20 (by decide), zix_s hi (by decide), zix_s hi (by decide)]
  have z4 : ∀ q : Nat → Option Int32, zix (10 * nI i + gI σ 1314 0 k) 400 q = q (10 * i + nT (gI σ 1314 0 k)) := fun q => by
    rw [et, nI_row10 i _ (by omega), zix_s (by omega) (by decide), ← et]
  rw [z4]
  by_cases c0 : zop_idiv g 10 = 0
  · rw [if_pos c0, if_pos c0, ite_01]
  · rw [if_neg c0, if_neg c0]
    by_cases c1 : zop_idiv g 10 = 1
    · rw [if_pos c1, if_pos c1, ite_01]
    · rw [if_neg c1, if_neg c1]
      by_cases c2 : zop_idiv g 10 = 2
      · rw [if_pos c2, if_pos c2, ite_01]
      · rw [if_neg c2, if_neg c2, ite_10]
