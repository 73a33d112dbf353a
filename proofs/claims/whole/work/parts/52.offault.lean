theorem zfirst_at {a : Nat} : ∀ d i, i ≤ a → a < i + d → zfirst (fun k => k == a) i d = some a
  | 0, i, h1, h2 => by omega
  | d + 1, i, h1, h2 => by
    unfold zfirst
    by_cases e : i = a
    · rw [if_pos (by simpa using e), e]
    · rw [if_neg (by simpa using e)]
      exact zfirst_at d (i + 1) (by omega) (by omega)
theorem e_homeNumber {σ : zSt} (h : Inv σ) {i : Nat} (hi : i < mH σ) : f11_homeNumber i σ = some (nI i) := by
  obtain ⟨n1, n2, n3⟩ := N_h h
  unfold f11_homeNumber
  rw [lfirst (f11_homeNumber_L2 i σ) (some (-1)) (fun k => k == i) (fun k => some (nI k)) (mH σ) (by omega) (fun n j hj => ?_) (fun n => ?_) (zfuel_pos (by omega)), zfirst_at (mH σ) 0 (by omega) (by omega)]
  · rw [f11_homeNumber_L2, n1, if_neg (zn_nle hj (by omega)), zix_s (show j < 40 by omega) (by decide), zlt_s, (A_H h hj).1, zlt_s]
    by_cases e : j = i
    · rw [e, if_pos rfl, if_pos (by simp)]
    · rw [if_neg (by simpa using e), if_neg (by simpa using e)]
  · rw [f11_homeNumber_L2, n1, if_pos (zn_rle _)]
theorem F_L {σ : zSt} (h : Inv σ) {f : Nat} (hf : f < mF σ) : gI σ 1334 0 f = kS (sT σ f) (sC σ f) (-1) (sz σ f) ∧ gI σ 1335 0 f = kF (sT σ f) (sC σ f) (-1) (sz σ f - 1) := by
  rw [mF_e h] at hf
  exact h.2.2.2.2.2.2.2.1.1 f hf
theorem e_lcr {σ : zSt} (h : Inv σ) {f : Nat} (hf : f < mF σ) : f1_lastCrew f σ = some (lcr σ f) := e_lastCrew (N_q h).2 (A_F h hf).2.1 (F_RF (RI_of h) hf).2.2.2.2.2.2.1.1
theorem t_ofFault {σ : zSt} (h : Inv σ) (v1 v2 : Int32) : Ok1 (f11_ofFault v1 v2 σ) (f12_ofFault v1 v2 σ) := by
  have hr := RI_of h
  rcases zcase v1 (mF σ) (by have := hr.2.2.1.2; omega) with ⟨f, hf, rfl, hv⟩ | hv
  · have hl := F_lt hr hf
    obtain ⟨r1, r2, r3, r4⟩ := F_R h hf
    obtain ⟨i1, i2, i3, i4, i5, i6, i7, i8, i9⟩ := F_I h hf
    obtain ⟨l1, l2⟩ := F_L h hf
    obtain ⟨m1, m2, m3⟩ := F_hm hr hf
    have q1 := (N_q h).1
    have hS := (A_F h hf).2.1
    obtain ⟨r, hr0⟩ : ∃ r, f12_ofFault (nI f) v2 σ = some r ∧ f11_ofFault (nI f) v2 σ = some r := by
      unfold f11_ofFault f12_ofFault
      rw [e_fAt h hf, zc1_s, zoc_s, m_isF hr, zc1_s, if_neg (by rw [t01]; omega)]
      simp only [zix_s hl (show 200 < 2 ^ 31 by decide), r3, zlt_s, zoc_s, e_homeNumber h m2, e_price h hf, m_priceOf hr hf, e_promiseOn, m_promiseNow hl, q1, zpr_same (A_F h hf).1, e_timesSaid _ hS, e_timesFalse _ hS, e_lcr h hf, m_lastCrew hl (F_RS hr hf), zc1_s, i1, i2, i3, i4, i5, i6, i7, i8, i9, l1, l2, m1]
      by_cases e0 : v2 = 0
      · simp only [if_pos e0]
        first | exact ⟨_, rfl, rfl⟩ | (simp only [ite_some]; exact ⟨_, rfl, rfl⟩)
      simp only [if_neg e0]
      by_cases e1 : v2 = 1
      · simp only [if_pos e1]
        first | exact ⟨_, rfl, rfl⟩ | (simp only [ite_some]; exact ⟨_, rfl, rfl⟩)
      simp only [if_neg e1]
      by_cases e2 : v2 = 2
      · simp only [if_pos e2]
        first | exact ⟨_, rfl, rfl⟩ | (simp only [ite_some]; exact ⟨_, rfl, rfl⟩)
      simp only [if_neg e2]
      by_cases e3 : v2 = 3
      · simp only [if_pos e3]
        first | exact ⟨_, rfl, rfl⟩ | (simp only [ite_some]; exact ⟨_, rfl, rfl⟩)
      simp only [if_neg e3]
      by_cases e4 : v2 = 4
      · simp only [if_pos e4]
        first | exact ⟨_, rfl, rfl⟩ | (simp only [ite_some]; exact ⟨_, rfl, rfl⟩)
      simp only [if_neg e4]
      by_cases e5 : v2 = 5
      · simp only [if_pos e5]
        first | exact ⟨_, rfl, rfl⟩ | (simp only [ite_some]; exact ⟨_, rfl, rfl⟩)
      simp only [if_neg e5]
      by_cases e6 : v2 = 6
      · simp only [if_pos e6]
        first | exact ⟨_, rfl, rfl⟩ | (simp only [ite_some]; exact ⟨_, rfl, rfl⟩)
      simp only [if_neg e6]
      by_cases e7 : v2 = 7
      · simp only [if_pos e7]
        first | exact ⟨_, rfl, rfl⟩ | (simp only [ite_some]; exact ⟨_, rfl, rfl⟩)
      simp only [if_neg e7]
      by_cases e8 : v2 = 8
      · simp only [if_pos e8]
        first | exact ⟨_, rfl, rfl⟩ | (simp only [ite_some]; exact ⟨_, rfl, rfl⟩)
      simp only [if_neg e8]
      by_cases e9 : v2 = 9
      · simp only [if_pos e9]
        first | exact ⟨_, rfl, rfl⟩ | (simp only [ite_some]; exact ⟨_, rfl, rfl⟩)
      simp only [if_neg e9]
      by_cases e10 : v2 = 10
      · simp only [if_pos e10]
        first | exact ⟨_, rfl, rfl⟩ | (simp only [ite_some]; exact ⟨_, rfl, rfl⟩)
      simp only [if_neg e10]
      by_cases e11 : v2 = 11
      · simp only [if_pos e11]
        first | exact ⟨_, rfl, rfl⟩ | (simp only [ite_some]; exact ⟨_, rfl, rfl⟩)
      simp only [if_neg e11]
      by_cases e12 : v2 = 12
      · simp only [if_pos e12]
        first | exact ⟨_, rfl, rfl⟩ | (simp only [ite_some]; exact ⟨_, rfl, rfl⟩)
      simp only [if_neg e12]
      by_cases e13 : v2 = 13
      · simp only [if_pos e13]
        first | exact ⟨_, rfl, rfl⟩ | (simp only [ite_some]; exact ⟨_, rfl, rfl⟩)
      simp only [if_neg e13]
      exact ⟨_, rfl, rfl⟩
    exact ⟨r, hr0.2, hr0.1⟩
  · refine ⟨-1, ?_, ?_⟩
    · unfold f11_ofFault
      rw [e_fAt_o h hv, zc1_s, zoc_n]
    · unfold f12_ofFault
      rw [m_isF hr, zc1_s, if_pos (by rw [t01]; exact hv)]
