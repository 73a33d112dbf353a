theorem e_isDay' (a : Int32) (σ : zSt) : f11_isIn a 10000 σ = some (if 0 ≤ a.toInt ∧ a.toInt < 10000 then 1 else 0) := by
  rw [e_isIn]
  simp only [Int32.reduceToInt]
theorem t_read {σ : zSt} (h : Inv σ) (v1 v2 : Int32) : Ok2 (f11_read v1 v2 σ) (f12_read v1 v2) := by
  have h' := h
  have hr := RI_of h
  have hN := hr.2.2.1.2
  obtain ⟨q1, q2⟩ := N_q h
  rcases zcase v1 (mF σ) (by omega) with ⟨f, hf, rfl, hv⟩ | hv
  · have hl := F_lt hr hf
    obtain ⟨g1, g2, g3, g4, g5⟩ := F_RG hr hf
    rcases gof_of h hf with ⟨e, g, H⟩ | ⟨e, hg, h0⟩
    · by_cases hw : 0 ≤ v2.toInt ∧ v2.toInt < 10000
      · have mw : f12_within v2 0 9999 σ = some 1 := by
          rw [e_within, if_pos (by simp only [Int32.reduceToInt]; omega)]
        obtain ⟨n, hn⟩ : ∃ n, n = rdn σ f := ⟨_, rfl⟩
        have H2 : gI σ 3 g 2 = nI n := by rw [hn]; exact H.2.1
        rw [← hn] at g1 g2 g3 g4
        by_cases hs : 0 < n ∧ rD σ f (n - 1) = qday σ
        · have cl : f3_lastDay g σ = some (qday σ) := by
            unfold f3_lastDay
            rw [H2, if_neg (show ¬ nI n = 0 by show ¬ nI n = nI 0; rw [nI_inj (by omega) (by omega)]; omega), sub1' n (by omega), zix_s (show n - 1 < 12 by omega) (by decide), (H.2.2 (n - 1) (by omega)).1, hs.2]
          refine Ok2.same h' (r := -3) ?_ ?_
          · unfold f11_read
            rw [e_fAt h hf, zc1_s, zoc_s, H.1, zlt_s, zoc_s, e_isDay', zc1_s, if_neg (by rw [t01]; omega), zlt_s, zoc_s, cl, zc1_s, q1, if_pos rfl]
          · unfold f12_read
            rw [m_isF hr, zc1_s, if_neg (by rw [t01]; omega), m_hasFlag hr hf, zc1_s, e, if_neg (by decide), mw, zc1_s, if_neg (by decide), zix_s hl (by decide), zlt_s, g1, if_neg (show ¬ nI n ≤ 0 by rw [i_le, nI_ti (by omega)]; simp only [Int32.reduceToInt]; omega), zix_s hl (by decide), g1, nI_row12 f n (by omega), sub1' (12 * f + n) (by omega), zix_s (show 12 * f + n - 1 < 2400 by omega) (by decide), show 12 * f + n - 1 = 12 * f + (n - 1) by omega, if_pos (show gI σ 1342 0 (12 * f + (n - 1)) = gI σ 12 0 0 from hs.2)]
        · have cl : ∃ x, f3_lastDay g σ = some x ∧ ¬ x = qday σ := by
            unfold f3_lastDay
            rw [H2]
            by_cases n0 : n = 0
            · refine ⟨-1, by rw [n0, if_pos (show nI 0 = 0 from rfl)], fun e => ?_⟩
              unfold btw at q2
              rw [i_eq, ti_m1] at e
              omega
            · refine ⟨rD σ f (n - 1), ?_, fun e => hs ⟨by omega, e⟩⟩
              rw [if_neg (show ¬ nI n = 0 by show ¬ nI n = nI 0; rw [nI_inj (by omega) (by omega)]; omega), sub1' n (by omega), zix_s (show n - 1 < 12 by omega) (by decide), (H.2.2 (n - 1) (by omega)).1]
          obtain ⟨x, x1, x2⟩ := cl
          have mj : ∀ (s : zSt) (j : Option (Int32 × zSt)), RY s σ → (if gI s 1344 0 f ≤ 0 then j else zix (nI f) 200 fun m18 => zix (((12 * nI f) + (gI s 1344 0 m18)) - 1) 2400 fun m19 => if gI s 1342 0 m19 = gI s 12 0 0 then (some ((-3), s)) else j) = j := fun s j y => by
            rw [y.1 1344 (by omega) (by omega), y.1 1342 (by omega) (by omega), y.2 0 (by omega), g1]
            by_cases n0 : n = 0
            · rw [if_pos (show nI n ≤ 0 by rw [n0]; decide)]
            · rw [if_neg (show ¬ nI n ≤ 0 by rw [i_le, nI_ti (by omega)]; simp only [Int32.reduceToInt]; omega), zix_s hl (by decide), g1, nI_row12 f n (by omega), sub1' (12 * f + n) (by omega), zix_s (show 12 * f + n - 1 < 2400 by omega) (by decide), show 12 * f + n - 1 = 12 * f + (n - 1) by omega, if_neg (show ¬ gI σ 1342 0 (12 * f + (n - 1)) = gI σ 12 0 0 from fun e => hs ⟨by omega, e⟩)]
          by_cases h12 : n = 12
          · refine Ok2.same h' (r := -2) ?_ ?_
            · unfold f11_read f3_add
              rw [e_fAt h hf, zc1_s, zoc_s, H.1, zlt_s, zoc_s, e_isDay', zc1_s, if_neg (by rw [t01]; omega), zlt_s, zoc_s, x1, zc1_s, q1, if_neg x2, zlt_s, zoc_s, H2, h12, if_neg (show ¬ nI 12 < 12 by decide), zc2_s, if_pos rfl]
            · unfold f12_read
              rw [m_isF hr, zc1_s, if_neg (by rw [t01]; omega), m_hasFlag hr hf, zc1_s, e, if_neg (by decide), mw, zc1_s, if_neg (by decide), zix_s hl (by decide), zlt_s, mj σ _ RY.rf, zix_s hl (by decide), g1, h12, if_pos (show nI 12 = 12 from rfl)]
          · have hlt : n < 12 := by omega
            obtain ⟨S1, hS1⟩ : ∃ S1, S1 = pI (pI (pI σ 400 g n (qday σ)) 401 g n v2) 3 g 2 (nI (n + 1)) := ⟨_, rfl⟩
            have y1 : RY S1 σ := by
              rw [hS1]
              exact ((RY.rf.I (by omega)).I (by omega)).I (by omega)
            have qN : RI S1 := RI_Y y1 hr
            have qm : mF S1 = mF σ := (RY_b y1).2.2.2.2.2.2.1
            have qfl : flg S1 f 2 = flg σ f 2 := by
              unfold flg
              rw [(RY_b y1).2.2.2.2.2.1, y1.1 1316 (by omega) (by omega)]
            have e1 : gI S1 1344 0 f = nI n := by rw [y1.1 1344 (by omega) (by omega)]; exact g1
            refine ⟨nI (n + 1), S1, pI (pI (pI S1 1342 0 (12 * f + n) (qday σ)) 1343 0 (12 * f + n) v2) 1344 0 f (nI (n + 1)), ?_, by rw [hS1]; exact h.1, ?_, ?_⟩
            · have hg8 : gR S1 1 f 8 = some g := by rw [hS1]; exact H.1
              have hg2 : gI S1 3 g 2 = nI (n + 1) := by rw [hS1, gI_pI, if_pos ⟨rfl, rfl, rfl⟩]
              have ca : f3_add g (qday σ) v2 σ = some (1, S1) := by
                unfold f3_add
                rw [H2, if_pos (show nI n < 12 from nI_lt hlt (by decide)), zix_s hlt (by decide), zlt_s, gI_ne (show 3 ≠ 400 by decide), H2, zix_s hlt (by decide), zlt_s, gI_ne (show 3 ≠ 401 by decide), gI_ne (show 3 ≠ 400 by decide), H2, nI_suc n (by omega), zlt_s, hS1]
              unfold f11_read
              rw [e_fAt h hf, zc1_s, zoc_s, H.1, zlt_s, zoc_s, e_isDay', zc1_s, if_neg (by rw [t01]; omega), zlt_s, zoc_s, x1, zc1_s, q1, if_neg x2, zlt_s, zoc_s, ca, zc2_s]
              dsimp only
              rw [if_neg (by decide), hg8, zlt_s, zoc_s, hg2]
            · have mw1 : f12_within v2 0 9999 S1 = some 1 := by
                rw [e_within, if_pos (by simp only [Int32.reduceToInt]; omega)]
              have e2 : ∀ a, gI (pI S1 1342 0 (12 * f + n) a) 1344 0 f = nI n := fun a => e1
              have e3 : ∀ a b, gI (pI (pI S1 1342 0 (12 * f + n) a) 1343 0 (12 * f + n) b) 1344 0 f = nI n := fun a b => e1
              unfold f12_read
              rw [m_isF qN, qm, zc1_s, if_neg (by rw [t01]; omega), m_hasFlag qN (by rw [qm]; exact hf), qfl, zc1_s, e, if_neg (by decide), mw1, zc1_s, if_neg (by decide), zix_s hl (by decide), zlt_s, mj S1 _ y1, zix_s hl (by decide), e1, if_neg (show ¬ nI n = 12 by show ¬ nI n = nI 12; rw [nI_inj (by omega) (by decide)]; exact h12), zix_s hl (by decide), e1, nI_row12 f n (by omega), zix_s (show 12 * f + n < 2400 by omega) (by decide), y1.2 0 (by omega), zlt_s, zix_s hl (by decide), e2, nI_row12 f n (by omega), zix_s (show 12 * f + n < 2400 by omega) (by decide), zlt_s, zix_s hl (by decide), zix_s hl (by decide), e3, nI_suc n (by omega), zlt_s, zix_s hl (by decide), gI_pI, if_pos ⟨rfl, rfl, rfl⟩]
              rfl
            · have hfg : f < gN σ 1 := by rw [← mF_e h]; exact hf
              obtain ⟨hO, hC, hN, hH, hK, hF, hS, hL, hG, hD, hT, hX, hZ⟩ := h
              subst hS1
              refine ⟨hO, (by repeat (first | assumption | refine fr_vC_I rfl ?_ | refine fr_vN_I rfl ?_ | refine fr_vH_I rfl ?_ | refine fr_vK_I rfl ?_ | refine fr_vF_I rfl ?_ | refine fr_vS_I rfl ?_ | refine fr_vL_I rfl ?_ | refine fr_vG_I rfl ?_ | refine fr_vD_I rfl ?_ | refine fr_vT_I rfl ?_ | refine fr_vX_I rfl ?_ | refine fr_vZ_I rfl ?_)), (by repeat (first | assumption | refine fr_vC_I rfl ?_ | refine fr_vN_I rfl ?_ | refine fr_vH_I rfl ?_ | refine fr_vK_I rfl ?_ | refine fr_vF_I rfl ?_ | refine fr_vS_I rfl ?_ | refine fr_vL_I rfl ?_ | refine fr_vG_I rfl ?_ | refine fr_vD_I rfl ?_ | refine fr_vT_I rfl ?_ | refine fr_vX_I rfl ?_ | refine fr_vZ_I rfl ?_)), (by repeat (first | assumption | refine fr_vC_I rfl ?_ | refine fr_vN_I rfl ?_ | refine fr_vH_I rfl ?_ | refine fr_vK_I rfl ?_ | refine fr_vF_I rfl ?_ | refine fr_vS_I rfl ?_ | refine fr_vL_I rfl ?_ | refine fr_vG_I rfl ?_ | refine fr_vD_I rfl ?_ | refine fr_vT_I rfl ?_ | refine fr_vX_I rfl ?_ | refine fr_vZ_I rfl ?_)), (by repeat (first | assumption | refine fr_vC_I rfl ?_ | refine fr_vN_I rfl ?_ | refine fr_vH_I rfl ?_ | refine fr_vK_I rfl ?_ | refine fr_vF_I rfl ?_ | refine fr_vS_I rfl ?_ | refine fr_vL_I rfl ?_ | refine fr_vG_I rfl ?_ | refine fr_vD_I rfl ?_ | refine fr_vT_I rfl ?_ | refine fr_vX_I rfl ?_ | refine fr_vZ_I rfl ?_)), (by repeat (first | assumption | refine fr_vC_I rfl ?_ | refine fr_vN_I rfl ?_ | refine fr_vH_I rfl ?_ | refine fr_vK_I rfl ?_ | refine fr_vF_I rfl ?_ | refine fr_vS_I rfl ?_ | refine fr_vL_I rfl ?_ | refine fr_vG_I rfl ?_ | refine fr_vD_I rfl ?_ | refine fr_vT_I rfl ?_ | refine fr_vX_I rfl ?_ | refine fr_vZ_I rfl ?_)), (by repeat (first | assumption | refine fr_vC_I rfl ?_ | refine fr_vN_I rfl ?_ | refine fr_vH_I rfl ?_ | refine fr_vK_I rfl ?_ | refine fr_vF_I rfl ?_ | refine fr_vS_I rfl ?_ | refine fr_vL_I rfl ?_ | refine fr_vG_I rfl ?_ | refine fr_vD_I rfl ?_ | refine fr_vT_I rfl ?_ | refine fr_vX_I rfl ?_ | refine fr_vZ_I rfl ?_)), (by repeat (first | assumption | refine fr_vC_I rfl ?_ | refine fr_vN_I rfl ?_ | refine fr_vH_I rfl ?_ | refine fr_vK_I rfl ?_ | refine fr_vF_I rfl ?_ | refine fr_vS_I rfl ?_ | refine fr_vL_I rfl ?_ | refine fr_vG_I rfl ?_ | refine fr_vD_I rfl ?_ | refine fr_vT_I rfl ?_ | refine fr_vX_I rfl ?_ | refine fr_vZ_I rfl ?_)), ?_, (by repeat (first | assumption | refine fr_vC_I rfl ?_ | refine fr_vN_I rfl ?_ | refine fr_vH_I rfl ?_ | refine fr_vK_I rfl ?_ | refine fr_vF_I rfl ?_ | refine fr_vS_I rfl ?_ | refine fr_vL_I rfl ?_ | refine fr_vG_I rfl ?_ | refine fr_vD_I rfl ?_ | refine fr_vT_I rfl ?_ | refine fr_vX_I rfl ?_ | refine fr_vZ_I rfl ?_)), (by repeat (first | assumption | refine fr_vC_I rfl ?_ | refine fr_vN_I rfl ?_ | refine fr_vH_I rfl ?_ | refine fr_vK_I rfl ?_ | refine fr_vF_I rfl ?_ | refine fr_vS_I rfl ?_ | refine fr_vL_I rfl ?_ | refine fr_vG_I rfl ?_ | refine fr_vD_I rfl ?_ | refine fr_vT_I rfl ?_ | refine fr_vX_I rfl ?_ | refine fr_vZ_I rfl ?_)), (by repeat (first | assumption | refine fr_vC_I rfl ?_ | refine fr_vN_I rfl ?_ | refine fr_vH_I rfl ?_ | refine fr_vK_I rfl ?_ | refine fr_vF_I rfl ?_ | refine fr_vS_I rfl ?_ | refine fr_vL_I rfl ?_ | refine fr_vG_I rfl ?_ | refine fr_vD_I rfl ?_ | refine fr_vT_I rfl ?_ | refine fr_vX_I rfl ?_ | refine fr_vZ_I rfl ?_)), ?_⟩
              · obtain ⟨G1, G2⟩ := hG
                refine ⟨fun k hk => ?_, G2⟩
                have hk' : k < gN σ 1 := hk
                obtain ⟨a1, a2, a3, a4, a5⟩ := G1 k hk'
                have evD : ∀ j, j < 12 → rD (pI (pI (pI (pI (pI (pI σ 400 g n (qday σ)) 401 g n v2) 3 g 2 (nI (n + 1))) 1342 0 (12 * f + n) (qday σ)) 1343 0 (12 * f + n) v2) 1344 0 f (nI (n + 1))) k j = if k = f ∧ j = n then qday σ else rD σ k j := fun j hj => by
                  unfold rD
                  by_cases c : k = f ∧ j = n
                  · rw [if_pos c, c.1, c.2]; simp [gI_pI]
                  · have : ¬ 12 * k + j = 12 * f + n := by omega
                    rw [if_neg c]; simp [gI_pI, this]
                have evW : ∀ j, j < 12 → rW (pI (pI (pI (pI (pI (pI σ 400 g n (qday σ)) 401 g n v2) 3 g 2 (nI (n + 1))) 1342 0 (12 * f + n) (qday σ)) 1343 0 (12 * f + n) v2) 1344 0 f (nI (n + 1))) k j = if k = f ∧ j = n then v2 else rW σ k j := fun j hj => by
                  unfold rW
                  by_cases c : k = f ∧ j = n
                  · rw [if_pos c, c.1, c.2]; simp [gI_pI]
                  · have : ¬ 12 * k + j = 12 * f + n := by omega
                    rw [if_neg c]; simp [gI_pI, this]
                have evN : gI (pI (pI (pI (pI (pI (pI σ 400 g n (qday σ)) 401 g n v2) 3 g 2 (nI (n + 1))) 1342 0 (12 * f + n) (qday σ)) 1343 0 (12 * f + n) v2) 1344 0 f (nI (n + 1))) 1344 0 k = if k = f then nI (n + 1) else gI σ 1344 0 k := by simp [gI_pI]
                have ev3 : ∀ i, gI (pI (pI (pI (pI (pI (pI σ 400 g n (qday σ)) 401 g n v2) 3 g 2 (nI (n + 1))) 1342 0 (12 * f + n) (qday σ)) 1343 0 (12 * f + n) v2) 1344 0 f (nI (n + 1))) 3 i 2 = if i = g then nI (n + 1) else gI σ 3 i 2 := fun i => by simp [gI_pI]
                have ev400 : ∀ i j, gI (pI (pI (pI (pI (pI (pI σ 400 g n (qday σ)) 401 g n v2) 3 g 2 (nI (n + 1))) 1342 0 (12 * f + n) (qday σ)) 1343 0 (12 * f + n) v2) 1344 0 f (nI (n + 1))) 400 i j = if i = g ∧ j = n then qday σ else gI σ 400 i j := fun i j => by simp [gI_pI]
                have ev401 : ∀ i j, gI (pI (pI (pI (pI (pI (pI σ 400 g n (qday σ)) 401 g n v2) 3 g 2 (nI (n + 1))) 1342 0 (12 * f + n) (qday σ)) 1343 0 (12 * f + n) v2) 1344 0 f (nI (n + 1))) 401 i j = if i = g ∧ j = n then v2 else gI σ 401 i j := fun i j => by simp [gI_pI]
                have evq : qday (pI (pI (pI (pI (pI (pI σ 400 g n (qday σ)) 401 g n v2) 3 g 2 (nI (n + 1))) 1342 0 (12 * f + n) (qday σ)) 1343 0 (12 * f + n) v2) 1344 0 f (nI (n + 1))) = qday σ := rfl
                have evi : isCr (pI (pI (pI (pI (pI (pI σ 400 g n (qday σ)) 401 g n v2) 3 g 2 (nI (n + 1))) 1342 0 (12 * f + n) (qday σ)) 1343 0 (12 * f + n) v2) 1344 0 f (nI (n + 1))) k = isCr σ k := rfl
                have ev8 : ∀ i, gR (pI (pI (pI (pI (pI (pI σ 400 g n (qday σ)) 401 g n v2) 3 g 2 (nI (n + 1))) 1342 0 (12 * f + n) (qday σ)) 1343 0 (12 * f + n) v2) 1344 0 f (nI (n + 1))) 1 i 8 = gR σ 1 i 8 := fun i => rfl
                have ev3N : gN (pI (pI (pI (pI (pI (pI σ 400 g n (qday σ)) 401 g n v2) 3 g 2 (nI (n + 1))) 1342 0 (12 * f + n) (qday σ)) 1343 0 (12 * f + n) v2) 1344 0 f (nI (n + 1))) 3 = gN σ 3 := rfl
                generalize pI (pI (pI (pI (pI (pI σ 400 g n (qday σ)) 401 g n v2) 3 g 2 (nI (n + 1))) 1342 0 (12 * f + n) (qday σ)) 1343 0 (12 * f + n) v2) 1344 0 f (nI (n + 1)) = S at *
                by_cases ek : k = f
                · subst ek
                  have rS : rdn S k = n + 1 := by
                    unfold rdn nT
                    rw [evN, if_pos rfl, nI_ti (by omega)]
                    omega
                  unfold vG1
                  rw [rS, evN, if_pos rfl, evi, evq]
                  refine ⟨rfl, by omega, fun j hj => ?_, fun i j hij hj => ?_, ?_⟩
                  · rw [evD j (by omega), evW j (by omega)]
                    by_cases c : j = n
                    · rw [if_pos ⟨rfl, c⟩, if_pos ⟨rfl, c⟩]
                      unfold btw at q2 ⊢
                      omega
                    · rw [if_neg (fun hh => c hh.2), if_neg (fun hh => c hh.2)]
                      exact g3 j (by omega)
                  · rw [evD j (by omega), evD i (by omega), if_neg (show ¬ (k = k ∧ i = n) by omega)]
                    by_cases c : j = n
                    · rw [if_pos ⟨rfl, c⟩]
                      have b1 := (g3 (n - 1) (by omega)).2.2
                      have b2 : ¬ (rD σ k (n - 1)).toInt = (qday σ).toInt := fun e => hs ⟨by omega, by rw [i_eq]; exact e⟩
                      by_cases c2 : i = n - 1
                      · rw [c2]; omega
                      · have := g4 i (n - 1) (by omega) (by omega)
                        omega
                    · rw [if_neg (fun hh => c hh.2)]
                      exact g4 i j hij (by omega)
                  · rcases a5 with ⟨b1, g', b2, b3, b4, b5⟩ | ⟨b1, b2, b3⟩
                    · refine Or.inl ⟨b1, g, by rw [ev8]; exact H.1, ?_, ?_, fun j hj => ?_⟩
                      · rw [ev3N]
                        have := b2.symm.trans H.1
                        rw [Option.some_inj] at this
                        omega
                      · rw [ev3, if_pos rfl]
                      · rw [ev400, ev401, evD j (by omega), evW j (by omega)]
                        by_cases c : j = n
                        · rw [if_pos ⟨rfl, c⟩, if_pos ⟨rfl, c⟩, if_pos ⟨rfl, c⟩, if_pos ⟨rfl, c⟩]
                          exact ⟨rfl, rfl⟩
                        · rw [if_neg (fun hh => c hh.2), if_neg (fun hh => c hh.2), if_neg (fun hh => c hh.2), if_neg (fun hh => c hh.2)]
                          exact H.2.2 j (by omega)
                    · exact absurd (b2.symm.trans H.1) (by simp)
                · have rS : rdn S k = rdn σ k := by
                    unfold rdn
                    rw [evN, if_neg ek]
                  unfold vG1
                  rw [rS, evN, if_neg ek, evi, evq]
                  refine ⟨a1, a2, fun j hj => ?_, fun i j hij hj => ?_, ?_⟩
                  · rw [evD j (by omega), evW j (by omega), if_neg (fun hh => ek hh.1), if_neg (fun hh => ek hh.1)]
                    exact a3 j hj
                  · rw [evD j (by omega), evD i (by omega), if_neg (fun hh => ek hh.1), if_neg (fun hh => ek hh.1)]
                    exact a4 i j hij hj
                  · rcases a5 with ⟨b1, g', b2, b3, b4, b5⟩ | ⟨b1, b2, b3⟩
                    · have gg : ¬ g' = g := fun e => ek (G2 k f g hk' hfg (by rw [← e]; exact b2) H.1)
                      refine Or.inl ⟨b1, g', by rw [ev8]; exact b2, by rw [ev3N]; exact b3, by rw [ev3, if_neg gg]; exact b4, fun j hj => ?_⟩
                      rw [ev400, ev401, evD j (by omega), evW j (by omega), if_neg (fun hh => gg hh.1), if_neg (fun hh => ek hh.1), if_neg (fun hh => gg hh.1), if_neg (fun hh => ek hh.1)]
                      exact b5 j hj
                    · exact Or.inr ⟨b1, by rw [ev8]; exact b2, b3⟩
              · refine vZ_F (by decide) hfg ?_
                repeat (first | assumption | refine fr_vZ_I rfl ?_)
      · refine Ok2.same h' (r := -1) ?_ ?_
        · unfold f11_read
          rw [e_fAt h hf, zc1_s, zoc_s, H.1, zlt_s, zoc_s, e_isDay', zc1_s, if_pos (by rw [t01]; exact hw)]
        · unfold f12_read
          rw [m_isF hr, zc1_s, if_neg (by rw [t01]; omega), m_hasFlag hr hf, zc1_s, e, if_neg (by decide), e_within, zc1_s, if_pos (by rw [t01]; simp only [Int32.reduceToInt]; omega)]
    · refine Ok2.same h' (r := -1) ?_ ?_
      · unfold f11_read
        rw [e_fAt h hf, zc1_s, zoc_s, hg, zlt_s, zoc_n]
      · unfold f12_read
        rw [m_isF hr, zc1_s, if_neg (by rw [t01]; omega), m_hasFlag hr hf, zc1_s, e, if_pos (by rfl)]
  · refine Ok2.same h' (r := -1) ?_ ?_
    · unfold f11_read
      rw [e_fAt_o h hv, zc1_s, zoc_n]
    · unfold f12_read
      rw [m_isF hr, zc1_s, if_pos (by rw [t01]; exact hv)]
