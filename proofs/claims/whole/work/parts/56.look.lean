theorem lcr_last {σ : zSt} {f n : Nat} (hn : sz σ f = n) (h1 : 1 ≤ n) (h : sT σ f (n - 1) = 2) : lcr σ f = sC σ f (n - 1) := by
  unfold lcr
  rw [hn]
  obtain ⟨m, rfl⟩ : ∃ m, n = m + 1 := ⟨n - 1, by omega⟩
  rw [Nat.add_sub_cancel] at h ⊢
  exact if_pos h
theorem t_look {σ : zSt} (h : Inv σ) (v1 v2 : Int32) : Ok2 (f11_look v1 v2 σ) (f12_look v1 v2) := by
  have h' := h
  have hm1 := mF_e h
  obtain ⟨hO, hC, hN, hH, hK, hF, hS, hL, hG, hD, hT, hX, hZ⟩ := h
  have hN' := hN
  obtain ⟨n1, n2, n3, n4, n5, n6, n7, n8, n9, n10, n11, n12⟩ := hN'
  have n10' : gI σ 11 0 6 = gI σ 12 0 0 := n10
  rcases zcase v1 (gN σ 1) (by omega) with ⟨f, hf, rfl, hv⟩ | hv
  · have hR := (hF f hf).1
    obtain ⟨n, hn0⟩ : ∃ n, n = sz σ f := ⟨_, rfl⟩
    obtain ⟨s1, s2, s3, s4, s5, s6, s7, s8, s9⟩ := hS f hf
    rw [← hn0] at s1 s2 s3 s4 s5
    have eo : gI σ 501 f (n - 1) = gI σ 1326 0 (30 * f + (n - 1)) := (s5 (n - 1) (by omega)).2.1
    have hf2 : f < 200 := by omega
    rcases zcase v2 2 (by decide) with ⟨g, hg, rfl, hd⟩ | hd
    · by_cases ho : gI σ 501 f (n - 1) = 2
      · by_cases hfull : n = 30
        · refine Ok2.same h' (r := -2) ?_ ?_
          · unfold f11_look
            rw [e_faultAt n7 n9 hR hf, zc1_s, zoc_s, e_isIn, zc1_s, if_neg (by rw [t01]; simp only [Int32.reduceToInt]; omega), e_now s2 ⟨s3, s4⟩, zc1_s, if_pos ho, e_isFull s2 ⟨s3, s4⟩, zc1_s, if_neg (by rw [t01]; exact fun h => h hfull)]
          · unfold f12_look
            rw [m_isFault (n := gN σ 1) n8 n9, zc1_s, if_neg (by rw [t01]; omega), e_within, zc1_s, if_neg (by rw [t01]; simp only [Int32.reduceToInt]; omega), m_stateNow hf2 s1 ⟨s3, s4⟩, zc1_s, if_pos (by rw [← eo]; exact ho), zix_s (by omega) (by decide), s1, hfull, if_pos (by rfl)]
        · have hlt : n < 30 := by omega
          have hT2 : sT σ f (n - 1) = 2 := by
            show gI σ 1326 0 (30 * f + (n - 1)) = 2
            rw [← eo]; exact ho
          have hcb := (s5 (n - 1) (by omega)).2.2.2.2.1 hT2
          obtain ⟨c, hc⟩ : ∃ c, c = nT (sC σ f (n - 1)) := ⟨_, rfl⟩
          have hc1 : sC σ f (n - 1) = nI c := by rw [hc]; exact i_ofNat hcb.1
          have hc10 : c < 10 := by have := hcb.1; have := hcb.2; rw [hc]; unfold nT; omega
          have hlc : lcr σ f = nI c := by rw [lcr_last hn0.symm s3 hT2, hc1]
          obtain ⟨t, ht⟩ : ∃ t : Int32, t = if nI g = 1 then 3 else 0 := ⟨_, rfl⟩
          obtain ⟨y, hy⟩ : ∃ y : Int32, y = if nI g = 1 then 0 else 1 := ⟨_, rfl⟩
          have hty : (t = 3 ∧ y = 0) ∨ (t = 0 ∧ y = 1) := by
            by_cases e : nI g = 1
            · exact Or.inl ⟨ht.trans (if_pos e), hy.trans (if_pos e)⟩
            · exact Or.inr ⟨ht.trans (if_neg e), hy.trans (if_neg e)⟩
          have cl : gI σ 1217 0 c = gI σ 1337 0 c := (hL.2 c hc10).1
          obtain ⟨S1, hS1⟩ : ∃ S1, S1 = adC (pI σ 1217 0 c (gI σ 1217 0 c + 1)) f n t (gI σ 12 0 0) (-1) := ⟨_, rfl⟩
          have x1 : RX S1 σ := by
            rw [hS1]
            unfold adC
            exact ((((RX.rf.I (by decide)).I (by decide)).I (by decide)).I (by decide)).I (by decide)
          have q1 : gI S1 1329 0 f = nI n := by rw [x1 _ (by omega)]; exact s1
          have q2 : gI S1 1326 0 (30 * f + (n - 1)) = gI σ 1326 0 (30 * f + (n - 1)) := by rw [x1 _ (by omega)]
          have q8 : gI S1 12 0 36 = nI (gN σ 1) := by rw [x1 _ (by omega)]; exact n8
          have hr1 : RI S1 := RI_X x1 (RI_of h')
          have hmF : mF S1 = mF σ := by unfold mF; rw [x1 _ (by omega)]
          have hl1 : lcr S1 f = nI c := by
            rw [← hlc]
            unfold lcr sT sC sz
            rw [x1 1326 (by omega), x1 1328 (by omega), x1 1329 (by omega)]
          refine ⟨1, S1, adM (pI (pI (pI S1 1337 0 c (gI σ 1337 0 c + 1)) 1338 0 c (gI σ 1338 0 c + y)) 1335 0 f (gI σ 1335 0 f + y)) f n t (-1), ?_, by rw [hS1]; exact hO, ?_, ?_⟩
          · have hff : f < mF σ := by rw [hm1]; exact hf
            unfold f11_look
            rw [e_faultAt n7 n9 hR hf, zc1_s, zoc_s, e_isIn, zc1_s, if_neg (by rw [t01]; simp only [Int32.reduceToInt]; omega), e_now s2 ⟨s3, s4⟩, zc1_s, if_pos ho, e_isFull s2 ⟨s3, s4⟩, zc1_s, if_pos (by rw [t01]; exact hfull)]
            rw [e_lcr h' hff, zc1_s, hlc, e_isIn, zc1_s, zlt_s, if_neg (by rw [t01, nI_ti (by omega)]; simp only [Int32.reduceToInt]; omega), zc1_s, zix_s hc10 (by decide), zix_s hc10 (by decide), zlt_s, ← ht]
            dsimp only
            rw [e_add (n := n) (by exact s2) hlt, zc2_s]
            rw [hS1, show gI (pI σ 1217 0 c (gI σ 1217 0 c + 1)) 11 0 6 = gI σ 12 0 0 from n10']
          · have q5 : gI S1 1337 0 c = gI σ 1337 0 c := by rw [x1 _ (by omega)]
            have q6 : ∀ z, gI (pI S1 1337 0 c z) 1338 0 c = gI σ 1338 0 c := fun z => by
              show gI S1 1338 0 c = _
              rw [x1 _ (by omega)]
            have q7 : ∀ z w, gI (pI (pI S1 1337 0 c z) 1338 0 c w) 1335 0 f = gI σ 1335 0 f := fun z w => by
              show gI S1 1335 0 f = _
              rw [x1 _ (by omega)]
            unfold f12_look
            rw [m_isFault (n := gN σ 1) q8 n9, zc1_s, if_neg (by rw [t01]; omega), e_within, zc1_s, if_neg (by rw [t01]; simp only [Int32.reduceToInt]; omega), m_stateNow hf2 q1 ⟨s3, s4⟩, zc1_s, q2, if_pos (by rw [← eo]; exact ho), zix_s hf2 (by decide), q1, if_neg (by show ¬ nI n = nI 30; rw [nI_inj (by omega) (by decide)]; exact hfull)]
            rw [m_lastCrew hf2 (F_RS hr1 (by rw [hmF, hm1]; exact hf)), zc1_s, hl1, zix_s hc10 (by decide), zix_s hc10 (by decide), zlt_s, zix_s hc10 (by decide), zix_s hc10 (by decide), zlt_s, zix_s hf2 (by decide), zix_s hf2 (by decide), zlt_s, q5, ← hy, q6, q7, ← ht]
            rw [m_become hf2 (n := n) (by exact q1) hlt, zc2_s]
          · have ht4 : btw 0 t 4 := by rcases hty with ⟨e, -⟩ | ⟨e, -⟩ <;> rw [e] <;> unfold btw <;> decide
            have ht2 : t ≠ 2 := by rcases hty with ⟨e, -⟩ | ⟨e, -⟩ <;> rw [e] <;> decide
            have ht1 : t ≠ 1 := by rcases hty with ⟨e, -⟩ | ⟨e, -⟩ <;> rw [e] <;> decide
            have hyy : y = if t = 0 then 1 else 0 := by
              rcases hty with ⟨e, e2⟩ | ⟨e, e2⟩ <;> rw [e, e2] <;> decide
            subst hS1
            refine ⟨hO, hC, (by unfold adM adC; repeat (first | assumption | refine fr_vN_I rfl ?_)), (by unfold adM adC; repeat (first | assumption | refine fr_vH_I rfl ?_)), (by unfold adM adC; repeat (first | assumption | refine fr_vK_I rfl ?_)), (by unfold adM adC; repeat (first | assumption | refine fr_vF_I rfl ?_)), ?_, ?_, (by unfold adM adC; repeat (first | assumption | refine fr_vG_I rfl ?_)), (by unfold adM adC; repeat (first | assumption | refine fr_vD_I rfl ?_)), (by unfold adM adC; repeat (first | assumption | refine fr_vT_I rfl ?_)), (by unfold adM adC; repeat (first | assumption | refine fr_vX_I rfl ?_)), ?_⟩
            · exact vS_more (σ := σ) (f := f) (n := n) (t := t) (q := gI σ 12 0 0) (w := -1) rfl hn0.symm hlt (fun g j => by simp [adM, adC, gI_pI]) (fun g j => by simp [adM, adC, gI_pI]) (fun g j => by simp [adM, adC, gI_pI]) (fun g => by simp [adM, adC, gI_pI]) (fun k => by simp [adM, adC, gI_pI]) (fun k => by simp [adM, adC, gI_pI]) (fun k => by simp [adM, adC, gI_pI]) (fun g => by simp [adM, adC, gI_pI]) (fun g e => by simp [adM, adC, gI_pI, e]) rfl rfl rfl ht4 (fun h => absurd h ht2) (fun h => absurd h ht1) hS
            · have hsz : ∀ g, g < gN σ 1 → 1 ≤ sz σ g ∧ sz σ g ≤ 30 := fun g hg => ⟨(hS g hg).2.2.1, (hS g hg).2.2.2.1⟩
              refine vL_any (σ := σ) (f := f) (n := n) (t := t) (w := -1) hf n9 rfl hn0.symm s3 hlt (fun k => by simp [adM, adC, gI_pI]) (fun k => by simp [adM, adC, gI_pI]) (fun g => by simp [adM, adC, gI_pI]) (fun g => ?_) (fun g => ?_) (fun c' hc' => ?_) (fun c' hc' => ?_) (fun c' hc' => ?_) (fun c' hc' => ?_) hsz (fun g hg => ?_) hL
              · rw [if_neg fun h => ht2 h.2, i_add0]
                simp [adM, adC, gI_pI]
              · by_cases e : g = f
                · subst e
                  rw [hyy]
                  by_cases e0 : t = 0
                  · rw [if_pos e0, if_pos ⟨rfl, hT2, e0⟩]; simp [adM, adC, gI_pI]
                  · rw [if_neg e0, if_neg fun h => e0 h.2.2]; simp [adM, adC, gI_pI]
                · rw [if_neg fun h => e h.1]; simp [adM, adC, gI_pI, e]
              · rw [hc1]
                by_cases e : c' = c
                · subst e; rw [if_pos ⟨hT2, rfl⟩]; simp [adM, adC, gI_pI]
                · rw [if_neg fun h => e ((nI_inj (by omega) (by omega)).mp h.2).symm]; simp [adM, adC, gI_pI, e]
              · rw [hc1]
                by_cases e : c' = c
                · subst e; rw [if_pos ⟨hT2, rfl⟩]; simp [adM, adC, gI_pI]
                · rw [if_neg fun h => e ((nI_inj (by omega) (by omega)).mp h.2).symm]; simp [adM, adC, gI_pI, e]
              · rw [hc1]
                by_cases e : c' = c
                · subst e
                  rw [hyy]
                  by_cases e0 : t = 0
                  · rw [if_pos e0, if_pos ⟨⟨hT2, rfl⟩, e0⟩]; simp [adM, adC, gI_pI]
                  · rw [if_neg e0, if_neg fun h => e0 h.2]; simp [adM, adC, gI_pI]
                · rw [if_neg fun h => e ((nI_inj (by omega) (by omega)).mp h.1.2).symm]; simp [adM, adC, gI_pI, e]
              · rw [if_neg fun h => ht2 h.1, i_add0]; simp [adM, adC, gI_pI]
              · have hz1 := hsz g hg
                unfold sz
                have e1 : gI (adM (pI (pI (pI (adC (pI σ 1217 0 c (gI σ 1217 0 c + 1)) f n t (gI σ 12 0 0) (-1)) 1337 0 c (gI σ 1337 0 c + 1)) 1338 0 c (gI σ 1338 0 c + y)) 1335 0 f (gI σ 1335 0 f + y)) f n t (-1)) 1329 0 g = if g = f then nI (n + 1) else gI σ 1329 0 g := by simp [adM, adC, gI_pI]
                rw [e1]
                by_cases e : g = f
                · rw [if_pos e]
                  unfold nT
                  rw [nI_ti (by omega)]
                  omega
                · rw [if_neg e]
                  exact hz1.2
            · unfold adM adC
              refine vZ_F (by decide) hf ?_
              refine fr_vZ_I rfl (fr_vZ_I rfl (fr_vZ_I rfl (vZ_F (by decide) hf ?_)))
              repeat (first | assumption | refine fr_vZ_I rfl ?_)
      · refine Ok2.same h' (r := -3) ?_ ?_
        · unfold f11_look
          rw [e_faultAt n7 n9 hR hf, zc1_s, zoc_s, e_isIn, zc1_s, if_neg (by rw [t01]; simp only [Int32.reduceToInt]; omega), e_now s2 ⟨s3, s4⟩, zc1_s, if_neg ho]
        · unfold f12_look
          rw [m_isFault (n := gN σ 1) n8 n9, zc1_s, if_neg (by rw [t01]; omega), e_within, zc1_s, if_neg (by rw [t01]; simp only [Int32.reduceToInt]; omega), m_stateNow hf2 s1 ⟨s3, s4⟩, zc1_s, if_neg (by rw [← eo]; exact ho)]
    · refine Ok2.same h' (r := -1) ?_ ?_
      · unfold f11_look
        rw [e_faultAt n7 n9 hR hf, zc1_s, zoc_s, e_isIn, zc1_s, if_pos (by rw [t01]; simp only [Int32.reduceToInt]; omega)]
      · unfold f12_look
        rw [m_isFault (n := gN σ 1) n8 n9, zc1_s, if_neg (by rw [t01]; omega), e_within, zc1_s, if_pos (by rw [t01]; simp only [Int32.reduceToInt]; omega)]
  · refine Ok2.same h' (r := -1) ?_ ?_
    · unfold f11_look
      rw [e_faultAt_o n7 n9 hv, zc1_s, zoc_n]
    · unfold f12_look
      rw [m_isFault (n := gN σ 1) n8 n9, zc1_s, if_pos (by rw [t01]; exact hv)]
