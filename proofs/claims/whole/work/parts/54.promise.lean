theorem e_promiseAnew {s : zSt} {f n : Nat} (h : gI s 4 f 3 = nI n) (hn : n < 30) (v q : Int32) : f1_promiseAnew f v q s = some ((), adC (pI (pI (pI (pI s 1 f 14 (gI s 1 f 14 + (if zpr (gI s 1 f 13) (gI s 1 f 12) q = 3 then 1 else 0))) 1 f 15 (gI s 1 f 15 + (if zpr (gI s 1 f 13) (gI s 1 f 12) q = 1 then 1 else 0))) 1 f 13 1) 1 f 12 v) f n 1 q (-1)) := by
  obtain ⟨b, hb⟩ : ∃ b, b = gI s 1 f 14 + (if zpr (gI s 1 f 13) (gI s 1 f 12) q = 3 then 1 else 0) := ⟨_, rfl⟩
  have e2 : gI (pI s 1 f 14 b) 1 f 15 = gI s 1 f 15 := by simp [gI_pI]
  have e3 : gI (pI s 1 f 14 b) 1 f 13 = gI s 1 f 13 := by simp [gI_pI]
  have e4 : gI (pI s 1 f 14 b) 1 f 12 = gI s 1 f 12 := by simp [gI_pI]
  unfold f1_promiseAnew f1_brokenBy
  rw [e_promiseOn, zc1_s, ← hb, zc1_s, zlt_s, e_promiseOn, zc1_s, e2, e3, e4, zlt_s, zlt_s, zlt_s]
  rw [e_add (n := n) (by exact h) hn, zc2_s]
/-- the diary, when one fault is promised anew on both sides -/
theorem vD_promise {σ S : zSt} {f : Nat} {v : Int32} (a100 : gI S 100 = gI σ 100) (a1345 : gI S 1345 = gI σ 1345) (a12 : gI S 12 = gI σ 12) (a0 : gI S 0 = gI σ 0) (a1346 : gI S 1346 = gI σ 1346) (a101 : gR S 101 = gR σ 101) (a103 : gI S 103 = gI σ 103) (a1361 : gI S 1361 = gI σ 1361) (aN : gN S 1 = gN σ 1)
    (h1 : ∀ g, gI S 1 g 12 = if g = f then v else gI σ 1 g 12) (h2 : ∀ g, gI S 1331 0 g = if g = f then v else gI σ 1331 0 g) (H : vD σ) : vD S := by
  simp only [vD, jbn, pln, pD] at H ⊢
  simp only [a100, a1345, a12, a0, a1346, a101, a103, a1361, aN]
  obtain ⟨d1, d2, d3, d4, d5, d6⟩ := H
  refine ⟨d1, d2, d3, d4, fun i hi => ?_, d6⟩
  obtain ⟨g, hg, e1, e2, e3⟩ := d5 i hi
  refine ⟨g, hg, e1, e2, ?_⟩
  rw [h1, h2, e3]
theorem t_promise {σ : zSt} (h : Inv σ) (v1 v2 : Int32) : Ok2 (f11_promise v1 v2 σ) (f12_promise v1 v2) := by
  have h' := h
  obtain ⟨hO, hC, hN, hH, hK, hF, hS, hL, hG, hD, hT, hX, hZ⟩ := h
  have hN' := hN
  obtain ⟨n1, n2, n3, n4, n5, n6, n7, n8, n9, n10, n11, n12⟩ := hN'
  have n10' : gI σ 11 0 6 = gI σ 12 0 0 := n10
  rcases zcase v1 (gN σ 1) (by omega) with ⟨f, hf, rfl, hv⟩ | hv
  · have hR := (hF f hf).1
    obtain ⟨n, hn0⟩ : ∃ n, n = sz σ f := ⟨_, rfl⟩
    obtain ⟨s1, s2, s3, s4, s5, s6, s7, s8, s9⟩ := hS f hf
    rw [← hn0] at s1 s2 s3 s4 s5
    have eo : gI σ 501 f (n - 1) = gI σ 1326 0 (30 * f + (n - 1)) := (s5 (n - 1) (by omega)).2.1
    by_cases hd : (gI σ 12 0 0).toInt ≤ v2.toInt ∧ v2.toInt ≤ 9999
    · by_cases ho : gI σ 501 f (n - 1) = 0 ∨ gI σ 501 f (n - 1) = 1
      · by_cases hfull : n = 30
        · refine Ok2.same h' (r := -2) ?_ ?_
          · unfold f11_promise
            rw [e_faultAt n7 n9 hR hf, zc1_s, zoc_s, if_neg (by rw [n10', i_lt]; omega), if_pos (by rw [i_le]; simp only [Int32.reduceToInt]; omega), e_isWaiting s2 ⟨s3, s4⟩, zc1_s, if_neg (by rw [t01]; exact fun h => h ho), e_isFull s2 ⟨s3, s4⟩, zc1_s, if_neg (by rw [t01]; exact fun h => h hfull)]
          · unfold f12_promise
            rw [m_isFault (n := gN σ 1) n8 n9, zc1_s, if_neg (by rw [t01]; omega), e_within, zc1_s, if_neg (by rw [t01]; simp only [Int32.reduceToInt]; omega), m_isOpen (by omega) s1 ⟨s3, s4⟩, zc1_s, if_neg (by rw [t01, ← eo]; exact fun h => h ho), zix_s (by omega) (by decide), s1, hfull, if_pos (by rfl)]
        · have hlt : n < 30 := by omega
          have hz := zpr_same (q := gI σ 12 0 0) (hF f hf)
          have i14 : gI σ 1 f 14 = gI σ 1333 0 f := (hF f hf).2.2.2.2.2.2.2.2.2.2.2.2.2.2.2.2.2.2.2.2.2.2.2.1
          have i15 : gI σ 1 f 15 = gI σ 1332 0 f := (hF f hf).2.2.2.2.2.2.2.2.2.2.2.2.2.2.2.2.2.2.2.2.2.2.2.2
          obtain ⟨b, hb⟩ : ∃ b, b = gI σ 1 f 14 + (if zpr (gI σ 1 f 13) (gI σ 1 f 12) (gI σ 12 0 0) = 3 then 1 else 0) := ⟨_, rfl⟩
          obtain ⟨m, hmv⟩ : ∃ m, m = gI σ 1 f 15 + (if zpr (gI σ 1 f 13) (gI σ 1 f 12) (gI σ 12 0 0) = 1 then 1 else 0) := ⟨_, rfl⟩
          obtain ⟨S1, hS1⟩ : ∃ S1, S1 = adC (pI (pI (pI (pI σ 1 f 14 b) 1 f 15 m) 1 f 13 1) 1 f 12 v2) f n 1 (gI σ 12 0 0) (-1) := ⟨_, rfl⟩
          have q0 : gI S1 12 0 0 = gI σ 12 0 0 := by rw [hS1]; rfl
          have q1 : gI S1 1329 0 f = nI n := by rw [hS1]; exact s1
          have q2 : gI S1 1326 0 (30 * f + (n - 1)) = gI σ 1326 0 (30 * f + (n - 1)) := by rw [hS1]; rfl
          have q3 : gI S1 1330 0 f = gI σ 1330 0 f := by rw [hS1]; rfl
          have q4 : gI S1 1331 0 f = gI σ 1331 0 f := by rw [hS1]; rfl
          have q5 : gI S1 1332 0 f = gI σ 1332 0 f := by rw [hS1]; rfl
          have q6 : gI S1 1333 0 f = gI σ 1333 0 f := by rw [hS1]; rfl
          have q8 : gI S1 12 0 36 = nI (gN σ 1) := by rw [hS1]; exact n8
          refine ⟨1, S1, adM (pI (pI (pI (pI S1 1333 0 f b) 1332 0 f m) 1330 0 f 1) 1331 0 f v2) f n 1 (-1), ?_, by rw [hS1]; exact hO, ?_, ?_⟩
          · unfold f11_promise
            rw [e_faultAt n7 n9 hR hf, zc1_s, zoc_s, if_neg (by rw [n10', i_lt]; omega), if_pos (by rw [i_le]; simp only [Int32.reduceToInt]; omega), e_isWaiting s2 ⟨s3, s4⟩, zc1_s, if_neg (by rw [t01]; exact fun h => h ho), e_isFull s2 ⟨s3, s4⟩, zc1_s, if_pos (by rw [t01]; exact hfull), n10', e_promiseAnew s2 hlt, zc2_s, hS1, hb, hmv]
          · have r1 : f12_promiseNow (nI f) S1 = some (zpr (gI σ 1 f 13) (gI σ 1 f 12) (gI σ 12 0 0)) := by
              rw [m_promiseNow (by omega), q3, q4, q0, hz]
            have r2 : ∀ x, f12_promiseNow (nI f) (pI S1 1333 0 f x) = some (zpr (gI σ 1 f 13) (gI σ 1 f 12) (gI σ 12 0 0)) := fun x => by
              rw [m_promiseNow (by omega)]
              show some (zpr (gI S1 1330 0 f) (gI S1 1331 0 f) (gI S1 12 0 0)) = _
              rw [q3, q4, q0, hz]
            have r3 : ∀ x, gI (pI S1 1333 0 f x) 1332 0 f = gI σ 1332 0 f := fun x => q5
            have hf2 : f < 200 := by omega
            unfold f12_promise
            rw [m_isFault (n := gN σ 1) q8 n9, zc1_s, if_neg (by rw [t01]; omega), e_within, zc1_s, if_neg (by rw [t01, q0]; simp only [Int32.reduceToInt]; omega), m_isOpen hf2 q1 ⟨s3, s4⟩, zc1_s, q2, if_neg (by rw [t01, ← eo]; exact fun h => h ho), zix_s hf2 (by decide), q1, if_neg (by show ¬ nI n = nI 30; rw [nI_inj (by omega) (by decide)]; exact hfull)]
            rw [zix_s hf2 (by decide), r1, zc1_s, zix_s hf2 (by decide), zlt_s, zix_s hf2 (by decide), r2, zc1_s, zix_s hf2 (by decide), zlt_s, r3, zix_s hf2 (by decide), zlt_s, zix_s hf2 (by decide), zlt_s, q6, ← i14, ← hb, ← i15, ← hmv]
            rw [m_become hf2 (n := n) (by exact q1) hlt, zc2_s]
          · have hl : sT σ f (n - 1) ≠ 2 := by
              show gI σ 1326 0 (30 * f + (n - 1)) ≠ 2
              rw [← eo]
              rcases ho with h | h <;> rw [h] <;> decide
            subst hS1
            refine ⟨hO, hC, (by unfold adM adC; repeat (first | assumption | refine fr_vN_I rfl ?_)), (by unfold adM adC; repeat (first | assumption | refine fr_vH_I rfl ?_)), (by unfold adM adC; repeat (first | assumption | refine fr_vK_I rfl ?_)), ?_, ?_, ?_, (by unfold adM adC; repeat (first | assumption | refine fr_vG_I rfl ?_)), ?_, (by unfold adM adC; repeat (first | assumption | refine fr_vT_I rfl ?_)), (by unfold adM adC; repeat (first | assumption | refine fr_vX_I rfl ?_)), ?_⟩
            · intro g hg
              have h1 := hF g hg
              by_cases e : g = f
              · subst e
                simp only [vF1, pD, hm, kd, qday] at h1 ⊢
                obtain ⟨a1, a2, a3, a4, a5, a6, a7, a8, a9, a10, a11, a12, a13, a14, a15, a16, a17, a18, a19, a20, a21, a22, a23, a24, a25⟩ := h1
                refine ⟨a1, ?_, a3, a4, a5, ?_, a7, ?_, a9, a10, a11, ?_, a13, ?_, ?_, a16, ?_, a18, ?_, a20, ?_, ?_, Or.inl ?_, ?_, ?_⟩
                all_goals first | (simp [adM, adC, gI_pI, a2, a6, a8, a12, a14, a15, a17, a19, a24, a25]; done) | skip
                have hb1 : btw 0 1 3 := by unfold btw; decide
                simp [adM, adC, gI_pI, hb1]
              · simp only [vF1, pD, hm, kd, qday] at h1 ⊢
                simpa [adM, adC, gI_pI, gR_I, gN_I, e] using h1
            · exact vS_more (σ := σ) (f := f) (n := n) (t := 1) (q := gI σ 12 0 0) (w := -1) rfl hn0.symm hlt (fun g j => by simp [adM, adC, gI_pI]) (fun g j => by simp [adM, adC, gI_pI]) (fun g j => by simp [adM, adC, gI_pI]) (fun g => by simp [adM, adC, gI_pI]) (fun k => by simp [adM, adC, gI_pI]) (fun k => by simp [adM, adC, gI_pI]) (fun k => by simp [adM, adC, gI_pI]) (fun g => by simp [adM, adC, gI_pI]) (fun g e => by simp [adM, adC, gI_pI, e]) rfl rfl rfl (by unfold btw; decide) (fun h => absurd h (by decide)) (fun _ => by simp [adM, adC, gI_pI]) hS
            · exact vL_more (σ := σ) (f := f) (n := n) (t := 1) (w := -1) rfl hn0.symm s3 hlt (fun k => by simp [adM, adC, gI_pI]) (fun k => by simp [adM, adC, gI_pI]) (fun g => by simp [adM, adC, gI_pI]) rfl rfl rfl rfl rfl rfl hl (by decide) (fun g hg => ⟨(hS g hg).2.2.1, (hS g hg).2.2.2.1⟩) hL
            · refine vD_promise (σ := σ) (f := f) (v := v2) rfl rfl rfl rfl rfl rfl rfl rfl rfl (fun g => ?_) (fun g => ?_) hD
              · simp [adM, adC, gI_pI]
              · simp [adM, adC, gI_pI]
            · unfold adM adC
              refine vZ_F (by decide) hf ?_
              refine fr_vZ_I rfl (fr_vZ_I rfl (fr_vZ_I rfl (fr_vZ_I rfl (vZ_F (by decide) hf (vZ_F (by decide) hf (vZ_F (by decide) hf ?_))))))
              repeat (first | assumption | refine fr_vZ_I rfl ?_)
      · refine Ok2.same h' (r := -3) ?_ ?_
        · unfold f11_promise
          rw [e_faultAt n7 n9 hR hf, zc1_s, zoc_s, if_neg (by rw [n10', i_lt]; omega), if_pos (by rw [i_le]; simp only [Int32.reduceToInt]; omega), e_isWaiting s2 ⟨s3, s4⟩, zc1_s, if_pos (by rw [t01]; exact ho)]
        · unfold f12_promise
          rw [m_isFault (n := gN σ 1) n8 n9, zc1_s, if_neg (by rw [t01]; omega), e_within, zc1_s, if_neg (by rw [t01]; simp only [Int32.reduceToInt]; omega), m_isOpen (by omega) s1 ⟨s3, s4⟩, zc1_s, if_pos (by rw [t01, ← eo]; exact ho)]
    · refine Ok2.same h' (r := -1) ?_ ?_
      · unfold f11_promise
        rw [e_faultAt n7 n9 hR hf, zc1_s, zoc_s, n10']
        by_cases e : v2 < gI σ 12 0 0
        · rw [if_pos e]
        · rw [if_neg e, if_neg (by rw [i_lt] at e; rw [i_le]; simp only [Int32.reduceToInt]; omega)]
      · unfold f12_promise
        rw [m_isFault (n := gN σ 1) n8 n9, zc1_s, if_neg (by rw [t01]; omega), e_within, zc1_s, if_pos (by rw [t01]; simp only [Int32.reduceToInt]; omega)]
  · refine Ok2.same h' (r := -1) ?_ ?_
    · unfold f11_promise
      rw [e_faultAt_o n7 n9 hv, zc1_s, zoc_n]
    · unfold f12_promise
      rw [m_isFault (n := gN σ 1) n8 n9, zc1_s, if_pos (by rw [t01]; exact hv)]
