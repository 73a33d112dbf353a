/-- what stands of a promise when the fault ends -/
def zpe (x : Int32) : Int32 := if x = 1 then 0 else x
theorem zpr_same {σ : zSt} {f : Nat} {q : Int32} (H : vF1 σ f) : zpr (gI σ 1 f 13) (gI σ 1 f 12) q = zpr (gI σ 1330 0 f) (gI σ 1331 0 f) q := by
  obtain ⟨a1, a2, a3, a4, a5, a6, a7, a8, a9, a10, a11, a12, a13, a14, a15, a16, a17, a18, a19, a20, a21, a22, a23, a24, a25⟩ := H
  rw [a21]
  rcases a23 with h | h
  · unfold pD at h
    rw [h]
  · unfold zpr
    rw [h, if_neg (by decide), if_neg (by decide)]
theorem zpr_in {p d q : Int32} (h : btw 0 p 3) : btw 0 (zpr p d q) 3 ∧ (p = 0 → zpr p d q = 0) := by
  unfold zpr
  by_cases e : p = 1
  · rw [if_pos e]
    refine ⟨?_, fun h0 => absurd (e.symm.trans h0) (by decide)⟩
    by_cases e2 : q ≤ d
    · rw [if_pos e2]; exact h
    · rw [if_neg e2]; unfold btw; decide
  · rw [if_neg e]
    exact ⟨h, fun h => h⟩
theorem zpe_in {x : Int32} (h : btw 0 x 3) : btw 0 (zpe x) 3 ∧ (x = 0 → zpe x = 0) := by
  unfold zpe
  by_cases e : x = 1
  · rw [if_pos e]
    exact ⟨by unfold btw; decide, fun _ => rfl⟩
  · rw [if_neg e]
    exact ⟨h, fun h => h⟩
theorem e_endWith {s : zSt} {f n : Nat} (h : gI s 4 f 3 = nI n) (hn : n < 30) (t q : Int32) : f1_endWith f t q s = some ((), adC (pI s 1 f 13 (zpe (zpr (gI s 1 f 13) (gI s 1 f 12) q))) f n t q (-1)) := by
  unfold f1_endWith
  rw [e_promiseOn, zc1_s, zlt_s, zc1_s]
  have e : gI (pI s 1 f 13 (zpe (zpr (gI s 1 f 13) (gI s 1 f 12) q))) 4 f 3 = nI n := h
  by_cases h1 : zpr (gI s 1 f 13) (gI s 1 f 12) q = 1
  · have e2 : zpe (zpr (gI s 1 f 13) (gI s 1 f 12) q) = 0 := if_pos h1
    rw [e2] at e ⊢
    rw [if_pos h1]
    show zc2 (f4_add f t q (-1) (pI s 1 f 13 0)) (fun _ s7 => some ((), s7)) = _
    rw [e_add e hn, zc2_s]
  · have e2 : zpe (zpr (gI s 1 f 13) (gI s 1 f 12) q) = zpr (gI s 1 f 13) (gI s 1 f 12) q := if_neg h1
    rw [e2] at e ⊢
    rw [if_neg h1]
    show zc2 (f4_add f t q (-1) (pI s 1 f 13 (zpr (gI s 1 f 13) (gI s 1 f 12) q))) (fun _ s7 => some ((), s7)) = _
    rw [e_add e hn, zc2_s]
theorem m_endPromise {s : zSt} {f : Nat} (hf : f < 200) : f12_endPromise (nI f) s = some ((), pI s 1330 0 f (zpe (zpr (gI s 1330 0 f) (gI s 1331 0 f) (gI s 12 0 0)))) := by
  unfold f12_endPromise
  rw [m_promiseNow hf, zc1_s, zix_s hf (by decide), zlt_s]
  rfl
theorem t_voids {σ : zSt} (h : Inv σ) (v1 : Int32) : Ok2 (f11_voids v1 σ) (f12_voids v1) := by
  have h' := h
  obtain ⟨hO, hC, hN, hH, hK, hF, hS, hL, hG, hD, hT, hX, hZ⟩ := h
  have hN' := hN
  obtain ⟨n1, n2, n3, n4, n5, n6, n7, n8, n9, n10, n11, n12⟩ := hN'
  have n10' : gI σ 11 0 6 = gI σ 12 0 0 := n10
  rcases zcase v1 (gN σ 1) (by omega) with ⟨f, hf, rfl, hv⟩ | hv
  · have hR := (hF f hf).1
    obtain ⟨n, hn0⟩ : ∃ n, n = sz σ f := ⟨_, rfl⟩
    obtain ⟨s1, s2, s3, s4, s5, s6, s7, s8, s9⟩ := hS f hf
    rw [← hn0] at s1 s2 s3 s4 s5
    have eo : gI σ 501 f (n - 1) = gI σ 1326 0 (30 * f + (n - 1)) := (s5 (n - 1) (by omega)).2.1
    by_cases ho : gI σ 501 f (n - 1) = 0 ∨ gI σ 501 f (n - 1) = 1
    · by_cases hfull : n = 30
      · refine Ok2.same h' (r := -2) ?_ ?_
        · unfold f11_voids
          rw [e_faultAt n7 n9 hR hf, zc1_s, zoc_s, e_isWaiting s2 ⟨s3, s4⟩, zc1_s, if_neg (by rw [t01]; exact fun h => h ho), e_isFull s2 ⟨s3, s4⟩, zc1_s, if_neg (by rw [t01]; exact fun h => h hfull)]
        · unfold f12_voids
          rw [m_isFault (n := gN σ 1) n8 n9, zc1_s, if_neg (by rw [t01]; omega), m_isOpen (by omega) s1 ⟨s3, s4⟩, zc1_s, if_neg (by rw [t01, ← eo]; exact fun h => h ho), zix_s (by omega) (by decide), s1, hfull, if_pos (by rfl)]
      · have hlt : n < 30 := by omega
        have hz := zpr_same (q := gI σ 12 0 0) (hF f hf)
        obtain ⟨x, hx⟩ : ∃ x, x = zpe (zpr (gI σ 1 f 13) (gI σ 1 f 12) (gI σ 12 0 0)) := ⟨_, rfl⟩
        have q1 : gI (adC (pI σ 1 f 13 x) f n 4 (gI σ 12 0 0) (-1)) 1329 0 f = nI n := s1
        have q2 : gI (adC (pI σ 1 f 13 x) f n 4 (gI σ 12 0 0) (-1)) 1326 0 (30 * f + (n - 1)) = gI σ 1326 0 (30 * f + (n - 1)) := rfl
        refine ⟨1, adC (pI σ 1 f 13 x) f n 4 (gI σ 12 0 0) (-1), adM (pI (adC (pI σ 1 f 13 x) f n 4 (gI σ 12 0 0) (-1)) 1330 0 f x) f n 4 (-1), ?_, hO, ?_, ?_⟩
        · unfold f11_voids
          rw [e_faultAt n7 n9 hR hf, zc1_s, zoc_s, e_isWaiting s2 ⟨s3, s4⟩, zc1_s, if_neg (by rw [t01]; exact fun h => h ho), e_isFull s2 ⟨s3, s4⟩, zc1_s, if_pos (by rw [t01]; exact hfull), n10', e_endWith s2 hlt, zc2_s, hx]
        · unfold f12_voids
          have q3 : f12_endPromise (nI f) (adC (pI σ 1 f 13 x) f n 4 (gI σ 12 0 0) (-1)) = some ((), pI (adC (pI σ 1 f 13 x) f n 4 (gI σ 12 0 0) (-1)) 1330 0 f x) := by
            rw [m_endPromise (by omega)]
            show some ((), pI _ 1330 0 f (zpe (zpr (gI σ 1330 0 f) (gI σ 1331 0 f) (gI σ 12 0 0)))) = _
            rw [← hz, ← hx]
          have q4 : gI (pI (adC (pI σ 1 f 13 x) f n 4 (gI σ 12 0 0) (-1)) 1330 0 f x) 1329 0 f = nI n := s1
          rw [m_isFault (n := gN σ 1) (by exact n8) n9, zc1_s, if_neg (by rw [t01]; omega), m_isOpen (by omega) q1 ⟨s3, s4⟩, zc1_s, q2, if_neg (by rw [t01, ← eo]; exact fun h => h ho), zix_s (by omega) (by decide), q1, if_neg (by show ¬ nI n = nI 30; rw [nI_inj (by omega) (by decide)]; exact hfull), q3, zc2_s, m_become (by omega) q4 hlt, zc2_s]
        · have hl : sT σ f (n - 1) ≠ 2 := by
            show gI σ 1326 0 (30 * f + (n - 1)) ≠ 2
            rw [← eo]
            rcases ho with h | h <;> rw [h] <;> decide
          have hb := (hF f hf).2.2.2.2.2.2.2.2.2.2.2.2.2.2.2.2.2.2.2.2.2.1
          have hx3 : btw 0 x 3 := by
            rw [hx, hz]
            exact (zpe_in (zpr_in hb).1).1
          have hx0 : gI σ 1330 0 f = 0 → x = 0 := fun h0 => by
            rw [hx, hz]
            exact (zpe_in (zpr_in hb).1).2 ((zpr_in hb).2 h0)
          refine ⟨hO, hC, (by unfold adM adC; repeat (first | assumption | refine fr_vN_I rfl ?_ | refine fr_vH_I rfl ?_ | refine fr_vK_I rfl ?_ | refine fr_vG_I rfl ?_ | refine fr_vD_I rfl ?_ | refine fr_vT_I rfl ?_ | refine fr_vX_I rfl ?_)), (by unfold adM adC; repeat (first | assumption | refine fr_vN_I rfl ?_ | refine fr_vH_I rfl ?_ | refine fr_vK_I rfl ?_ | refine fr_vG_I rfl ?_ | refine fr_vD_I rfl ?_ | refine fr_vT_I rfl ?_ | refine fr_vX_I rfl ?_)), (by unfold adM adC; repeat (first | assumption | refine fr_vN_I rfl ?_ | refine fr_vH_I rfl ?_ | refine fr_vK_I rfl ?_ | refine fr_vG_I rfl ?_ | refine fr_vD_I rfl ?_ | refine fr_vT_I rfl ?_ | refine fr_vX_I rfl ?_)), ?_, ?_, ?_, (by unfold adM adC; repeat (first | assumption | refine fr_vN_I rfl ?_ | refine fr_vH_I rfl ?_ | refine fr_vK_I rfl ?_ | refine fr_vG_I rfl ?_ | refine fr_vD_I rfl ?_ | refine fr_vT_I rfl ?_ | refine fr_vX_I rfl ?_)), (by unfold adM adC; repeat (first | assumption | refine fr_vN_I rfl ?_ | refine fr_vH_I rfl ?_ | refine fr_vK_I rfl ?_ | refine fr_vG_I rfl ?_ | refine fr_vD_I rfl ?_ | refine fr_vT_I rfl ?_ | refine fr_vX_I rfl ?_)), (by unfold adM adC; repeat (first | assumption | refine fr_vN_I rfl ?_ | refine fr_vH_I rfl ?_ | refine fr_vK_I rfl ?_ | refine fr_vG_I rfl ?_ | refine fr_vD_I rfl ?_ | refine fr_vT_I rfl ?_ | refine fr_vX_I rfl ?_)), (by unfold adM adC; repeat (first | assumption | refine fr_vN_I rfl ?_ | refine fr_vH_I rfl ?_ | refine fr_vK_I rfl ?_ | refine fr_vG_I rfl ?_ | refine fr_vD_I rfl ?_ | refine fr_vT_I rfl ?_ | refine fr_vX_I rfl ?_)), ?_⟩
          · intro g hg
            have h1 := hF g hg
            by_cases e : g = f
            · subst e
              simp only [vF1, pD, hm, kd, qday] at h1 ⊢
              obtain ⟨a1, a2, a3, a4, a5, a6, a7, a8, a9, a10, a11, a12, a13, a14, a15, a16, a17, a18, a19, a20, a21, a22, a23, a24, a25⟩ := h1
              refine ⟨a1, ?_, a3, a4, a5, ?_, a7, ?_, a9, a10, a11, ?_, a13, ?_, ?_, a16, ?_, a18, ?_, a20, ?_, ?_, ?_, ?_, ?_⟩
              all_goals first | (simp [adM, adC, gI_pI, a2, a6, a8, a12, a14, a15, a17, a19, hx3, a24, a25]; done) | skip
              rcases a23 with h | h
              · exact Or.inl (by simpa [adM, adC, gI_pI] using h)
              · exact Or.inr (by simpa [adM, adC, gI_pI] using hx0 h)
            · simp only [vF1, pD, hm, kd, qday] at h1 ⊢
              simpa [adM, adC, gI_pI, gR_I, gN_I, e] using h1
          · exact vS_more (σ := σ) (f := f) (n := n) (t := 4) (q := gI σ 12 0 0) (w := -1) rfl hn0.symm hlt (fun g j => by simp [adM, adC, gI_pI]) (fun g j => by simp [adM, adC, gI_pI]) (fun g j => by simp [adM, adC, gI_pI]) (fun g => by simp [adM, adC, gI_pI]) (fun k => by simp [adM, adC, gI_pI]) (fun k => by simp [adM, adC, gI_pI]) (fun k => by simp [adM, adC, gI_pI]) (fun g => by simp [adM, adC, gI_pI]) (fun g e => by simp [adM, adC, gI_pI, e]) rfl rfl rfl (by unfold btw; decide) (fun h => absurd h (by decide)) (fun h => absurd h (by decide)) hS
          · exact vL_more (σ := σ) (f := f) (n := n) (t := 4) (w := -1) rfl hn0.symm s3 hlt (fun k => by simp [adM, adC, gI_pI]) (fun k => by simp [adM, adC, gI_pI]) (fun g => by simp [adM, adC, gI_pI]) rfl rfl rfl rfl rfl rfl hl (by decide) (fun g hg => ⟨(hS g hg).2.2.1, (hS g hg).2.2.2.1⟩) hL
          · unfold adM adC
            refine vZ_F (by decide) hf ?_
            refine fr_vZ_I rfl (fr_vZ_I rfl (fr_vZ_I rfl (vZ_F (by decide) hf ?_)))
            repeat (first | assumption | refine fr_vZ_I rfl ?_)
    · refine Ok2.same h' (r := -3) ?_ ?_
      · unfold f11_voids
        rw [e_faultAt n7 n9 hR hf, zc1_s, zoc_s, e_isWaiting s2 ⟨s3, s4⟩, zc1_s, if_pos (by rw [t01]; exact ho)]
      · unfold f12_voids
        rw [m_isFault (n := gN σ 1) n8 n9, zc1_s, if_neg (by rw [t01]; omega), m_isOpen (by omega) s1 ⟨s3, s4⟩, zc1_s, if_pos (by rw [t01, ← eo]; exact ho)]
  · refine Ok2.same h' (r := -1) ?_ ?_
    · unfold f11_voids
      rw [e_faultAt_o n7 n9 hv, zc1_s, zoc_n]
    · unfold f12_voids
      rw [m_isFault (n := gN σ 1) n8 n9, zc1_s, if_pos (by rw [t01]; exact hv)]
