def zps (x : Int32) : Int32 := if x = 1 then 2 else x
theorem zps_in {x : Int32} (h : btw 0 x 3) : btw 0 (zps x) 3 ∧ (x = 0 → zps x = 0) := by
  unfold zps
  by_cases e : x = 1
  · rw [if_pos e]
    refine ⟨by unfold btw; decide, fun h0 => absurd (e.symm.trans h0) (by decide)⟩
  · rw [if_neg e]
    exact ⟨h, fun h => h⟩
theorem e_saidBy {s : zSt} {f n : Nat} (h : gI s 4 f 3 = nI n) (hn : n < 30) (c q : Int32) : f1_saidBy f c q s = some ((), adC (pI s 1 f 13 (zps (zpr (gI s 1 f 13) (gI s 1 f 12) q))) f n 2 q c) := by
  unfold f1_saidBy zps
  rw [e_promiseOn, zc1_s, zlt_s, zc1_s]
  by_cases h1 : zpr (gI s 1 f 13) (gI s 1 f 12) q = 1
  · rw [if_pos h1, if_pos h1]
    dsimp only
    rw [zlt_s, e_add (n := n) (by exact h) hn, zc2_s]
  · rw [if_neg h1, if_neg h1]
    dsimp only
    rw [zlt_s, e_add (n := n) (by exact h) hn, zc2_s]
theorem t_said {σ : zSt} (h : Inv σ) (v1 v2 : Int32) : Ok2 (f11_said v1 v2 σ) (f12_said v1 v2) := by
  have h' := h
  obtain ⟨hO, hC, hN, hH, hK, hF, hS, hL, hG, hD, hT, hX, hZ⟩ := h
  have hN' := hN
  obtain ⟨n1, n2, n3, n4, n5, n6, n7, n8, n9, n10, n11, n12⟩ := hN'
  have n10' : gI σ 11 0 6 = gI σ 12 0 0 := n10
  rcases zcase v1 (gN σ 1) (by omega) with ⟨f, hf, rfl, hv⟩ | hv
  · have hR := (hF f hf).1
    obtain ⟨n, hn0⟩ : ∃ n, n = sz σ f := ⟨_, rfl⟩
    obtain ⟨s1, s2, s3, s4, s5, s6, s7, s8, s9⟩ := hS f hf
    rw [← hn0] at s1 s2 s3 s4 s5
    have eo : gI σ 501 f (n - 1) = gI σ 1326 0 (30 * f + (n - 1)) := (s5 (n - 1) (by omega)).2.1
    rcases zcase v2 10 (by decide) with ⟨c, hc, rfl, hd⟩ | hd
    · by_cases ho : gI σ 501 f (n - 1) = 0 ∨ gI σ 501 f (n - 1) = 1
      · by_cases hfull : n = 30
        · refine Ok2.same h' (r := -2) ?_ ?_
          · unfold f11_said
            rw [e_faultAt n7 n9 hR hf, zc1_s, zoc_s, e_isIn, zc1_s, if_neg (by rw [t01]; simp only [Int32.reduceToInt]; omega), e_isWaiting s2 ⟨s3, s4⟩, zc1_s, if_neg (by rw [t01]; exact fun h => h ho), e_isFull s2 ⟨s3, s4⟩, zc1_s, if_neg (by rw [t01]; exact fun h => h hfull)]
          · unfold f12_said
            rw [m_isFault (n := gN σ 1) n8 n9, zc1_s, if_neg (by rw [t01]; omega), m_isCrew, zc1_s, if_neg (by rw [t01]; omega), m_isOpen (by omega) s1 ⟨s3, s4⟩, zc1_s, if_neg (by rw [t01, ← eo]; exact fun h => h ho), zix_s (by omega) (by decide), s1, hfull, if_pos (by rfl)]
        · have hlt : n < 30 := by omega
          have hz := zpr_same (q := gI σ 12 0 0) (hF f hf)
          obtain ⟨x, hx⟩ : ∃ x, x = zps (zpr (gI σ 1 f 13) (gI σ 1 f 12) (gI σ 12 0 0)) := ⟨_, rfl⟩
          obtain ⟨S1, hS1⟩ : ∃ S1, S1 = adC (pI σ 1 f 13 x) f n 2 (gI σ 12 0 0) (nI c) := ⟨_, rfl⟩
          have q0 : gI S1 12 0 0 = gI σ 12 0 0 := by rw [hS1]; rfl
          have q1 : gI S1 1329 0 f = nI n := by rw [hS1]; exact s1
          have q2 : gI S1 1326 0 (30 * f + (n - 1)) = gI σ 1326 0 (30 * f + (n - 1)) := by rw [hS1]; rfl
          have q3 : gI S1 1330 0 f = gI σ 1330 0 f := by rw [hS1]; rfl
          have q4 : gI S1 1331 0 f = gI σ 1331 0 f := by rw [hS1]; rfl
          have q8 : gI S1 12 0 36 = nI (gN σ 1) := by rw [hS1]; exact n8
          refine ⟨1, S1, adM (pI (pI (pI S1 1330 0 f x) 1334 0 f (gI σ 1334 0 f + 1)) 1339 0 c (gI σ 1339 0 c + 1)) f n 2 (nI c), ?_, by rw [hS1]; exact hO, ?_, ?_⟩
          · unfold f11_said
            rw [e_faultAt n7 n9 hR hf, zc1_s, zoc_s, e_isIn, zc1_s, if_neg (by rw [t01]; simp only [Int32.reduceToInt]; omega), e_isWaiting s2 ⟨s3, s4⟩, zc1_s, if_neg (by rw [t01]; exact fun h => h ho), e_isFull s2 ⟨s3, s4⟩, zc1_s, if_pos (by rw [t01]; exact hfull), n10', e_saidBy s2 hlt, zc2_s, hS1, hx]
          · have r1 : f12_promiseNow (nI f) S1 = some (zpr (gI σ 1 f 13) (gI σ 1 f 12) (gI σ 12 0 0)) := by
              rw [m_promiseNow (by omega), q3, q4, q0, hz]
            have hf2 : f < 200 := by omega
            have q5 : ∀ y, gI (pI S1 1330 0 f y) 1334 0 f = gI σ 1334 0 f := fun y => by rw [hS1]; rfl
            have q6 : ∀ y z, gI (pI (pI S1 1330 0 f y) 1334 0 f z) 1339 0 c = gI σ 1339 0 c := fun y z => by rw [hS1]; rfl
            unfold f12_said
            rw [m_isFault (n := gN σ 1) q8 n9, zc1_s, if_neg (by rw [t01]; omega), m_isCrew, zc1_s, if_neg (by rw [t01]; omega), m_isOpen hf2 q1 ⟨s3, s4⟩, zc1_s, q2, if_neg (by rw [t01, ← eo]; exact fun h => h ho), zix_s hf2 (by decide), q1, if_neg (by show ¬ nI n = nI 30; rw [nI_inj (by omega) (by decide)]; exact hfull), r1, zc1_s, zlt_s, zc1_s]
            by_cases h1 : zpr (gI σ 1 f 13) (gI σ 1 f 12) (gI σ 12 0 0) = 1
            · have hx2 : x = 2 := by rw [hx]; exact if_pos h1
              rw [if_pos h1]
              dsimp only
              rw [zix_s hf2 (by decide), zlt_s, zix_s hf2 (by decide), zix_s hf2 (by decide), zlt_s, zix_s hc (by decide), zix_s hc (by decide), zlt_s, q5, q6, ← hx2, m_become hf2 (n := n) (by exact q1) hlt, zc2_s]
            · have hx2 : x = zpr (gI σ 1 f 13) (gI σ 1 f 12) (gI σ 12 0 0) := by rw [hx]; exact if_neg h1
              rw [if_neg h1]
              dsimp only
              rw [zix_s hf2 (by decide), zlt_s, zix_s hf2 (by decide), zix_s hf2 (by decide), zlt_s, zix_s hc (by decide), zix_s hc (by decide), zlt_s, q5, q6, ← hx2, m_become hf2 (n := n) (by exact q1) hlt, zc2_s]
          · have hl : sT σ f (n - 1) ≠ 2 := by
              show gI σ 1326 0 (30 * f + (n - 1)) ≠ 2
              rw [← eo]
              rcases ho with h | h <;> rw [h] <;> decide
            have hb := (hF f hf).2.2.2.2.2.2.2.2.2.2.2.2.2.2.2.2.2.2.2.2.2.1
            have hx3 : btw 0 x 3 := by
              rw [hx, hz]
              exact (zps_in (zpr_in hb).1).1
            have hx0 : gI σ 1330 0 f = 0 → x = 0 := fun h0 => by
              rw [hx, hz]
              exact (zps_in (zpr_in hb).1).2 ((zpr_in hb).2 h0)
            subst hS1
            have hcb : btw 0 (nI c) 9 := ⟨hd.1, by have := hd.2; omega⟩
            refine ⟨hO, hC, (by unfold adM adC; repeat (first | assumption | refine fr_vN_I rfl ?_)), (by unfold adM adC; repeat (first | assumption | refine fr_vH_I rfl ?_)), (by unfold adM adC; repeat (first | assumption | refine fr_vK_I rfl ?_)), ?_, ?_, ?_, (by unfold adM adC; repeat (first | assumption | refine fr_vG_I rfl ?_)), (by unfold adM adC; repeat (first | assumption | refine fr_vD_I rfl ?_)), (by unfold adM adC; repeat (first | assumption | refine fr_vT_I rfl ?_)), (by unfold adM adC; repeat (first | assumption | refine fr_vX_I rfl ?_)), ?_⟩
            · intro g hg
              have h1 := hF g hg
              by_cases e : g = f
              · subst e
                simp only [vF1, pD, hm, kd, qday] at h1 ⊢
                obtain ⟨a1, a2, a3, a4, a5, a6, a7, a8, a9, a10, a11, a12, a13, a14, a15, a16, a17, a18, a19, a20, a21, a22, a23, a24, a25⟩ := h1
                refine ⟨a1, ?_, a3, a4, a5, ?_, a7, ?_, a9, a10, a11, ?_, a13, ?_, ?_, a16, ?_, a18, ?_, a20, ?_, ?_, ?_, ?_, ?_⟩
                all_goals first | (simp [adM, adC, gI_pI, a2, a6, a8, a12, a14, a15, a17, a19, hx3, a24, a25]; done) | skip
                rcases a23 with h | h
                · exact Or.inl (by simpa [adM, adC, gI_pI] using h)
                · exact Or.inr (by simpa [adM, adC, gI_pI] using hx0 h)
              · simp only [vF1, pD, hm, kd, qday] at h1 ⊢
                simpa [adM, adC, gI_pI, gR_I, gN_I, e] using h1
            · exact vS_more (σ := σ) (f := f) (n := n) (t := 2) (q := gI σ 12 0 0) (w := nI c) rfl hn0.symm hlt (fun g j => by simp [adM, adC, gI_pI]) (fun g j => by simp [adM, adC, gI_pI]) (fun g j => by simp [adM, adC, gI_pI]) (fun g => by simp [adM, adC, gI_pI]) (fun k => by simp [adM, adC, gI_pI]) (fun k => by simp [adM, adC, gI_pI]) (fun k => by simp [adM, adC, gI_pI]) (fun g => by simp [adM, adC, gI_pI]) (fun g e => by simp [adM, adC, gI_pI, e]) rfl rfl rfl (by unfold btw; decide) (fun _ => hcb) (fun h => absurd h (by decide)) hS
            · have hsz : ∀ g, g < gN σ 1 → 1 ≤ sz σ g ∧ sz σ g ≤ 30 := fun g hg => ⟨(hS g hg).2.2.1, (hS g hg).2.2.2.1⟩
              refine vL_any (σ := σ) (f := f) (n := n) (t := 2) (w := nI c) hf n9 rfl hn0.symm s3 hlt (fun k => by simp [adM, adC, gI_pI]) (fun k => by simp [adM, adC, gI_pI]) (fun g => by simp [adM, adC, gI_pI]) (fun g => ?_) (fun g => ?_) (fun c' _ => ?_) (fun c' _ => ?_) (fun c' _ => ?_) (fun c' hc' => ?_) hsz (fun g hg => ?_) hL
              · by_cases e : g = f
                · subst e; simp [adM, adC, gI_pI]
                · simp [adM, adC, gI_pI, e]
              · simp [adM, adC, gI_pI]
              · rw [if_neg fun h => hl h.1, i_add0]; rfl
              · rw [if_neg fun h => hl h.1, i_add0]; rfl
              · rw [if_neg fun h => hl h.1.1, i_add0]; rfl
              · by_cases e : c' = c
                · subst e; simp [adM, adC, gI_pI]
                · rw [if_neg fun h => e ((nI_inj (by omega) (by omega)).mp h.2).symm, i_add0]; simp [adM, adC, gI_pI, e]
              · have hz1 := hsz g hg
                unfold sz
                have e1 : gI (adM (pI (pI (pI (adC (pI σ 1 f 13 x) f n 2 (gI σ 12 0 0) (nI c)) 1330 0 f x) 1334 0 f (gI σ 1334 0 f + 1)) 1339 0 c (gI σ 1339 0 c + 1)) f n 2 (nI c)) 1329 0 g = if g = f then nI (n + 1) else gI σ 1329 0 g := by simp [adM, adC, gI_pI]
                rw [e1]
                by_cases e : g = f
                · rw [if_pos e]
                  unfold nT
                  rw [nI_ti (by omega)]
                  omega
                · rw [if_neg e]
                  exact hz1.2
            · unfold adM adC
              refine vZ_F (by decide) hf ?_
              refine fr_vZ_I rfl (fr_vZ_I rfl (fr_vZ_I rfl (fr_vZ_I rfl (vZ_F (by decide) hf (vZ_F (by decide) hf ?_)))))
              repeat (first | assumption | refine fr_vZ_I rfl ?_)
      · refine Ok2.same h' (r := -3) ?_ ?_
        · unfold f11_said
          rw [e_faultAt n7 n9 hR hf, zc1_s, zoc_s, e_isIn, zc1_s, if_neg (by rw [t01]; simp only [Int32.reduceToInt]; omega), e_isWaiting s2 ⟨s3, s4⟩, zc1_s, if_pos (by rw [t01]; exact ho)]
        · unfold f12_said
          rw [m_isFault (n := gN σ 1) n8 n9, zc1_s, if_neg (by rw [t01]; omega), m_isCrew, zc1_s, if_neg (by rw [t01]; omega), m_isOpen (by omega) s1 ⟨s3, s4⟩, zc1_s, if_pos (by rw [t01, ← eo]; exact ho)]
    · refine Ok2.same h' (r := -1) ?_ ?_
      · unfold f11_said
        rw [e_faultAt n7 n9 hR hf, zc1_s, zoc_s, e_isIn, zc1_s, if_pos (by rw [t01]; simp only [Int32.reduceToInt]; omega)]
      · unfold f12_said
        rw [m_isFault (n := gN σ 1) n8 n9, zc1_s, if_neg (by rw [t01]; omega), m_isCrew, zc1_s, if_pos (by rw [t01]; omega)]
  · refine Ok2.same h' (r := -1) ?_ ?_
    · unfold f11_said
      rw [e_faultAt_o n7 n9 hv, zc1_s, zoc_n]
    · unfold f12_said
      rw [m_isFault (n := gN σ 1) n8 n9, zc1_s, if_pos (by rw [t01]; exact hv)]
