def pjb (σ : zSt) (f i : Nat) : Bool := gI σ 1346 0 i == nI f
theorem e_hasJob {σ : zSt} (h : Inv σ) {f : Nat} (hf : f < mF σ) : f0_has f σ = some (b01 (zan (pjb σ f) (jbn σ))) := by
  obtain ⟨d1, d2, d3, d4, d5, -⟩ := h.2.2.2.2.2.2.2.2.2.1
  have hN := (N_f h).2.2
  unfold f0_has
  rw [zan_first, lfirst (f0_has_L2 f σ) (some 0) (pjb σ f) (fun _ => some 1) (jbn σ) (by omega) (fun n i hi => ?_) (fun n => ?_) (zfuel_pos (by omega))]
  · cases zfirst (pjb σ f) 0 (jbn σ) <;> rfl
  · obtain ⟨g, g1, g2, g3, g4⟩ := d5 i hi
    rw [← mF_e h] at g1
    rw [f0_has_L2, d3, if_neg (zn_nle hi (by omega)), zix_s (show i < 7 by omega) (by decide), zlt_s, g3, zlt_s]
    unfold pjb
    rw [g2]
    by_cases e : g = f
    · rw [if_pos (by rw [e]), if_pos (by rw [e]; exact beq_self_eq_true _)]
    · rw [if_neg (by rw [some_eq]; exact e), if_neg]
      rw [beq_iff_eq, nI_inj (by omega) (by omega)]
      exact e
  · rw [f0_has_L2, d3, if_pos (zn_rle _)]
theorem m_hasJob {s : zSt} {f N : Nat} (hN : gI s 12 0 47 = nI N) (h7 : N ≤ 7) (a : Bool) (K : Int32 → Option (Int32 × zSt)) : f12_job_L27 (nI f) s K zfuel (b01 a) 0 = K (b01 (a || zan (pjb s f) N)) := by
  have key : ∀ d i m, i + d = N → d < m → f12_job_L27 (nI f) s K m (b01 (a || zan (pjb s f) i)) (nI i) = K (b01 (a || zan (pjb s f) N)) := by
    intro d
    induction d with
    | zero =>
      intro i m hi hm
      obtain ⟨m, rfl⟩ : ∃ q, m = q + 1 := ⟨m - 1, by omega⟩
      obtain rfl : i = N := by omega
      rw [f12_job_L27, hN, if_pos (zn_rle _)]
    | succ d ih =>
      intro i m hi hm
      obtain ⟨m, rfl⟩ : ∃ q, m = q + 1 := ⟨m - 1, by omega⟩
      rw [← ih (i + 1) m (by omega) (by omega), f12_job_L27, hN, if_neg (zn_nle (show i < N by omega) (by omega)), zlt_s, zlt_s, zix_s (show i < 7 by omega) (by decide), nI_suc i (by omega)]
      show _ = f12_job_L27 (nI f) s K m (b01 (a || (zan (pjb s f) i || pjb s f i))) (nI (i + 1))
      rw [← Bool.or_assoc]
      cases (a || zan (pjb s f) i)
      · rw [if_pos (show b01 false = 0 from rfl)]
        unfold pjb
        by_cases e : gI s 1346 0 i = nI f
        · rw [if_pos e, e, beq_self_eq_true]; rfl
        · rw [if_neg e, show (gI s 1346 0 i == nI f) = false by rw [beq_eq_false_iff_ne]; exact e]; rfl
      · rfl
  have := key N 0 zfuel (by omega) (zfuel_pos (by omega))
  rw [show (a || zan (pjb s f) 0) = a from Bool.or_false a] at this
  exact this
theorem m_hasJob0 {s : zSt} {f N : Nat} (hN : gI s 12 0 47 = nI N) (h7 : N ≤ 7) (K : Int32 → Option (Int32 × zSt)) : f12_job_L27 (nI f) s K zfuel 0 0 = K (b01 (zan (pjb s f) N)) := m_hasJob hN h7 false K
theorem m_hasJob1 {s : zSt} {f N : Nat} (hN : gI s 12 0 47 = nI N) (h7 : N ≤ 7) (K : Int32 → Option (Int32 × zSt)) : f12_job_L27 (nI f) s K zfuel 1 0 = K 1 := m_hasJob hN h7 true K
theorem t_job {σ : zSt} (h : Inv σ) (v1 : Int32) : Ok2 (f11_job v1 σ) (f12_job v1) := by
  have h' := h
  have hr := RI_of h
  have hN := hr.2.2.1.2
  rcases zcase v1 (mF σ) (by omega) with ⟨f, hf, rfl, hv⟩ | hv
  · obtain ⟨d1, d2, d3, d4, d5, d6, d7, d8, d9, d10⟩ := h.2.2.2.2.2.2.2.2.2.1
    obtain ⟨s1, s2, s3, s4, s5, s6, s7, s8, s9⟩ := (A_F h hf).2.1
    have eo := (s5 (sz σ f - 1) (by omega)).2.1
    have hl := F_lt hr hf
    have cN : f4_now f σ = some (sT σ f (sz σ f - 1)) := by rw [e_now s2 ⟨s3, s4⟩, eo]
    have mN : ∀ s, RY s σ → f12_stateNow (nI f) s = some (sT σ f (sz σ f - 1)) := fun s x => by
      have hR := F_RS (RI_Y x hr) (f := f) (by rw [(RY_b x).2.2.2.2.2.2.1]; exact hf)
      rw [m_stateNow hl hR.1 ⟨hR.2.1, hR.2.2.1⟩]
      show some (sT s f (sz s f - 1)) = _
      rw [(RY_b x).1, (RY_b x).2.2.2.1]
    by_cases hp : sT σ f (sz σ f - 1) = 1
    · cases hjz : zan (pjb σ f) (jbn σ)
      · by_cases h7 : jbn σ = 7
        · refine Ok2.same h' (r := -2) ?_ ?_
          · unfold f11_job f0_add
            rw [e_fAt h hf, zc1_s, zoc_s, cN, zc1_s, if_pos hp, e_hasJob h hf, hjz, zc1_s, if_pos (show b01 false = 0 from rfl), d3, h7, if_neg (show ¬ nI 7 < 7 by decide), zc2_s, if_pos rfl]
          · unfold f12_job
            rw [m_isF hr, zc1_s, if_neg (by rw [t01]; omega), mN σ RY.rf, zc1_s, if_pos hp, zlt_s, m_hasJob0 d2 (by omega), hjz, if_pos (show b01 false = 0 from rfl), d2, h7, if_pos (show nI 7 = 7 from rfl)]
        · obtain ⟨n, hn⟩ : ∃ n, n = jbn σ := ⟨_, rfl⟩
          rw [← hn] at d2 d3 d4 d5 d6 h7
          have hpd : pD σ f := by
            have hF := (A_F h hf).1
            obtain ⟨a1, a2, a3, a4, a5, a6, a7, a8, a9, a10, a11, a12, a13, a14, a15, a16, a17, a18, a19, a20, a21, a22, a23, a24, a25⟩ := hF
            rcases a23 with e | e
            · exact e
            · rw [s9 hp] at e
              exact absurd e (by decide)
          obtain ⟨S1, hS1⟩ : ∃ S1, S1 = pI (pR σ 101 0 n (some f)) 0 0 2 (nI (n + 1)) := ⟨_, rfl⟩
          have x1 : RY S1 σ := by rw [hS1]; exact RY.I (RY.R RY.rf) (by omega)
          have q2 : gI S1 12 0 47 = nI n := by rw [hS1]; exact d2
          have q8 : ∀ i, gI S1 1346 0 i = gI σ 1346 0 i := fun i => by rw [hS1]; rfl
          have qN : RI S1 := RI_Y x1 hr
          have qm : mF S1 = mF σ := (RY_b x1).2.2.2.2.2.2.1
          have hj2 : zan (pjb S1 f) n = false := by
            rw [← hjz, hn, show pjb S1 f = pjb σ f by funext i; unfold pjb; rw [q8]]
          refine ⟨nI (n + 1), S1, pI (pI S1 1346 0 n (nI f)) 12 0 47 (nI (n + 1)), ?_, by rw [hS1]; exact fr_zOK_I (fr_zOK_R (fun _ => rfl) h.1), ?_, ?_⟩
          · unfold f11_job f0_add
            rw [e_fAt h hf, zc1_s, zoc_s, cN, zc1_s, if_pos hp, e_hasJob h hf, hjz, zc1_s, if_pos (show b01 false = 0 from rfl), d3, if_pos (show nI n < 7 from nI_lt (show n < 7 by omega) (by decide)), zix_s (show n < 7 by omega) (by decide), zlt_s, gI_R, d3, nI_suc n (by omega), zlt_s, zc2_s]
            dsimp only
            rw [if_neg (by decide), ← hS1]
            congr 1
            rw [hS1, gI_pI, if_pos ⟨rfl, rfl, rfl⟩]
          · unfold f12_job
            rw [m_isF qN, qm, zc1_s, if_neg (by rw [t01]; omega), mN S1 x1, zc1_s, if_pos hp, zlt_s, m_hasJob0 q2 (by omega), hj2, if_pos (show b01 false = 0 from rfl), q2, if_neg (show ¬ nI n = 7 by show ¬ nI n = nI 7; rw [nI_inj (by omega) (by decide)]; exact h7), zix_s (show n < 7 by omega) (by decide), zlt_s, gI_ne (show 12 ≠ 1346 by decide), q2, nI_suc n (by omega), zlt_s, gI_pI, if_pos ⟨rfl, rfl, rfl⟩]
          · have hfg : f < gN σ 1 := by rw [← mF_e h]; exact hf
            have hN1 : gN σ 1 ≤ 200 := by rw [← mF_e h]; exact hN
            obtain ⟨hO, hC, hN, hH, hK, hF, hS, hL, hG, hD, hT, hX, hZ⟩ := h
            subst hS1
            refine ⟨fr_zOK_I (fr_zOK_I (fr_zOK_I (fr_zOK_R (fun _ => rfl) hO))), (by repeat (first | assumption | refine fr_vC_I rfl ?_ | refine fr_vN_I rfl ?_ | refine fr_vH_I rfl ?_ | refine fr_vK_I rfl ?_ | refine fr_vF_I rfl ?_ | refine fr_vS_I rfl ?_ | refine fr_vL_I rfl ?_ | refine fr_vG_I rfl ?_ | refine fr_vD_I rfl ?_ | refine fr_vT_I rfl ?_ | refine fr_vX_I rfl ?_ | refine fr_vZ_I rfl ?_ | refine fr_vL_R ?_ | refine fr_vC_R rfl ?_ | refine fr_vN_R rfl ?_ | refine fr_vH_R rfl ?_ | refine fr_vK_R rfl ?_ | refine fr_vF_R rfl ?_ | refine fr_vS_R rfl ?_ | refine fr_vG_R rfl ?_ | refine fr_vT_R rfl ?_ | refine fr_vX_R rfl ?_ | refine fr_vZ_R rfl ?_ | refine fr_vD_R (by decide) ?_)), (by repeat (first | assumption | refine fr_vC_I rfl ?_ | refine fr_vN_I rfl ?_ | refine fr_vH_I rfl ?_ | refine fr_vK_I rfl ?_ | refine fr_vF_I rfl ?_ | refine fr_vS_I rfl ?_ | refine fr_vL_I rfl ?_ | refine fr_vG_I rfl ?_ | refine fr_vD_I rfl ?_ | refine fr_vT_I rfl ?_ | refine fr_vX_I rfl ?_ | refine fr_vZ_I rfl ?_ | refine fr_vL_R ?_ | refine fr_vC_R rfl ?_ | refine fr_vN_R rfl ?_ | refine fr_vH_R rfl ?_ | refine fr_vK_R rfl ?_ | refine fr_vF_R rfl ?_ | refine fr_vS_R rfl ?_ | refine fr_vG_R rfl ?_ | refine fr_vT_R rfl ?_ | refine fr_vX_R rfl ?_ | refine fr_vZ_R rfl ?_ | refine fr_vD_R (by decide) ?_)), (by repeat (first | assumption | refine fr_vC_I rfl ?_ | refine fr_vN_I rfl ?_ | refine fr_vH_I rfl ?_ | refine fr_vK_I rfl ?_ | refine fr_vF_I rfl ?_ | refine fr_vS_I rfl ?_ | refine fr_vL_I rfl ?_ | refine fr_vG_I rfl ?_ | refine fr_vD_I rfl ?_ | refine fr_vT_I rfl ?_ | refine fr_vX_I rfl ?_ | refine fr_vZ_I rfl ?_ | refine fr_vL_R ?_ | refine fr_vC_R rfl ?_ | refine fr_vN_R rfl ?_ | refine fr_vH_R rfl ?_ | refine fr_vK_R rfl ?_ | refine fr_vF_R rfl ?_ | refine fr_vS_R rfl ?_ | refine fr_vG_R rfl ?_ | refine fr_vT_R rfl ?_ | refine fr_vX_R rfl ?_ | refine fr_vZ_R rfl ?_ | refine fr_vD_R (by decide) ?_)), (by repeat (first | assumption | refine fr_vC_I rfl ?_ | refine fr_vN_I rfl ?_ | refine fr_vH_I rfl ?_ | refine fr_vK_I rfl ?_ | refine fr_vF_I rfl ?_ | refine fr_vS_I rfl ?_ | refine fr_vL_I rfl ?_ | refine fr_vG_I rfl ?_ | refine fr_vD_I rfl ?_ | refine fr_vT_I rfl ?_ | refine fr_vX_I rfl ?_ | refine fr_vZ_I rfl ?_ | refine fr_vL_R ?_ | refine fr_vC_R rfl ?_ | refine fr_vN_R rfl ?_ | refine fr_vH_R rfl ?_ | refine fr_vK_R rfl ?_ | refine fr_vF_R rfl ?_ | refine fr_vS_R rfl ?_ | refine fr_vG_R rfl ?_ | refine fr_vT_R rfl ?_ | refine fr_vX_R rfl ?_ | refine fr_vZ_R rfl ?_ | refine fr_vD_R (by decide) ?_)), (by repeat (first | assumption | refine fr_vC_I rfl ?_ | refine fr_vN_I rfl ?_ | refine fr_vH_I rfl ?_ | refine fr_vK_I rfl ?_ | refine fr_vF_I rfl ?_ | refine fr_vS_I rfl ?_ | refine fr_vL_I rfl ?_ | refine fr_vG_I rfl ?_ | refine fr_vD_I rfl ?_ | refine fr_vT_I rfl ?_ | refine fr_vX_I rfl ?_ | refine fr_vZ_I rfl ?_ | refine fr_vL_R ?_ | refine fr_vC_R rfl ?_ | refine fr_vN_R rfl ?_ | refine fr_vH_R rfl ?_ | refine fr_vK_R rfl ?_ | refine fr_vF_R rfl ?_ | refine fr_vS_R rfl ?_ | refine fr_vG_R rfl ?_ | refine fr_vT_R rfl ?_ | refine fr_vX_R rfl ?_ | refine fr_vZ_R rfl ?_ | refine fr_vD_R (by decide) ?_)), (by repeat (first | assumption | refine fr_vC_I rfl ?_ | refine fr_vN_I rfl ?_ | refine fr_vH_I rfl ?_ | refine fr_vK_I rfl ?_ | refine fr_vF_I rfl ?_ | refine fr_vS_I rfl ?_ | refine fr_vL_I rfl ?_ | refine fr_vG_I rfl ?_ | refine fr_vD_I rfl ?_ | refine fr_vT_I rfl ?_ | refine fr_vX_I rfl ?_ | refine fr_vZ_I rfl ?_ | refine fr_vL_R ?_ | refine fr_vC_R rfl ?_ | refine fr_vN_R rfl ?_ | refine fr_vH_R rfl ?_ | refine fr_vK_R rfl ?_ | refine fr_vF_R rfl ?_ | refine fr_vS_R rfl ?_ | refine fr_vG_R rfl ?_ | refine fr_vT_R rfl ?_ | refine fr_vX_R rfl ?_ | refine fr_vZ_R rfl ?_ | refine fr_vD_R (by decide) ?_)), (by repeat (first | assumption | refine fr_vC_I rfl ?_ | refine fr_vN_I rfl ?_ | refine fr_vH_I rfl ?_ | refine fr_vK_I rfl ?_ | refine fr_vF_I rfl ?_ | refine fr_vS_I rfl ?_ | refine fr_vL_I rfl ?_ | refine fr_vG_I rfl ?_ | refine fr_vD_I rfl ?_ | refine fr_vT_I rfl ?_ | refine fr_vX_I rfl ?_ | refine fr_vZ_I rfl ?_ | refine fr_vL_R ?_ | refine fr_vC_R rfl ?_ | refine fr_vN_R rfl ?_ | refine fr_vH_R rfl ?_ | refine fr_vK_R rfl ?_ | refine fr_vF_R rfl ?_ | refine fr_vS_R rfl ?_ | refine fr_vG_R rfl ?_ | refine fr_vT_R rfl ?_ | refine fr_vX_R rfl ?_ | refine fr_vZ_R rfl ?_ | refine fr_vD_R (by decide) ?_)), (by repeat (first | assumption | refine fr_vC_I rfl ?_ | refine fr_vN_I rfl ?_ | refine fr_vH_I rfl ?_ | refine fr_vK_I rfl ?_ | refine fr_vF_I rfl ?_ | refine fr_vS_I rfl ?_ | refine fr_vL_I rfl ?_ | refine fr_vG_I rfl ?_ | refine fr_vD_I rfl ?_ | refine fr_vT_I rfl ?_ | refine fr_vX_I rfl ?_ | refine fr_vZ_I rfl ?_ | refine fr_vL_R ?_ | refine fr_vC_R rfl ?_ | refine fr_vN_R rfl ?_ | refine fr_vH_R rfl ?_ | refine fr_vK_R rfl ?_ | refine fr_vF_R rfl ?_ | refine fr_vS_R rfl ?_ | refine fr_vG_R rfl ?_ | refine fr_vT_R rfl ?_ | refine fr_vX_R rfl ?_ | refine fr_vZ_R rfl ?_ | refine fr_vD_R (by decide) ?_)), ?_, (by repeat (first | assumption | refine fr_vC_I rfl ?_ | refine fr_vN_I rfl ?_ | refine fr_vH_I rfl ?_ | refine fr_vK_I rfl ?_ | refine fr_vF_I rfl ?_ | refine fr_vS_I rfl ?_ | refine fr_vL_I rfl ?_ | refine fr_vG_I rfl ?_ | refine fr_vD_I rfl ?_ | refine fr_vT_I rfl ?_ | refine fr_vX_I rfl ?_ | refine fr_vZ_I rfl ?_ | refine fr_vL_R ?_ | refine fr_vC_R rfl ?_ | refine fr_vN_R rfl ?_ | refine fr_vH_R rfl ?_ | refine fr_vK_R rfl ?_ | refine fr_vF_R rfl ?_ | refine fr_vS_R rfl ?_ | refine fr_vG_R rfl ?_ | refine fr_vT_R rfl ?_ | refine fr_vX_R rfl ?_ | refine fr_vZ_R rfl ?_ | refine fr_vD_R (by decide) ?_)), (by repeat (first | assumption | refine fr_vC_I rfl ?_ | refine fr_vN_I rfl ?_ | refine fr_vH_I rfl ?_ | refine fr_vK_I rfl ?_ | refine fr_vF_I rfl ?_ | refine fr_vS_I rfl ?_ | refine fr_vL_I rfl ?_ | refine fr_vG_I rfl ?_ | refine fr_vD_I rfl ?_ | refine fr_vT_I rfl ?_ | refine fr_vX_I rfl ?_ | refine fr_vZ_I rfl ?_ | refine fr_vL_R ?_ | refine fr_vC_R rfl ?_ | refine fr_vN_R rfl ?_ | refine fr_vH_R rfl ?_ | refine fr_vK_R rfl ?_ | refine fr_vF_R rfl ?_ | refine fr_vS_R rfl ?_ | refine fr_vG_R rfl ?_ | refine fr_vT_R rfl ?_ | refine fr_vX_R rfl ?_ | refine fr_vZ_R rfl ?_ | refine fr_vD_R (by decide) ?_)), (by repeat (first | assumption | refine fr_vC_I rfl ?_ | refine fr_vN_I rfl ?_ | refine fr_vH_I rfl ?_ | refine fr_vK_I rfl ?_ | refine fr_vF_I rfl ?_ | refine fr_vS_I rfl ?_ | refine fr_vL_I rfl ?_ | refine fr_vG_I rfl ?_ | refine fr_vD_I rfl ?_ | refine fr_vT_I rfl ?_ | refine fr_vX_I rfl ?_ | refine fr_vZ_I rfl ?_ | refine fr_vL_R ?_ | refine fr_vC_R rfl ?_ | refine fr_vN_R rfl ?_ | refine fr_vH_R rfl ?_ | refine fr_vK_R rfl ?_ | refine fr_vF_R rfl ?_ | refine fr_vS_R rfl ?_ | refine fr_vG_R rfl ?_ | refine fr_vT_R rfl ?_ | refine fr_vX_R rfl ?_ | refine fr_vZ_R rfl ?_ | refine fr_vD_R (by decide) ?_))⟩
            have jb : jbn (pI (pI (pI (pR σ 101 0 n (some f)) 0 0 2 (nI (n + 1))) 1346 0 n (nI f)) 12 0 47 (nI (n + 1))) = n + 1 := by
              unfold jbn nT
              rw [gI_pI, if_pos ⟨rfl, rfl, rfl⟩, nI_ti (by omega)]
              omega
            have pl : pln (pI (pI (pI (pR σ 101 0 n (some f)) 0 0 2 (nI (n + 1))) 1346 0 n (nI f)) 12 0 47 (nI (n + 1))) = pln σ := rfl
            unfold vD
            rw [jb, pl]
            refine ⟨d1, ?_, ?_, by omega, fun i hi => ?_, fun i j g hi hj e1 e2 => ?_, d7, ?_, d9, d10⟩
            · simp [gI_pI]
            · simp [gI_pI]
            · by_cases e : i = n
              · subst e
                refine ⟨f, hfg, ?_, ?_, hpd⟩
                · simp [gI_pI]
                · simp [gR_I, gR_pR]
              · obtain ⟨g, g1, g2, g3, g4⟩ := d5 i (by omega)
                refine ⟨g, g1, ?_, ?_, g4⟩
                · rw [← g2]; simp [gI_pI, gI_R, e]
                · rw [← g3]; simp [gR_I, gR_pR, e]
            · have ev : ∀ i, i < n + 1 → gI (pI (pI (pI (pR σ 101 0 n (some f)) 0 0 2 (nI (n + 1))) 1346 0 n (nI f)) 12 0 47 (nI (n + 1))) 1346 0 i = if i = n then nI f else gI σ 1346 0 i := fun i _ => by simp [gI_pI, gI_R]
              rw [ev i hi] at e1
              rw [ev j hj] at e2
              have old : ∀ i, i < n → ¬ gI σ 1346 0 i = nI f := fun i hi e => by
                have hz := (zan_iff (p := pjb σ f) n).mpr ⟨i, hi, by unfold pjb; rw [e]; exact beq_self_eq_true _⟩
                rw [hn] at hz
                rw [hjz] at hz
                cases hz
              by_cases ei : i = n
              · by_cases ej : j = n
                · omega
                · rw [if_pos ei] at e1
                  rw [if_neg ej, ← e1] at e2
                  exact absurd e2 (old j (by omega))
              · by_cases ej : j = n
                · rw [if_pos ej] at e2
                  rw [if_neg ei, ← e2] at e1
                  exact absurd e1 (old i (by omega))
                · rw [if_neg ei] at e1
                  rw [if_neg ej] at e2
                  exact d6 i j g (by omega) (by omega) e1 e2
            · exact d8
      · refine Ok2.same h' (r := -3) ?_ ?_
        · unfold f11_job
          rw [e_fAt h hf, zc1_s, zoc_s, cN, zc1_s, if_pos hp, e_hasJob h hf, hjz, zc1_s, if_neg (by decide)]
        · unfold f12_job
          rw [m_isF hr, zc1_s, if_neg (by rw [t01]; omega), mN σ RY.rf, zc1_s, if_pos hp, zlt_s, m_hasJob0 d2 (by omega), hjz, if_neg (show ¬ b01 true = 0 by decide)]
    · refine Ok2.same h' (r := -3) ?_ ?_
      · unfold f11_job
        rw [e_fAt h hf, zc1_s, zoc_s, cN, zc1_s, if_neg hp]
      · unfold f12_job
        rw [m_isF hr, zc1_s, if_neg (by rw [t01]; omega), mN σ RY.rf, zc1_s, if_neg hp, zlt_s, m_hasJob1 d2 (by omega), if_neg (show ¬ (1 : Int32) = 0 by decide)]
  · refine Ok2.same h' (r := -1) ?_ ?_
    · unfold f11_job
      rw [e_fAt_o h hv, zc1_s, zoc_n]
    · unfold f12_job
      rw [m_isF hr, zc1_s, if_pos (by rw [t01]; exact hv)]
