/-! judge, both sides -/
noncomputable def chg (σ : zSt) (f : Nat) : Int32 := match dmg σ f with
  | none => -4
  | some g => dcr σ f g
theorem e_chg {σ : zSt} (h : Inv σ) {f : Nat} (hf : f < mF σ) : f11_chargedCrew f σ = some (chg σ f) := by
  rw [e_chargedCrew h hf]
  unfold chg
  cases dmg σ f <;> rfl
noncomputable def crw (σ : zSt) (f : Nat) : Int32 := match dmg σ f with
  | none => gI σ 1309 0 (10 * hm σ f + nT (gI σ 1314 0 (kd σ f)))
  | some g => dcr σ f g
theorem dcr_in {σ : zSt} (h : RI σ) {f g : Nat} (e : dmg σ f = some g) : 0 ≤ (dcr σ f g).toInt ∧ (dcr σ f g).toInt ≤ 9 := by
  obtain ⟨h1, h2⟩ := dml_lt (mF σ) g e
  have hS := F_RS h h1
  rcases lsp_in (T := sT σ g) (D := sD σ g) (a := dla σ f) (b := dlb σ f) (sz σ g) with h3 | ⟨j, h3, h4, h5⟩
  · exact absurd h3 h2
  · have h4' : dx σ f g = nI j := h4
    have e9 : dcr σ f g = sC σ g j := by
      unfold dcr
      rw [h4']
      unfold atp nT
      rw [nI_ti (by have := hS.2.2.1; omega), if_pos (by omega)]
      rfl
    rw [e9]
    exact (hS.2.2.2.1 j h3).2.1 h5
theorem crw_in {σ : zSt} (h : RI σ) {f : Nat} (hf : f < mF σ) : crw σ f = -1 ∨ (0 ≤ (crw σ f).toInt ∧ (crw σ f).toInt ≤ 9) := by
  obtain ⟨k1, k2, k3⟩ := F_hm h hf
  obtain ⟨d1, d2, d3⟩ := F_kd h hf
  have ht := (h.2.2.2.2.2.2 _ d2).1
  have hb := (h.2.2.2.2.2.1 _ k2).2.2.2.2.2.2 (nT (gI σ 1314 0 (kd σ f))) (by have h1 := ht.1; have h2 := ht.2; unfold nT; omega)
  have h1 := hb.1
  have h2 := hb.2
  have crn : dmg σ f = none → crw σ f = gI σ 1309 0 (10 * hm σ f + nT (gI σ 1314 0 (kd σ f))) := fun e => by
    unfold crw
    rw [e]
  have crs : ∀ g, dmg σ f = some g → crw σ f = dcr σ f g := fun g e => by
    unfold crw
    rw [e]
  cases e : dmg σ f with
  | none =>
    rw [crn e]
    by_cases q : gI σ 1309 0 (10 * hm σ f + nT (gI σ 1314 0 (kd σ f))) = -1
    · exact Or.inl q
    · right
      rw [i_eq] at q
      have hm1 : (-1 : Int32).toInt = -1 := by decide
      omega
  | some g =>
    rw [crs g e]
    exact Or.inr (dcr_in h e)
/-- the class's facts -/
noncomputable def cfS (σ : zSt) (f : Nat) : zSt := pI (pI (pI (pI (pI (pI (pI (pI (pI σ 700 0 0 (fct σ f 0)) 700 0 1 (fct σ f 1)) 700 0 2 (fct σ f 2)) 700 0 3 (fct σ f 3)) 700 0 4 (fct σ f 4)) 700 0 5 (fct σ f 5)) 700 0 6 (fct σ f 6)) 700 0 7 (fct σ f 7)) 700 0 8 (fct σ f 8)
theorem cfS_ch (σ : zSt) (f : Nat) : Ch (cfS σ f) σ := ((((((((Ch.rf.I rfl).I rfl).I rfl).I rfl).I rfl).I rfl).I rfl).I rfl).I rfl
theorem cfS_ne (σ : zSt) (f : Nat) {t : Nat} (h : t ≠ 700) : gI (cfS σ f) t = gI σ t := by
  unfold cfS
  rw [gI_ne h, gI_ne h, gI_ne h, gI_ne h, gI_ne h, gI_ne h, gI_ne h, gI_ne h, gI_ne h]
theorem cfS_at (σ : zSt) (f : Nat) : ∀ j, j < 9 → gI (cfS σ f) 700 0 j = fct σ f j := by
  intro j hj
  unfold cfS
  rw [gI_pI, gI_pI, gI_pI, gI_pI, gI_pI, gI_pI, gI_pI, gI_pI, gI_pI]
  have hj' : j = 0 ∨ j = 1 ∨ j = 2 ∨ j = 3 ∨ j = 4 ∨ j = 5 ∨ j = 6 ∨ j = 7 ∨ j = 8 := by omega
  rcases hj' with rfl | rfl | rfl | rfl | rfl | rfl | rfl | rfl | rfl <;> rfl
theorem Ch.exR {s σ : zSt} (h : Ch s σ) {t i k : Nat} {v : Option Nat} : Ch (pR s t i k v) (pR σ t i k v) := by
  have hR : gR (pR s t i k v) = gR (pR σ t i k v) := by
    funext a b c
    rw [gR_pR, gR_pR, h.2.2.1]
  exact ⟨Inv_cg (s := pR s t i k v) (σ := pR σ t i k v) h.2.1 hR h.2.2.2.1 h.2.2.2.2, h.2.1, hR, h.2.2.2.1, h.2.2.2.2⟩
theorem e_decide {σ : zSt} (h : Inv σ) {f : Nat} (hf : f < mF σ) : ∃ w : Int32 × Int32 × Int32 × Int32, 0 ≤ w.2.2.1.toInt ∧ (∃ o s, f11_decide f σ = some ((), s) ∧ Ch s (pR σ 6 0 5 o) ∧ V4 s 6 1 w) ∧ (∀ s1, RY s1 σ → ∃ s2, f12_judged (nI f) s1 = some ((), s2) ∧ Ch s2 s1 ∧ V4 s2 12 78 w) := by
  have hr := RI_of h
  obtain ⟨k1, k2, k3⟩ := F_hm hr hf
  obtain ⟨d1, d2, d3⟩ := F_kd hr hf
  have hl := F_lt hr hf
  obtain ⟨r1, r2, r3, r4⟩ := F_R h hf
  obtain ⟨i1, i2, i3, i4, i5, i6, i7, -⟩ := F_I h hf
  have a := A_H h k2
  have a4 : gI σ 5 (hm σ f) 4 = gI σ 1305 0 (hm σ f) := a.2.2.2.2.2.1
  have b4 : btw (-1) (gI σ 1305 0 (hm σ f)) 9999 := (hr.2.2.2.2.2.1 _ k2).2.2.1
  have ck := e_hasKey (σ := σ) (i := hm σ f) (by rw [a4]; exact b4)
  rw [a4] at ck
  have q6 := (N_q h).1
  have self : pR σ 6 0 5 (gR σ 6 0 5) = σ := by
    have e : zup σ.2.2.1 6 0 5 (gR σ 6 0 5) = σ.2.2.1 := by
      funext x y z
      unfold zup
      by_cases c : x = 6 ∧ y = 0 ∧ z = 5
      · rw [if_pos c, c.1, c.2.1, c.2.2]; rfl
      · rw [if_neg c]
    unfold pR
    rw [e]
  have hcr := crw_in hr hf
  -- the reference's first steps
  have front : ∀ s1, RY s1 σ → ∃ s7, Ch s7 s1 ∧ RY s7 σ ∧ gI s7 12 0 78 = 0 ∧ gI s7 12 0 79 = 0 ∧ gI s7 12 0 80 = prc σ f ∧ gI s7 12 0 81 = -1 ∧ f12_judged (nI f) s1 = if (gI σ 1305 0 (hm σ f)) < 0 then (some ((), s7)) else if (gI σ 1305 0 (hm σ f)) ≤ (gI σ 1322 0 f) then (zc2 (some (o2i (dmg σ f), pI s7 12 0 56 (ocr σ f (dmg σ f) (gI s7 12 0 56)))) fun r12 s13 =>
        if frc σ 0 (hm σ f) (qday σ) < 0 then (jdK (nI f) (nI (hm σ f)) (prc σ f) (frc σ 0 (hm σ f) (qday σ)) r12 s13) else
        zc2 (f12_nameFault (nI f) r12 s13) fun _ s80 =>
        zix (frc σ 0 (hm σ f) (qday σ)) 20 fun m81 =>
        zc2 (f12_readWarranty (160 * (frc σ 0 (hm σ f) (qday σ))) (gI s80 1351 0 m81) s80) fun _ s83 =>
        jdK (nI f) (nI (hm σ f)) (prc σ f) (frc σ 0 (hm σ f) (qday σ)) r12 s83) else some ((), s7) := fun s1 x1 => by
    have hr1 := RI_Y x1 hr
    have mf1 : f < mF s1 := by rw [(RY_b x1).2.2.2.2.2.2.1]; exact hf
    refine ⟨pI (pI (pI (pI s1 12 0 78 0) 12 0 79 0) 12 0 80 (prc σ f)) 12 0 81 (-1), (((Ch.rf.I rfl).I rfl).I rfl).I rfl, ?_, ?_, ?_, ?_, gI_at', ?_⟩
    · exact (((x1.I (by omega)).I (by omega)).I (by omega)).I (by omega)
    · rw [gI_nk (by decide), gI_nk (by decide), gI_nk (by decide), gI_at]
    · rw [gI_nk (by decide), gI_nk (by decide), gI_at]
    · rw [gI_nk (by decide), gI_at]
    · have x7 : RY (pI (pI (pI (pI s1 12 0 78 0) 12 0 79 0) 12 0 80 (prc σ f)) 12 0 81 (-1)) σ := (((x1.I (by omega)).I (by omega)).I (by omega)).I (by omega)
      have fr := m_force (σ := pI (pI (pI (pI s1 12 0 78 0) 12 0 79 0) 12 0 80 (prc σ f)) 12 0 81 (-1)) (w := 0) (h := hm σ f) (by decide) k3 (by
        have := (X_at h (w := 0) (by decide)).1
        unfold txn at this ⊢
        rw [x7.1 1354 (by omega) (by omega)]
        exact this) (by
        have := (X_at h (w := 0) (by decide)).2.2.1
        unfold txn at this ⊢
        rw [x7.1 1354 (by omega) (by omega)]
        exact this) (qday σ)
      rw [RY_frc x7] at fr
      have dm := m_damageBy (RI_Y x7 hr) (by rw [x7.2 40 (by omega)]; exact h_span h) (f := f) (by rw [(RY_b x7).2.2.2.2.2.2.1]; exact hf)
      have eo : ∀ s, ocr s f = fun o c => match o with | none => c | some g => dcr s f g := fun s => rfl
      rw [(RY_dmg x7).1, eo, (RY_dmg x7).2] at dm
      have mp := m_priceOf hr1 mf1
      rw [RY_prc x1] at mp
      rw [judged_eq, zix_s hl (by decide), x1.1 1318 (by omega) (by omega), k1, zlt_s, mp, zc1_s, zlt_s, zlt_s, zlt_s, zlt_s, zix_s k3 (by decide), zix_s hl (by decide), zix_s k3 (by decide), x7.1 1305 (by omega) (by omega), x7.1 1322 (by omega) (by omega), x7.2 0 (by omega)]
      rw [show f12_force 0 (nI (hm σ f)) (gI σ 12 0 0) (pI (pI (pI (pI s1 12 0 78 0) 12 0 79 0) 12 0 80 (prc σ f)) 12 0 81 (-1)) = some (frc σ 0 (hm σ f) (qday σ)) from fr, zc1_s, dm]
      rfl
  by_cases ahead : (gI σ 1305 0 (hm σ f)) < 0 ∨ ¬ (gI σ 1305 0 (hm σ f)) ≤ (gI σ 1322 0 f)
  · refine ⟨(0, 0, prc σ f, -1), Int.le_trans (by decide) (prc_in hr hf).1, ?_, fun s1 x1 => ?_⟩
    · obtain ⟨s, q1, q2, q3⟩ := c_set 0 0 (prc σ f) (-1) σ
      refine ⟨gR σ 6 0 5, s, ?_, by rw [self]; exact q2, q3⟩
      have hh : f1_isAheadOfKey f σ = some 1 := by
        unfold f1_isAheadOfKey
        rw [r3, zlt_s, zoc_s, ck, zc1_s, zlt_s]
        by_cases c : 0 ≤ (gI σ 1305 0 (hm σ f)).toInt
        · rw [if_pos c, if_neg (by decide), zlt_s, zoc_s, a4, i5, if_neg (by
            rcases ahead with q | q
            · rw [i_lt] at q
              simp only [Int32.reduceToInt] at q
              omega
            · exact q)]
        · rw [if_neg c, if_pos rfl]
      unfold f11_decide
      rw [hh, zc1_s, if_neg (by decide), e_price h hf, zc1_s]
      unfold f6_builderPaysAll
      rw [q1, zc2_s, zc2_s]
    · obtain ⟨s7, c1, c2, c3, c4, c5, c6, c7⟩ := front s1 x1
      refine ⟨s7, ?_, c1, c3, c4, c5, c6⟩
      rw [c7]
      by_cases c : (gI σ 1305 0 (hm σ f)) < 0
      · rw [if_pos c]
      · rw [if_neg c, if_neg (by rcases ahead with q | q; exact absurd q c; exact q)]
  · have n1 : ¬ (gI σ 1305 0 (hm σ f)) < 0 := fun q => ahead (Or.inl q)
    have n2 : (gI σ 1305 0 (hm σ f)) ≤ (gI σ 1322 0 f) := Classical.byContradiction fun q => ahead (Or.inr q)
    have hh : f1_isAheadOfKey f σ = some 0 := by
      unfold f1_isAheadOfKey
      have n1' : 0 ≤ (gI σ 1305 0 (hm σ f)).toInt := by
        rw [i_lt] at n1
        simp only [Int32.reduceToInt] at n1
        omega
      rw [r3, zlt_s, zoc_s, ck, zc1_s, zlt_s, if_pos n1', if_neg (by decide), zlt_s, zoc_s, a4, i5, if_pos n2]
    obtain ⟨x1', x2', x3', x4'⟩ := X_at h (w := 0) (by decide)
    have hold := e_holding h (w := 0) (by decide) k2 (qday σ)
    rcases hlp_in (p := phl σ 0 (hm σ f) (qday σ)) (txn σ 0) (by omega) with ⟨e, -⟩ | ⟨i, hi, e, -⟩
    · have ef : frc σ 0 (hm σ f) (qday σ) = -1 := e
      refine ⟨dcd4 none (prc σ f) (crw σ f), dcd4_in (prc_in hr hf) (fun _ _ _ hh => by cases hh), ?_, fun s1 x1 => ?_⟩
      · obtain ⟨s, q1, q2, q3⟩ := c_set 2 (prc σ f) 0 (-1) σ
        refine ⟨gR σ 6 0 5, s, ?_, by rw [self]; exact q2, q3⟩
        have ea : f9_at 0 (-4) σ = some none := by
          rcases e_at h (w := 0) (by decide) (-4) with ⟨j, t, hj, e4, -⟩ | ⟨-, e4⟩
          · exact absurd (show (0 : Int32) ≤ -4 by rw [e4]; exact le0 (by omega)) (by decide)
          · exact e4
        have ez : zpl (-1) = -4 := rfl
        unfold f11_decide
        rw [hh, zc1_s, if_pos rfl, r3, zlt_s, zoc_s, q6, hold, ef, ez, zc1_s, ea, zc1_s, zoc_n, e_price h hf, zc1_s]
        unfold f6_ownerPaysAll
        rw [q1, zc2_s, zc2_s]
      · obtain ⟨s7, c1, c2, c3, c4, c5, c6, c7⟩ := front s1 x1
        refine ⟨pI (pI (pI (pI s7 12 0 56 (ocr σ f (dmg σ f) (gI s7 12 0 56))) 12 0 78 2) 12 0 79 (prc σ f)) 12 0 80 0, ?_, (((c1.I rfl).I rfl).I rfl).I rfl, ?_, ?_, gI_at', ?_⟩
        · rw [c7, if_neg n1, if_pos n2, zc2_s]
          dsimp only
          rw [ef, if_pos (by decide)]
          unfold jdK
          rw [zlt_s, if_pos (by decide), zlt_s, zlt_s, zlt_s]
        · rw [gI_nk (by decide), gI_nk (by decide), gI_at]
          rfl
        · rw [gI_nk (by decide), gI_at]
          rfl
        · rw [gI_nk (by decide), gI_nk (by decide), gI_nk (by decide), gI_nk (by decide), c6]
          rfl
    · have ef : frc σ 0 (hm σ f) (qday σ) = nI i := e
      obtain ⟨t, y1, y2, y3, y4, y5, y6, y7, y8⟩ := x4' i hi
      rw [show 10 * 0 + i = i by omega] at y5 y7 y8
      have hn := y6
      generalize hN : gZ σ 1100 t = n at y5 y6 y7 y8 hn
      have hv : wrR (fun j => gI σ 1350 0 (160 * i + j)) n 0 0 0 = none := y8.1 rfl
      have RBs : ∀ s, gI s 1350 = gI σ 1350 → RB (bgT s (nI (160 * i)) (nI n)) (fun j => gI σ 1350 0 (160 * i + j)) n := fun s hs => by
        unfold RB bgT
        rw [gI_at, gI_ne (show 1348 ≠ 12 by decide), gI_ne (show 1348 ≠ 12 by decide), gI_ne (show 1350 ≠ 12 by decide), gI_ne (show 1350 ≠ 12 by decide), gI_nk (show ¬ (12 = 12 ∧ 66 = 68) by decide), gI_at, hs]
        exact ⟨rfl, hn, fun j hj => (y7 j hj).2, Or.inr ⟨160 * i, by omega, rfl, fun j _ => rfl⟩⟩
      have CSs : ∀ s, Ch s σ → gI s 700 = gI (cfS σ f) 700 → CS (pR s 6 0 5 (some t)) (fun j => gI σ 1350 0 (160 * i + j)) n (fct σ f) t := fun s hs h7 => by
        refine ⟨?_, ?_, fun j hj => ?_, fun j hj => (y7 j hj).2, hn, fun j hj => ?_⟩
        · rw [gR_pR, if_pos ⟨rfl, rfl, rfl⟩]
        · rw [gZ_pR, hs.2.2.2.2, hN]
        · rw [gI_R, hs.A (t := 1100) rfl]
          exact (y7 j hj).1
        · rw [gI_R, h7]
          exact cfS_at σ f j hj
      have C45 := CSs (cfS σ f) (cfS_ch σ f) rfl
      obtain ⟨s80, m1, m2, m3⟩ := m_nameFault hr (RY.rf (σ := σ)) hf
      obtain ⟨R, R1, R2⟩ := vd hv hn (RBs s80 (m1.2 1350 (by decide))) m2 (CS_p (CS_p C45) : CS (pI (pI (pR (cfS σ f) 6 0 5 (some t)) 6 0 6 0) 6 0 4 0) _ n (fct σ f) t) (by rw [gI_nk (by decide), gI_at]) gI_at'
      obtain ⟨s, q1, q2, q3⟩ := c_decideBy R1 C45 (prc σ f) (crw σ f) hcr
      have hR5 : ∀ l pc x, R = some (l, pc, x) → zch 2 pc = true ∧ l ≤ 1000 ∧ 0 ≤ x.toInt := fun l pc x hRs => by
        obtain ⟨sx, cx, rx⟩ := R1 _ t (CS_p (CS_p C45) : CS (pI (pI (pR (cfS σ f) 6 0 5 (some t)) 6 0 6 0) 6 0 4 0) _ n (fct σ f) t) (by rw [gI_nk (by decide), gI_at]) gI_at'
        rw [hRs] at rx
        exact rx.2.2.2.2
      refine ⟨dcd4 R (prc σ f) (crw σ f), dcd4_in (prc_in hr hf) (fun l pc x hh => (hR5 l pc x hh).2.2), ⟨some t, s, ?_, q2.tr ?_, q3⟩, fun s1 x1 => ?_⟩
      · have ea : f9_at 0 (nI i) σ = some (some t) := by
          rcases e_at h (w := 0) (by decide) (nI i) with ⟨j, t', hj, e4, e5, e6⟩ | ⟨e4, -⟩
          · rw [nI_inj (by omega) (by omega)] at e4
            rw [← e4, y2] at e5
            cases e5
            exact e6
          · exact absurd ⟨by rw [nI_ti (by omega)]; omega, by rw [nI_ti (by omega)]; omega⟩ e4
        have ez : zpl (nI i) = nI i := zpl_pos (by rw [nI_ti (by omega)]; omega)
        have ed := e_chg h hf
        obtain ⟨K, kk2, kk3, kk4, -⟩ := A_K h d2
        have ht := (hr.2.2.2.2.2.2 _ d2).1
        have et : gI σ 1314 0 (kd σ f) = nI (nT (gI σ 1314 0 (kd σ f))) := i_ofNat ht.1
        have et10 : nT (gI σ 1314 0 (kd σ f)) < 10 := by have h1 := ht.1; have h2 := ht.2; unfold nT; omega
        have cro : f5_crewOf (hm σ f) (gI (cfS σ f) 7 (kd σ f) 0) (cfS σ f) = some (gI σ 1309 0 (10 * hm σ f + nT (gI σ 1314 0 (kd σ f)))) := by
          rw [cfS_ne σ f (by decide), kk2, et, e_crewOf et10, cfS_ne σ f (by decide), ← et]
          have h611 := (a.2.2.2.2.2.2.2.2.2.2.2.2.2.2.2.2.2.2 _ et10).1
          rw [h611]
        have Iz : ∀ s, Ch s σ → f5_salesBy (hm σ f) (gI σ 1322 0 f) s = some (fct σ f 5) := fun s hs => by
          have hx := hs.ry
          have := e_salesBy (hs.1 h) (f := f) (by rw [(RY_b hx).2.2.2.2.2.2.1]; exact hf)
          rw [(RY_b hx).2.2.2.2.1, hx.1 1322 (by omega) (by omega)] at this
          rw [this]
          show some (fct s f 5) = _
          rw [RY_fct hx]
        have Gz : ∀ s, Ch s σ → f1_gaugeSays f (qday σ) s = some (fct σ f 6) := fun s hs => by
          have hx := hs.ry
          have := e_gaugeSays (hs.1 h) (f := f) (by rw [(RY_b hx).2.2.2.2.2.2.1]; exact hf) (qday σ)
          rw [RY_gsy hx] at this
          exact this
        have Pz : ∀ s, Ch s σ → f1_price f s = some (prc σ f) := fun s hs => by
          have hx := hs.ry
          have := e_price (hs.1 h) (f := f) (by rw [(RY_b hx).2.2.2.2.2.2.1]; exact hf)
          rw [RY_prc hx] at this
          exact this
        have z0 : ∀ kk : Nat → Option (Unit × zSt), zix 0 9 kk = kk 0 := fun kk => zix_s (i := 0) (by decide) (by decide) kk
        have z1 : ∀ kk : Nat → Option (Unit × zSt), zix 1 9 kk = kk 1 := fun kk => zix_s (i := 1) (by decide) (by decide) kk
        have z2 : ∀ kk : Nat → Option (Unit × zSt), zix 2 9 kk = kk 2 := fun kk => zix_s (i := 2) (by decide) (by decide) kk
        have z3 : ∀ kk : Nat → Option (Unit × zSt), zix 3 9 kk = kk 3 := fun kk => zix_s (i := 3) (by decide) (by decide) kk
        have z4 : ∀ kk : Nat → Option (Unit × zSt), zix 4 9 kk = kk 4 := fun kk => zix_s (i := 4) (by decide) (by decide) kk
        have z5 : ∀ kk : Nat → Option (Unit × zSt), zix 5 9 kk = kk 5 := fun kk => zix_s (i := 5) (by decide) (by decide) kk
        have z6 : ∀ kk : Nat → Option (Unit × zSt), zix 6 9 kk = kk 6 := fun kk => zix_s (i := 6) (by decide) (by decide) kk
        have z7 : ∀ kk : Nat → Option (Unit × zSt), zix 7 9 kk = kk 7 := fun kk => zix_s (i := 7) (by decide) (by decide) kk
        have z8 : ∀ kk : Nat → Option (Unit × zSt), zix 8 9 kk = kk 8 := fun kk => zix_s (i := 8) (by decide) (by decide) kk
        have f7 : (if chg σ f = -4 then (0 : Int32) else 1) = fct σ f 7 := by
          show _ = (match dmg σ f with | none => (0 : Int32) | some _ => 1)
          unfold chg
          cases e : dmg σ f with
          | none => rfl
          | some g =>
            have := dcr_in hr e
            show (if dcr σ f g = -4 then (0 : Int32) else 1) = 1
            rw [if_neg]
            intro e4
            rw [e4] at this
            revert this
            decide
        unfold f11_decide
        rw [hh, zc1_s, if_pos rfl, r3, zlt_s, zoc_s, q6, hold, ef, ez, zc1_s, ea, zc1_s, zoc_s, ed, zc1_s, zlt_s, zoc_s]
        rw [z0, a4, i5, zlt_s, z1, gI_ne (show 1 ≠ 700 by decide), i2, zlt_s, gR_I, gR_I, r4, zlt_s, zoc_s, z2, gI_ne (show 7 ≠ 700 by decide), gI_ne (show 7 ≠ 700 by decide), kk2, zlt_s, z3, gI_ne (show 1 ≠ 700 by decide), gI_ne (show 1 ≠ 700 by decide), gI_ne (show 1 ≠ 700 by decide), i3, zlt_s, z4, gI_ne (show 1 ≠ 700 by decide), gI_ne (show 1 ≠ 700 by decide), gI_ne (show 1 ≠ 700 by decide), gI_ne (show 1 ≠ 700 by decide), i7, zlt_s, gR_I, gR_I, gR_I, gR_I, gR_I, r3, zlt_s, zoc_s, gI_ne (show 1 ≠ 700 by decide), gI_ne (show 1 ≠ 700 by decide), gI_ne (show 1 ≠ 700 by decide), gI_ne (show 1 ≠ 700 by decide), gI_ne (show 1 ≠ 700 by decide), i5]
        rw [Iz _ (((((Ch.rf.I rfl).I rfl).I rfl).I rfl).I rfl), zc1_s, z5, zlt_s]
        rw [show gI (pI (pI (pI (pI (pI (pI σ 700 0 0 (zop_idiv (gI σ 1322 0 f - gI σ 1305 0 (hm σ f)) 360)) 700 0 1 (gI σ 1320 0 f)) 700 0 2 (gI σ 1314 0 (kd σ f))) 700 0 3 (gI σ 1321 0 f)) 700 0 4 (if gI σ 1325 0 f = 0 then 0 else 1)) 700 0 5 (fct σ f 5)) 11 0 6 = qday σ from q6]
        rw [Gz _ ((((((Ch.rf.I rfl).I rfl).I rfl).I rfl).I rfl).I rfl), zc1_s, z6, zlt_s, z7, f7, zlt_s, z8, gI_ne (show 1 ≠ 700 by decide), gI_ne (show 1 ≠ 700 by decide), gI_ne (show 1 ≠ 700 by decide), gI_ne (show 1 ≠ 700 by decide), gI_ne (show 1 ≠ 700 by decide), gI_ne (show 1 ≠ 700 by decide), gI_ne (show 1 ≠ 700 by decide), gI_ne (show 1 ≠ 700 by decide), i1, zlt_s]
        have q1' : zc1 (f1_price f (cfS σ f)) (fun r49 => zc2 (f6_decideBy t r49 (crw σ f) (cfS σ f)) fun _ s51 => some ((), s51)) = some ((), s) := by rw [Pz _ (cfS_ch σ f), zc1_s, q1, zc2_s]
        refine Eq.trans ?_ q1'
        have g1 : gR (cfS σ f) 1 f 1 = some (hm σ f) := r3
        have g4 : gR (cfS σ f) 1 f 4 = some (kd σ f) := r4
        show (zlt (fun a46 : Int32 => zc1 (f1_price f (cfS σ f)) fun r49 => zc2 (f6_decideBy t r49 a46 (cfS σ f)) fun _ s51 => some ((), s51)) fun j47 => if chg σ f = -4 then (zlt (gR (cfS σ f) 1 f 1) fun o52 => zlt (gR (cfS σ f) 1 f 4) fun o53 => zoc o53 none fun i54 => zoc o52 none fun i55 => zc1 (f5_crewOf i55 (gI (cfS σ f) 7 i54 0) (cfS σ f)) fun r56 => j47 r56) else j47 (chg σ f)) = _
        rw [zlt_s, g1, g4, zlt_s, zlt_s, zoc_s, zoc_s, cro, zc1_s]
        unfold crw chg
        cases e : dmg σ f with
        | none =>
          show (if (-4 : Int32) = -4 then _ else _) = _
          rw [if_pos rfl]
        | some g =>
          show (if dcr σ f g = -4 then _ else _) = _
          rw [if_neg]
          intro e4
          have := dcr_in hr e
          rw [e4] at this
          revert this
          decide
      · exact (cfS_ch σ f).exR
      · obtain ⟨s7, c1, c2, c3, c4, c5, c6, c7⟩ := front s1 x1
        have x13 : RY (pI s7 12 0 56 (ocr σ f (dmg σ f) (gI s7 12 0 56))) σ := c2.I (by omega)
        obtain ⟨s80', u1, u2, u3⟩ := m_nameFault hr x13 hf
        have gA : ∀ a, 1300 ≤ a → a ≤ 1354 → gI s80' a = gI σ a := fun a ha hb => by rw [u1.2 a (by omega), x13.1 a ha hb]
        obtain ⟨s', w1, w2, w3⟩ := R2 s80' (nI (160 * i)) (RBs s80' (gA 1350 (by omega) (by omega))) u2
        have gA' : ∀ a, 1300 ≤ a → a ≤ 1354 → gI s' a = gI σ a := fun a ha hb => by
          rw [w2.1.A (t := a) (by unfold nscA; rw [decide_eq_true ⟨ha, hb⟩]; rfl), gA a ha hb]
        have h56 : gI s' 12 0 56 = ocr σ f (dmg σ f) (gI s7 12 0 56) := by rw [w2.2 56 (by omega), u1.2 12 (by decide), gI_at]
        have h81 : gI s' 12 0 81 = -1 := by rw [w2.2 81 (by omega), u1.2 12 (by decide), gI_nk (by decide), c6]
        obtain ⟨s'', j1, j2, j3⟩ := m_dec (R := R) (s := s') (f := f) (h := hm σ f) (i := i) (p := prc σ f) (r12 := o2i (dmg σ f)) (cr := crw σ f) (by omega) w3 (fun l pc x hRs => ⟨(hR5 l pc x hRs).1, (hR5 l pc x hRs).2.1⟩) hcr h81 (fun s3 K hs3 hs56 => by
          rw [hs3 1320 (by decide), hs3 1314 (by decide), hs3 1309 (by decide), hs56, h56, gA' 1320 (by omega) (by omega), gA' 1314 (by omega) (by omega), gA' 1309 (by omega) (by omega)]
          have ht := (hr.2.2.2.2.2.2 _ d2).1
          have et : gI σ 1314 0 (kd σ f) = nI (nT (gI σ 1314 0 (kd σ f))) := i_ofNat ht.1
          have et10 : nT (gI σ 1314 0 (kd σ f)) < 10 := by have h1 := ht.1; have h2 := ht.2; unfold nT; omega
          unfold crw
          cases e : dmg σ f with
          | none =>
            show (if (-1 : Int32) < 0 then _ else _) = _
            rw [if_pos (by decide), zix_s hl (by decide), d1, zix_s d3 (by decide), et, nI_row10 _ _ (by omega), zix_s (show 10 * hm σ f + nT (gI σ 1314 0 (kd σ f)) < 400 by omega) (by decide), ← et]
          | some g =>
            have hg := (dml_lt (mF σ) g e).1
            have h200 := hr.2.2.1.2
            show (if nI g < 0 then _ else _) = _
            rw [if_neg (nn0 (by omega))]
            rfl)
        refine ⟨s'', ?_, j2.tr (w2.1.tr (u1.1.tr (c1.I rfl))), j3⟩
        rw [c7, if_neg n1, if_pos n2, zc2_s]
        dsimp only
        rw [ef, if_neg (nn0 (by omega)), u3, zc2_s, zix_s (show i < 20 by omega) (by decide), gA 1351 (by omega) (by omega), y5, show (160 : Int32) * nI i = nI (160 * i) from nI_mul' 160 i (by omega) (by omega) (by omega), w1, zc2_s, j1]
