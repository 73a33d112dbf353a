/-! text, both sides -/
theorem Ch_cpW {s σ : zSt} (h : Ch s σ) {t o base : Nat} {b : Nat → Int32} : ∀ n, Ch (cpW s t o base b n) (cpW σ t o base b n)
  | 0 => h
  | n + 1 => (Ch_cpW h n).ex
theorem cpW_b {s : zSt} {t o base : Nat} {b b' : Nat → Int32} : ∀ n, (∀ j, j < n → b j = b' j) → cpW s t o base b n = cpW s t o base b' n
  | 0, _ => rfl
  | n + 1, h => by
    show pI (cpW s t o base b n) t o (base + n) (b n) = pI (cpW s t o base b' n) t o (base + n) (b' n)
    rw [cpW_b n fun j hj => h j (by omega), h n (by omega)]
/-- what the class does -/
theorem e_text {σ : zSt} (h : Inv σ) {w : Nat} (hw : w < 2) {v2 : Int32} (hd : 0 ≤ v2.toInt ∧ v2.toInt < 10000) (hm : txn σ w < 10) : f11_text (nI w) v2 σ = match tfl w (fun j => gI σ 1348 0 j) (tpn σ) with
    | some p => some (-100 - nI p, pI σ 11 0 11 0)
    | none => some (nI (txn σ w), tx3 σ (gN σ 10) (tpn σ) w (txn σ w) (fun j => gI σ 1348 0 j) (qday σ) v2) := by
  have h' := h
  obtain ⟨hO, hC, hN, hH, hK, hF, hS, hL, hG, hD, hT, hX, hZ⟩ := h
  obtain ⟨x1, x2, x3, x4⟩ := X_at h' hw
  have c15 : gN σ 1100 = gN σ 10 := hC.2.2.2.2.2.2.2.2.2.2.2.2.2.2
  have cs : gN σ 11 = 1 := hC.2.2.2.2.1
  obtain ⟨p1, p2, p3, p4⟩ := hT
  have h12 : gR σ 11 0 12 = some 0 := hO 11 0 12 0 (by omega) rfl
  have h13 : gR σ 11 0 13 = some 1 := hO 11 0 13 1 (by omega) rfl
  have h10 : gR σ 11 0 10 = some 0 := hO 11 0 10 0 (by omega) rfl
  have hb : ∀ j, j < tpn σ → gI (pI σ 11 0 11 0) 1210 0 j = (fun j => gI σ 1348 0 j) j ∧ btw 0 ((fun j => gI σ 1348 0 j) j) 255 := fun j hj => by
    rw [gI_ne (by decide)]
    exact p4 j hj
  have hfl : ∀ p, tfl w (fun j => gI σ 1348 0 j) (tpn σ) = some p → p ≤ 160 := fun p hp => by
    unfold tfl at hp
    split at hp
    · have := wrR_le _ _ _ _ _ hp; omega
    · have := frR_le _ _ _ _ _ _ _ hp; omega
  have hfull : f9_isFull w σ = some 0 := by
    unfold f9_isFull
    rw [x2, if_pos (by rw [i_lt, nI_ti (by omega)]; simp only [Int32.reduceToInt]; omega)]
  have main : (zlt (fun (a10 : Int32) => if a10 = (-1) then (zlt (gN (pI σ 11 0 11 0) 10) fun i13 => zlt (nw (pI σ 11 0 11 0) 10 0) fun s14 => zlt (gR s14 11 0 10) fun o15 => zoc o15 none fun i16 => zc2 (fJ7_copyOf_59c91 i16 (nI (tpn σ)) s14) fun o18 s19 => zoc o18 none fun i20 => zc2 (f10_init i13 i20 (gI s19 11 0 6) v2 s19) fun _ s22 => zokc s22 <| zc2 (f9_add w i13 s22) fun r24 s25 => some (r24, s25)) else some ((-100) - a10, pI σ 11 0 11 0)) fun j11 => j11 (ofo (tfl w (fun j => gI σ 1348 0 j) (tpn σ)))) = match tfl w (fun j => gI σ 1348 0 j) (tpn σ) with
    | some p => some (-100 - nI p, pI σ 11 0 11 0)
    | none => some (nI (txn σ w), tx3 σ (gN σ 10) (tpn σ) w (txn σ w) (fun j => gI σ 1348 0 j) (qday σ) v2) := by
    rw [zlt_s]
    cases ht : tfl w (fun j => gI σ 1348 0 j) (tpn σ) with
    | some p =>
      have := hfl p ht
      show (if nI p = -1 then _ else _) = _
      rw [if_neg (fun e => absurd (show (0 : Int32) ≤ -1 by rw [← e]; exact le0 (by omega)) (by decide))]
      rfl
    | none =>
      show (if (-1 : Int32) = -1 then _ else _) = _
      rw [if_pos rfl, gN_pI, zlt_s, zlt_s, zlt_s, gR_nn (by decide), gR_I, h10, zoc_s]
      have ez := ztx_e (nw (pI σ 11 0 11 0) 10 0) (tpn σ) p3
      rw [gN_nn (show 1100 ≠ 10 by decide), gI_nn (show 1210 ≠ 10 by decide), gI_ne (show 1210 ≠ 11 by decide), gN_I, c15, cpW_b (tpn σ) (fun j hj => (p4 j hj).1)] at ez
      have cp : fJ7_copyOf_59c91 0 (nI (tpn σ)) (nw (pI σ 11 0 11 0) 10 0) = some (some (gN σ 10), cpW (tx1 σ (tpn σ)) 1100 (gN σ 10) 0 (fun j => gI σ 1348 0 j) (tpn σ)) := by
        unfold fJ7_copyOf_59c91
        rw [if_neg (by rw [i_lt, i_lt, nI_ti (by omega)]; simp only [Int32.reduceToInt]; omega), nI_clamp (by omega), ez, gN_nn (show 1100 ≠ 10 by decide), gN_I, c15]
        rfl
      rw [cp, zc2_s]
      dsimp only
      have r2 := cpW_R (s := tx1 σ (tpn σ)) (t := 1100) (o := gN σ 10) (base := 0) (b := fun j => gI σ 1348 0 j) (tpn σ)
      have e6 : gI (cpW (tx1 σ (tpn σ)) 1100 (gN σ 10) 0 (fun j => gI σ 1348 0 j) (tpn σ)) 11 0 6 = qday σ := by
        unfold tx1
        rw [cpW_ne (by decide), gI_nn (by decide), gI_nn (by decide), gI_nk (by decide), (N_q h').1]
      unfold f10_init
      rw [zoc_s, e6, zlt_s, zlt_s, zlt_s, zc2_s]
      dsimp only
      have e9 : gI (pI (pI (pR (cpW (tx1 σ (tpn σ)) 1100 (gN σ 10) 0 (fun j => gI σ 1348 0 j) (tpn σ)) 10 (gN σ 10) 0 (some (gN σ 10))) 10 (gN σ 10) 1 (qday σ)) 10 (gN σ 10) 2 v2) 9 w 1 = nI (txn σ w) := by
        unfold tx1
        rw [gI_ne (by decide), gI_ne (by decide), gI_R, cpW_ne (by decide), gI_nn (by decide), gI_nn (by decide), gI_ne (by decide), x2]
      rw [zokc_s]
      · unfold f9_add
        rw [e9, if_pos (by rw [i_lt, nI_ti (by omega)]; simp only [Int32.reduceToInt]; omega), zix_s hm (by decide), zlt_s, gI_R, e9, nI_suc _ (by omega), zlt_s, gI_at, sub1' (txn σ w + 1) (by omega), zc2_s, Nat.add_sub_cancel]
        rfl
      · intro t i k j hi hfin
        have hg : gR (pI (pI (pR (cpW (tx1 σ (tpn σ)) 1100 (gN σ 10) 0 (fun j => gI σ 1348 0 j) (tpn σ)) 10 (gN σ 10) 0 (some (gN σ 10))) 10 (gN σ 10) 1 (qday σ)) 10 (gN σ 10) 2 v2) t i k = if t = 10 ∧ i = gN σ 10 ∧ k = 0 then some (gN σ 10) else if t = 1100 ∧ i = gN σ 1100 then none else if t = 10 ∧ i = gN σ 10 then none else gR σ t i k := by
          rw [gR_pI, gR_pI, gR_pR, r2.1]
          show (if _ then _ else gR (nw (nw (pI σ 11 0 11 0) 10 0) 1100 (tpn σ)) t i k) = _
          rw [gR_nw, gR_nw, gR_pI, gN_nw, gN_pI, gN_pI, if_neg (show ¬ 1100 = 10 by decide)]
        have hgn : gN (pI (pI (pR (cpW (tx1 σ (tpn σ)) 1100 (gN σ 10) 0 (fun j => gI σ 1348 0 j) (tpn σ)) 10 (gN σ 10) 0 (some (gN σ 10))) 10 (gN σ 10) 1 (qday σ)) 10 (gN σ 10) 2 v2) t = if t = 1100 then gN σ 1100 + 1 else if t = 10 then gN σ 10 + 1 else gN σ t := by
          rw [gN_pI, gN_pI, gN_pR, r2.2.1]
          show gN (nw (nw (pI σ 11 0 11 0) 10 0) 1100 (tpn σ)) t = _
          rw [gN_nw, gN_nw, gN_nw, gN_pI, gN_pI, gN_pI, if_neg (show ¬ 1100 = 10 by decide)]
        rw [hgn] at hi
        rw [hg]
        by_cases t1 : t = 10
        · subst t1
          rw [if_neg (by decide), if_pos rfl] at hi
          by_cases k0 : k = 0
          · subst k0
            have : i = j := by simpa [zfin] using hfin
            by_cases hi2 : i = gN σ 10
            · rw [if_pos ⟨rfl, hi2, rfl⟩, ← this, hi2]
            · rw [if_neg (fun h => hi2 h.2.1), if_neg (fun h => absurd h.1 (by decide)), if_neg (fun h => hi2 h.2)]
              exact hO 10 i 0 j (by omega) hfin
          · simp [zfin, k0] at hfin
        · rw [if_neg (fun h => t1 h.1)]
          by_cases t2 : t = 1100
          · subst t2; simp [zfin] at hfin
          · rw [if_neg (fun h => t2 h.1), if_neg (fun h => t1 h.1)]
            rw [if_neg t2, if_neg t1] at hi
            exact hO t i k j hi hfin
  have hw2 : w = 0 ∨ w = 1 := by omega
  unfold f11_text
  rw [show f11_isIn (nI w) 2 σ = some 1 from e_at_in hw (Nat.le_refl 2) (by decide), zc1_s, if_neg (by decide), e_isDay, if_pos hd, zc1_s, if_neg (by decide), zlt_s]
  rcases hw2 with rfl | rfl
  · rw [if_pos (show nI 0 = 0 from rfl), zlt_s, h12]
    dsimp only
    rw [zoc_s, hfull, zc1_s, if_pos rfl, p2, zlt_s, zlt_s, ← main]
    have ef := e_wrR (σ := pI σ 11 0 11 0) (h0 := 0) p3 hb
    rw [zlt_s, if_pos (show nI 0 = 0 from rfl), zlt_s, gR_I, h10, zoc_s, ef, zc1_s]
    rfl
  · rw [if_neg (show ¬ nI 1 = 0 by decide), zlt_s, h13]
    dsimp only
    rw [zoc_s, hfull, zc1_s, if_pos rfl, p2, zlt_s, zlt_s, ← main]
    have ef := e_frR (σ := pI σ 11 0 11 0) (h0 := 0) p3 hb
    rw [zlt_s, if_neg (show ¬ nI 1 = 0 by decide), zlt_s, gR_I, h10, zoc_s, ef, zc1_s]
    rfl
theorem t_text {σ : zSt} (h : Inv σ) (v1 v2 : Int32) : Ok2 (f11_text v1 v2 σ) (f12_text v1 v2) := by
  have h' := h
  obtain ⟨hO, hC, hN, hH, hK, hF, hS, hL, hG, hD, hT, hX, hZ⟩ := h
  obtain ⟨p1, p2, p3, p4⟩ := hT
  rcases zcase v1 2 (by decide) with ⟨w, hw, rfl, hv⟩ | hv
  · obtain ⟨x1, x2, x3, x4⟩ := X_at h' hw
    have c1 : ∀ s, f12_within (nI w) 0 1 s = some 1 := fun s => by
      rw [e_within, if_pos (by rw [nI_ti (by omega)]; simp only [Int32.reduceToInt]; omega)]
    by_cases hd : 0 ≤ v2.toInt ∧ v2.toInt < 10000
    · by_cases hm : txn σ w < 10
      · have he := e_text h' hw hd hm
        have T10 : ∀ s, gI s 1354 0 w = nI (txn σ w) → ¬ gI s 1354 0 w = 10 := fun s hs => by
          rw [hs]
          show ¬ _ = nI 10
          rw [nI_inj (by omega) (by omega)]
          omega
        cases ht : tfl w (fun j => gI σ 1348 0 j) (tpn σ) with
        | some p =>
          rw [ht] at he
          have hp : p ≤ 160 := by
            unfold tfl at ht
            split at ht
            · have := wrR_le _ _ _ _ _ ht; omega
            · have := frR_le _ _ _ _ _ _ _ ht; omega
          have e54 : gI (pI σ 11 0 11 0) 1354 0 w = nI (txn σ w) := by rw [gI_ne (by decide), x1]
          obtain ⟨s', m1, m2, m3⟩ := m_tape (s := pI σ 11 0 11 0) hw p3 (by rw [gI_ne (by decide)]; exact p1) (fun j hj => by rw [gI_ne (by decide)]; exact ⟨rfl, (p4 j hj).2⟩) v2
          rw [ht] at m2
          have m2 : gI s' 12 0 69 = nI p := m2
          refine ⟨-100 - nI p, pI σ 11 0 11 0, pI s' 12 0 49 0, he, hO, ?_, ?_⟩
          · rw [text_eq, c1, zc1_s, if_neg (by decide), m_isDay, if_pos hd, zc1_s, if_neg (by decide), zix_s hw (by decide), if_neg (T10 _ e54)]
            refine m3.trans ?_
            unfold txK
            rw [zlt_s, zlt_s, gI_nk (show ¬ (12 = 12 ∧ 69 = 49) by decide), m2, if_neg (nn0 (by omega))]
          · refine (m1.ex (t := 12) (i := 0) (k := 49) (v := 0)).1 ?_
            refine ⟨hO, (by repeat (first | assumption | refine fr_vC_I rfl ?_ | refine fr_vN_I rfl ?_ | refine fr_vH_I rfl ?_ | refine fr_vK_I rfl ?_ | refine fr_vF_I rfl ?_ | refine fr_vS_I rfl ?_ | refine fr_vL_I rfl ?_ | refine fr_vG_I rfl ?_ | refine fr_vD_I rfl ?_ | refine fr_vT_I rfl ?_ | refine fr_vX_I rfl ?_ | refine fr_vZ_I rfl ?_)), (by repeat (first | assumption | refine fr_vC_I rfl ?_ | refine fr_vN_I rfl ?_ | refine fr_vH_I rfl ?_ | refine fr_vK_I rfl ?_ | refine fr_vF_I rfl ?_ | refine fr_vS_I rfl ?_ | refine fr_vL_I rfl ?_ | refine fr_vG_I rfl ?_ | refine fr_vD_I rfl ?_ | refine fr_vT_I rfl ?_ | refine fr_vX_I rfl ?_ | refine fr_vZ_I rfl ?_)), (by repeat (first | assumption | refine fr_vC_I rfl ?_ | refine fr_vN_I rfl ?_ | refine fr_vH_I rfl ?_ | refine fr_vK_I rfl ?_ | refine fr_vF_I rfl ?_ | refine fr_vS_I rfl ?_ | refine fr_vL_I rfl ?_ | refine fr_vG_I rfl ?_ | refine fr_vD_I rfl ?_ | refine fr_vT_I rfl ?_ | refine fr_vX_I rfl ?_ | refine fr_vZ_I rfl ?_)), (by repeat (first | assumption | refine fr_vC_I rfl ?_ | refine fr_vN_I rfl ?_ | refine fr_vH_I rfl ?_ | refine fr_vK_I rfl ?_ | refine fr_vF_I rfl ?_ | refine fr_vS_I rfl ?_ | refine fr_vL_I rfl ?_ | refine fr_vG_I rfl ?_ | refine fr_vD_I rfl ?_ | refine fr_vT_I rfl ?_ | refine fr_vX_I rfl ?_ | refine fr_vZ_I rfl ?_)), (by repeat (first | assumption | refine fr_vC_I rfl ?_ | refine fr_vN_I rfl ?_ | refine fr_vH_I rfl ?_ | refine fr_vK_I rfl ?_ | refine fr_vF_I rfl ?_ | refine fr_vS_I rfl ?_ | refine fr_vL_I rfl ?_ | refine fr_vG_I rfl ?_ | refine fr_vD_I rfl ?_ | refine fr_vT_I rfl ?_ | refine fr_vX_I rfl ?_ | refine fr_vZ_I rfl ?_)), (by repeat (first | assumption | refine fr_vC_I rfl ?_ | refine fr_vN_I rfl ?_ | refine fr_vH_I rfl ?_ | refine fr_vK_I rfl ?_ | refine fr_vF_I rfl ?_ | refine fr_vS_I rfl ?_ | refine fr_vL_I rfl ?_ | refine fr_vG_I rfl ?_ | refine fr_vD_I rfl ?_ | refine fr_vT_I rfl ?_ | refine fr_vX_I rfl ?_ | refine fr_vZ_I rfl ?_)), (by repeat (first | assumption | refine fr_vC_I rfl ?_ | refine fr_vN_I rfl ?_ | refine fr_vH_I rfl ?_ | refine fr_vK_I rfl ?_ | refine fr_vF_I rfl ?_ | refine fr_vS_I rfl ?_ | refine fr_vL_I rfl ?_ | refine fr_vG_I rfl ?_ | refine fr_vD_I rfl ?_ | refine fr_vT_I rfl ?_ | refine fr_vX_I rfl ?_ | refine fr_vZ_I rfl ?_)), (by repeat (first | assumption | refine fr_vC_I rfl ?_ | refine fr_vN_I rfl ?_ | refine fr_vH_I rfl ?_ | refine fr_vK_I rfl ?_ | refine fr_vF_I rfl ?_ | refine fr_vS_I rfl ?_ | refine fr_vL_I rfl ?_ | refine fr_vG_I rfl ?_ | refine fr_vD_I rfl ?_ | refine fr_vT_I rfl ?_ | refine fr_vX_I rfl ?_ | refine fr_vZ_I rfl ?_)), (by repeat (first | assumption | refine fr_vC_I rfl ?_ | refine fr_vN_I rfl ?_ | refine fr_vH_I rfl ?_ | refine fr_vK_I rfl ?_ | refine fr_vF_I rfl ?_ | refine fr_vS_I rfl ?_ | refine fr_vL_I rfl ?_ | refine fr_vG_I rfl ?_ | refine fr_vD_I rfl ?_ | refine fr_vT_I rfl ?_ | refine fr_vX_I rfl ?_ | refine fr_vZ_I rfl ?_)), ?_, (by repeat (first | assumption | refine fr_vC_I rfl ?_ | refine fr_vN_I rfl ?_ | refine fr_vH_I rfl ?_ | refine fr_vK_I rfl ?_ | refine fr_vF_I rfl ?_ | refine fr_vS_I rfl ?_ | refine fr_vL_I rfl ?_ | refine fr_vG_I rfl ?_ | refine fr_vD_I rfl ?_ | refine fr_vT_I rfl ?_ | refine fr_vX_I rfl ?_ | refine fr_vZ_I rfl ?_)), (by repeat (first | assumption | refine fr_vC_I rfl ?_ | refine fr_vN_I rfl ?_ | refine fr_vH_I rfl ?_ | refine fr_vK_I rfl ?_ | refine fr_vF_I rfl ?_ | refine fr_vS_I rfl ?_ | refine fr_vL_I rfl ?_ | refine fr_vG_I rfl ?_ | refine fr_vD_I rfl ?_ | refine fr_vT_I rfl ?_ | refine fr_vX_I rfl ?_ | refine fr_vZ_I rfl ?_))⟩
            unfold vT tpn
            rw [gI_at, gI_ne (show 11 ≠ 12 by decide), gI_at]
            exact ⟨rfl, rfl, by decide, fun i hi => absurd hi (Nat.not_lt_zero _)⟩
        | none =>
          rw [ht] at he
          have g12 : ∀ k, gI (tx3 σ (gN σ 10) (tpn σ) w (txn σ w) (fun j => gI σ 1348 0 j) (qday σ) v2) 12 0 k = gI σ 12 0 k := fun k => by
            unfold tx3 tx2 tx1
            rw [gI_ne (by decide), gI_R, gI_ne (by decide), gI_ne (by decide), gI_R, cpW_ne (by decide), gI_nn (by decide), gI_nn (by decide), gI_ne (by decide)]
          have gA : ∀ a, 1300 ≤ a → gI (tx3 σ (gN σ 10) (tpn σ) w (txn σ w) (fun j => gI σ 1348 0 j) (qday σ) v2) a = gI σ a := fun a ha => by
            unfold tx3 tx2 tx1
            rw [gI_ne (by omega), gI_R, gI_ne (by omega), gI_ne (by omega), gI_R, cpW_ne (by omega), gI_nn (by omega), gI_nn (by omega), gI_ne (by omega)]
          obtain ⟨s', m1, m2, m3⟩ := m_tape (s := tx3 σ (gN σ 10) (tpn σ) w (txn σ w) (fun j => gI σ 1348 0 j) (qday σ) v2) (b := fun j => gI σ 1348 0 j) hw p3 ((g12 49).trans p1) (fun j hj => by rw [gA 1348 (by decide)]; exact ⟨rfl, (p4 j hj).2⟩) v2
          rw [ht] at m2
          have m2 : gI s' 12 0 69 = -1 := m2
          have e54 : gI (tx3 σ (gN σ 10) (tpn σ) w (txn σ w) (fun j => gI σ 1348 0 j) (qday σ) v2) 1354 0 w = nI (txn σ w) := by rw [gA 1354 (by decide), x1]
          have e54' : gI s' 1354 0 w = nI (txn σ w) := by rw [m1.A (t := 1354) rfl, e54]
          have e49' : gI s' 12 0 49 = nI (tpn σ) := by rw [m1.2.1 12 49 rfl, g12 49, p1]
          have e0' : gI s' 12 0 0 = qday σ := by rw [m1.2.1 12 0 rfl, g12 0]; rfl
          have k20 : 10 * w + txn σ w < 20 := by omega
          have cpe : cpW (pI s' 12 0 49 0) 1350 0 (160 * (10 * w + txn σ w)) (fun j => gI (pI s' 12 0 49 0) 1348 0 j) (tpn σ) = cpW (pI s' 12 0 49 0) 1350 0 (160 * (10 * w + txn σ w)) (fun j => gI σ 1348 0 j) (tpn σ) := cpW_b (tpn σ) fun j hj => by
            rw [gI_ne (by decide), m1.A (t := 1348) rfl, gA 1348 (by decide)]
          refine ⟨nI (txn σ w), _, tx5 (pI s' 12 0 49 0) (tpn σ) w (txn σ w) (10 * w + txn σ w) (fun j => gI σ 1348 0 j) (qday σ) v2, he, ?_, ?_, ?_⟩
          · have hi := txS_Inv h' (d := v2) hw hm p3 (fun j hj => (p4 j hj).2) ht
            have hz := hi.1
            intro t i k j hti hfin
            have r1 := cpW_R (s := pI (tx3 σ (gN σ 10) (tpn σ) w (txn σ w) (fun j => gI σ 1348 0 j) (qday σ) v2) 12 0 49 0) (t := 1350) (o := 0) (base := 160 * (10 * w + txn σ w)) (b := fun j => gI σ 1348 0 j) (tpn σ)
            have q1 : gN (txS σ (gN σ 10) (tpn σ) w (txn σ w) (fun j => gI σ 1348 0 j) (qday σ) v2) = gN (tx3 σ (gN σ 10) (tpn σ) w (txn σ w) (fun j => gI σ 1348 0 j) (qday σ) v2) := r1.2.1
            have q2 : gR (txS σ (gN σ 10) (tpn σ) w (txn σ w) (fun j => gI σ 1348 0 j) (qday σ) v2) = gR (tx3 σ (gN σ 10) (tpn σ) w (txn σ w) (fun j => gI σ 1348 0 j) (qday σ) v2) := r1.1
            have := hz t i k j (by rw [q1]; exact hti) hfin
            rw [q2] at this
            exact this
          · rw [text_eq, c1, zc1_s, if_neg (by decide), m_isDay, if_pos hd, zc1_s, if_neg (by decide), zix_s hw (by decide), if_neg (T10 _ e54)]
            refine m3.trans ?_
            unfold txK
            rw [zlt_s, zlt_s, gI_nk (show ¬ (12 = 12 ∧ 69 = 49) by decide), m2, if_pos (by decide), zix_s hw (by decide), gI_ne (show 1354 ≠ 12 by decide), e54', nI_row10 w _ (by omega), zlt_s, e49', l_99 k20 p3, cpe, zix_s k20 (by decide), zlt_s, zix_s k20 (by decide), zlt_s, zix_s k20 (by decide), gI_ne (show 12 ≠ 1352 by decide), gI_ne (show 12 ≠ 1351 by decide), cpW_ne (show 12 ≠ 1350 by decide), gI_nk (show ¬ (12 = 12 ∧ 0 = 49) by decide), e0', zlt_s, zix_s hw (by decide), zix_s hw (by decide), gI_ne (show 1354 ≠ 1353 by decide), gI_ne (show 1354 ≠ 1352 by decide), gI_ne (show 1354 ≠ 1351 by decide), cpW_ne (show 1354 ≠ 1350 by decide), gI_ne (show 1354 ≠ 12 by decide), e54', nI_suc _ (by omega), zlt_s, zix_s hw (by decide), gI_at, sub1' (txn σ w + 1) (by omega), Nat.add_sub_cancel]
            rfl
          · have q : Ch (tx5 (pI s' 12 0 49 0) (tpn σ) w (txn σ w) (10 * w + txn σ w) (fun j => gI σ 1348 0 j) (qday σ) v2) (txS σ (gN σ 10) (tpn σ) w (txn σ w) (fun j => gI σ 1348 0 j) (qday σ) v2) := ((((Ch_cpW m1.ex (tpn σ)).ex).ex).ex).ex
            exact q.1 (txS_Inv h' (d := v2) hw hm p3 (fun j hj => (p4 j hj).2) ht)
      · have hm10 : txn σ w = 10 := by omega
        have cs : gN σ 11 = 1 := hC.2.2.2.2.1
        have h12 : gR σ 11 0 12 = some 0 := hO 11 0 12 0 (by omega) rfl
        have h13 : gR σ 11 0 13 = some 1 := hO 11 0 13 1 (by omega) rfl
        have hfull : f9_isFull w σ = some 1 := by
          unfold f9_isFull
          rw [x2, hm10, if_neg (by decide)]
        refine Ok2.same h' (r := -2) ?_ ?_
        · unfold f11_text
          rw [show f11_isIn (nI w) 2 σ = some 1 from e_at_in hw (Nat.le_refl 2) (by decide), zc1_s, if_neg (by decide), e_isDay, if_pos hd, zc1_s, if_neg (by decide), zlt_s]
          have hw2 : w = 0 ∨ w = 1 := by omega
          rcases hw2 with rfl | rfl
          · rw [if_pos (show nI 0 = 0 from rfl), zlt_s, h12]
            dsimp only
            rw [zoc_s, hfull, zc1_s, if_neg (by decide)]
          · rw [if_neg (show ¬ nI 1 = 0 by decide), zlt_s, h13]
            dsimp only
            rw [zoc_s, hfull, zc1_s, if_neg (by decide)]
        · rw [text_eq, c1, zc1_s, if_neg (by decide), m_isDay, if_pos hd, zc1_s, if_neg (by decide), zix_s hw (by decide), x1, hm10, if_pos (show nI 10 = 10 from rfl)]
    · refine Ok2.same h' (r := -1) ?_ ?_
      · unfold f11_text
        rw [show f11_isIn (nI w) 2 σ = some 1 from e_at_in hw (Nat.le_refl 2) (by decide), zc1_s, if_neg (by decide), e_isDay, if_neg hd, zc1_s, if_pos rfl]
      · rw [text_eq, c1, zc1_s, if_neg (by decide), m_isDay, if_neg hd, zc1_s, if_pos rfl]
  · refine Ok2.same h' (r := -1) ?_ ?_
    · unfold f11_text
      rw [show f11_isIn v1 2 σ = some 0 from e_at_out (n := 2) (by decide) hv, zc1_s, if_pos rfl]
    · rw [text_eq, e_within, if_neg (by simp only [Int32.reduceToInt]; omega), zc1_s, if_pos rfl]
