theorem hm_zOK {σ : zSt} {k : Nat} {p q r w : Int32} (hk : gN σ 5 = k) (H : zOK σ) : zOK (hmC2 σ k p q r w) := by
  intro t i c j hi hf
  have hN : gN (hmC2 σ k p q r w) t = if t = 5 ∨ t = 610 ∨ t = 611 then gN σ t + 1 else gN σ t := hm_N (k := k) (p := p) (q := q) (r := r) (w := w)
  have hR : ∀ a, a ≠ 5 ∧ a ≠ 610 ∧ a ≠ 611 ∧ a ≠ 1200 → gR (hmC2 σ k p q r w) a = gR σ a := fun a h => hm_R (k := k) (p := p) (q := q) (r := r) (w := w) h
  rw [hN] at hi
  by_cases h5 : t = 5
  · subst h5
    rw [if_pos (by decide), hk] at hi
    unfold hmC2
    rw [gR_I, gR_ne (by decide), zrow_R]
    unfold hmC
    simp only [gR_I, gR_pR]
    by_cases e : i = k
    · subst e
      by_cases c11 : c = 11
      · subst c11
        have : j = i := by simpa [zfin] using hf.symm
        rw [this]
        simp
      · by_cases c10 : c = 10
        · subst c10
          have : j = i := by simpa [zfin] using hf.symm
          rw [if_neg (by simp), gR_nn (by decide), gR_pR, if_pos ⟨rfl, rfl, rfl⟩, this]
        · simp [zfin, c10, c11] at hf
    · rw [if_neg (by omega), gR_nn (by decide), gR_pR, if_neg (by omega), gR_nn (by decide), gR_I, gR_I, gR_nw, if_neg (by omega)]
      exact H 5 i c j (by omega) hf
  · by_cases h6 : t = 610
    · subst h6; cases hf
    · by_cases h7 : t = 611
      · subst h7; cases hf
      · by_cases h8 : t = 1200
        · subst h8; cases hf
        · rw [hR t ⟨h5, h6, h7, h8⟩]
          rw [if_neg (by omega)] at hi
          exact H t i c j hi hf
theorem hm_Inv {σ : zSt} {k : Nat} {p q r w : Int32} (h : Inv σ) (hk : gN σ 5 = k) (hlt : k < 40) (hp : btw 0 p 7) (hq : btw 0 q 99) : Inv (hmM2 (hmC2 σ k p q r w) k p q r w) := by
  obtain ⟨hO, hC, hN, hH, hK, hF, hS, hL, hG, hD, hT, hX, hZ⟩ := h
  have g5 : gN (hmM2 (hmC2 σ k p q r w) k p q r w) 5 = k + 1 := by rw [hm_N, if_pos (by decide), hk]
  have gN' : ∀ a, ¬ (a = 5 ∨ a = 610 ∨ a = 611) → gN (hmM2 (hmC2 σ k p q r w) k p q r w) a = gN σ a := fun a h => by rw [hm_N, if_neg h]
  refine ⟨fun t i c j hi hf => hm_zOK (p := p) (q := q) (r := r) (w := w) hk hO t i c j hi hf, ?_, ?_, ?_, ?_, ?_, ?_, ?_, ?_, ?_, ?_, ?_, ?_⟩
  · simp only [vC, hm_N] at hC ⊢
    simp [hC]
  · simp only [vN, qday] at hN ⊢
    obtain ⟨n1, n2, n3, n4, n5, n6, n7, n8, n9, n10, n11, n12⟩ := hN
    rw [g5, gN' 7 (by decide), gN' 1 (by decide), hm_11 (c := 3) (by decide), hm_11 (c := 5) (by decide), hm_11 (c := 6) (by decide), hm_11 (c := 7) (by decide), hm_11 (c := 8) (by decide), hm_11 (c := 9) (by decide), hm_12 (c := 17) (by decide), hm_12 (c := 36) (by decide), hm_12 (c := 0) (by decide), hm_12 (c := 40) (by decide), hm_12 (c := 41) (by decide), hm_12 (c := 55) (by decide)]
    refine ⟨?_, rfl, by omega, n4, n5, n6, n7, n8, n9, n10, n11, n12⟩
    unfold hmM2
    rw [gI_ne (by decide), zrow_ne (by decide)]
    rfl
  · have l5 : ∀ i c, gI (hmM2 (hmC2 σ k p q r w) k p q r w) 5 i c = gI (hmC σ k p q r w) 5 i c := fun i c => by
      unfold hmM2
      rw [gI_ne (by decide), zrow_ne (by decide)]
      show gI (hmC2 σ k p q r w) 5 i c = _
      unfold hmC2
      rw [gI_ne (by decide), gI_R, zrow_ne (by decide)]
    have l13 : ∀ a i, (1301 ≤ a ∧ a ≤ 1308) → gI (hmM2 (hmC2 σ k p q r w) k p q r w) a 0 i = gI (hmM (hmC2 σ k p q r w) k p q r w) a 0 i := fun a i h => by
      unfold hmM2
      rw [gI_ne (by omega), zrow_ne (by omega)]
    have l0 : ∀ a i, (1301 ≤ a ∧ a ≤ 1309) → gI (hmC2 σ k p q r w) a 0 i = gI σ a 0 i := fun a i h => by
      unfold hmC2
      rw [gI_ne (by omega), gI_R, zrow_ne (by omega)]
      unfold hmC
      rw [gI_ne (by omega), gI_ne (by omega), gI_ne (by omega), gI_ne (by omega), gI_R, gI_nn (by omega), gI_R, gI_nn (by omega), gI_ne (by omega), gI_ne (by omega), gI_nn (by omega)]
    have l1309 : ∀ i t, i ≤ 1000 → t < 10 → gI (hmM2 (hmC2 σ k p q r w) k p q r w) 1309 0 (10 * i + t) = if i = k then -1 else gI σ 1309 0 (10 * i + t) := fun i t _ ht => by
      unfold hmM2
      rw [gI_ne (by decide), zrow_at]
      by_cases e : i = k
      · rw [if_pos e, if_pos (by omega)]
      · rw [if_neg e, if_neg (by omega)]
        unfold hmM
        rw [gI_ne (by decide), gI_ne (by decide), gI_ne (by decide), gI_ne (by decide), gI_ne (by decide), gI_ne (by decide), l0 _ _ (by decide)]
    have l611 : ∀ i t, t < 10 → gI (hmM2 (hmC2 σ k p q r w) k p q r w) 611 i t = if i = k then -1 else gI (hmC σ k p q r w) 611 i t := fun i t ht => by
      unfold hmM2
      rw [gI_ne (by decide), zrow_ne (by decide)]
      show gI (hmC2 σ k p q r w) 611 i t = _
      unfold hmC2
      rw [gI_ne (by decide), gI_R, zrow_at]
      by_cases e : i = k
      · rw [if_pos e, if_pos (by omega)]
      · rw [if_neg e, if_neg (by omega)]
    have l610 : ∀ i t, gI (hmM2 (hmC2 σ k p q r w) k p q r w) 610 i t = gI (hmC σ k p q r w) 610 i t := fun i t => by
      unfold hmM2
      rw [gI_ne (by decide), zrow_ne (by decide)]
      show gI (hmC2 σ k p q r w) 610 i t = _
      unfold hmC2
      rw [gI_ne (by decide), gI_R, zrow_ne (by decide)]
    have c1 : gN σ 610 = k := by rw [← hk]; exact hC.2.2.2.2.2.2.2.2.2.2.1
    have c2 : gN σ 611 = k := by rw [← hk]; exact hC.2.2.2.2.2.2.2.2.2.2.2.1
    have lR : ∀ i, gR (hmM2 (hmC2 σ k p q r w) k p q r w) 1200 0 i = if i = k then some k else gR σ 1200 0 i := fun i => by
      unfold hmM2
      rw [gR_I, zrow_R]
      show gR (hmC2 σ k p q r w) 1200 0 i = _
      unfold hmC2
      rw [gR_I, gR_pR, zrow_R]
      by_cases e : i = k
      · rw [if_pos e, if_pos ⟨rfl, rfl, e⟩]
      · rw [if_neg e, if_neg (by omega)]
        rfl
    intro i hi
    rw [g5] at hi
    by_cases e : i = k
    · subst e
      obtain ⟨z1, z2, z3, z4, z5⟩ := hZ.1 i (by omega)
      have e1 : btw (-1) (-1) 9999 := by unfold btw; decide
      have e2 : btw 0 127 127 := by unfold btw; decide
      have e3 : btw 0 0 99999 := by unfold btw; decide
      have e4 : btw 0 0 20 := by unfold btw; decide
      have e5 : btw (-1) (-1) 9 := by unfold btw; decide
      have q6 : ∀ j, j < 20 → gI (hmM2 (hmC2 σ i p q r w) i p q r w) 1306 0 (20 * i + j) = 0 := fun j hj => by
        rw [l13 _ _ (by decide)]
        unfold hmM
        rw [gI_ne (by decide), gI_ne (by decide), gI_ne (by decide), gI_ne (by decide), gI_ne (by decide), gI_ne (by decide), l0 _ _ (by decide)]
        exact z5 j hj
      have q610 : ∀ j, gI (hmC σ i p q r w) 610 i j = 0 := fun j => by simp [hmC, gI_pI, gI_R, gI_nw, gN_I, gN_R, gN_nw, c1]
      unfold vH1
      refine ⟨by rw [lR, if_pos rfl], ?_, ?_, ?_, ?_, ?_, ?_, ?_, ?_, ?_, ?_, ?_, ?_, ?_, ?_, ?_, ?_, fun j hj => by rw [l610, q610, q6 j hj], fun t ht => by rw [l611 _ _ ht, l1309 i t (by omega) ht, if_pos rfl, if_pos rfl]; exact ⟨rfl, e5⟩⟩
      all_goals first | (rw [l5, l13 _ _ (by decide)]; simp [hmM, hmC, gI_pI, gI_R, gI_nw, l0, z1, z2, z3, z4, hp, hq, e1, e2, e3, e4, hk]) | (rw [l5, hm_I (by decide)]; simp [hmM, hmC, gI_pI, gI_R, gI_nw, l0, z1, z2, z3, z4, hp, hq, e1, e2, e3, e4, hk]) | (rw [l13 _ _ (by decide)]; simp [hmM, hmC, gI_pI, gI_R, gI_nw, l0, z1, z2, z3, z4, hp, hq, e1, e2, e3, e4, hk]) | (rw [hm_I (by decide)]; simp [hmM, hmC, gI_pI, gI_R, gI_nw, l0, z1, z2, z3, z4, hp, hq, e1, e2, e3, e4, hk])
    · have h1 := hH i (by omega)
      unfold vH1 at h1 ⊢
      obtain ⟨b1, b2, b3, b4, b5, b6, b7, b8, b9, b10, b11, b12, b13, b14, b15, b16, b17, b18, b19⟩ := h1
      have q5 : ∀ c, gI (hmC σ k p q r w) 5 i c = gI σ 5 i c := fun c => by
        simp [hmC, gI_pI, gI_R, gI_nw, e, hk]
      have qM : ∀ a, 1301 ≤ a ∧ a ≤ 1308 → gI (hmM2 (hmC2 σ k p q r w) k p q r w) a 0 i = gI σ a 0 i := fun a ha => by
        rw [l13 a i ha]
        unfold hmM
        rw [gI_pI, if_neg (by omega), gI_pI, if_neg (by omega), gI_pI, if_neg (by omega), gI_pI, if_neg (by omega), gI_pI, if_neg (by omega), gI_pI, if_neg (by omega)]
        exact l0 a i (by omega)
      have q6 : ∀ j, j < 20 → gI (hmM2 (hmC2 σ k p q r w) k p q r w) 1306 0 (20 * i + j) = gI σ 1306 0 (20 * i + j) := fun j hj => by
        rw [l13 _ _ (by decide)]
        unfold hmM
        rw [gI_ne (by decide), gI_ne (by decide), gI_ne (by decide), gI_ne (by decide), gI_ne (by decide), gI_ne (by decide), l0 _ _ (by decide)]
      have q610 : ∀ j, gI (hmC σ k p q r w) 610 i j = gI σ 610 i j := fun j => by simp [hmC, gI_pI, gI_R, gI_nw, gN_I, gN_R, gN_nw, c1, e]
      have q611 : ∀ j, gI (hmC σ k p q r w) 611 i j = gI σ 611 i j := fun j => by simp [hmC, gI_pI, gI_R, gI_nw, gN_I, gN_R, gN_nw, c1, c2, e]
      refine ⟨by rw [lR, if_neg e]; exact b1, ?_, ?_, ?_, ?_, ?_, ?_, ?_, ?_, ?_, ?_, ?_, ?_, ?_, ?_, ?_, ?_, fun j hj => by rw [l610, q610, q6 j hj]; exact b18 j hj, fun t ht => by rw [l611 _ _ ht, l1309 i t (by omega) ht, if_neg e, if_neg e, q611]; exact b19 t ht⟩
      all_goals first | (rw [l5, q5, qM _ (by decide)]; assumption) | (rw [l5, q5, hm_I (by decide)]; assumption) | (rw [qM _ (by decide)]; assumption) | (rw [hm_I (by decide)]; assumption)
  · simp (decide := true) only [vK, vK1, gN', hm_I, hm_R] at hK ⊢
    exact hK
  · exact vF_k (σ := σ) (fun a b1 b2 => hm_I (by omega)) (hm_I (by decide)) (hm_R (by decide)) (hm_R (by decide)) (gN' 1 (by decide)) (by rw [g5]; omega) (by rw [gN' 7 (by decide)]; exact Nat.le_refl _) (hm_12 (by decide) 0) hF
  · simp (decide := true) only [vS, vS1, sz, sT, sD, sC, qday, gN', hm_I, hm_12] at hS ⊢
    exact hS
  · have e1 : sT (hmM2 (hmC2 σ k p q r w) k p q r w) = sT σ := by funext f j; simp (decide := true) only [sT, hm_I]
    have e2 : sC (hmM2 (hmC2 σ k p q r w) k p q r w) = sC σ := by funext f j; simp (decide := true) only [sC, hm_I]
    simp (decide := true) only [vL, sz, e1, e2, gN', hm_I] at hL ⊢
    exact hL
  · simp (decide := true) only [vG, vG1, rdn, rD, rW, isCr, kd, qday, gN', hm_I, hm_R, hm_12] at hG ⊢
    exact hG
  · simp (decide := true) only [vD, jbn, pln, pD, gN', hm_I, hm_R, hm_12] at hD ⊢
    exact hD
  · simp (decide := true) only [vT, tpn, hm_I, hm_11, hm_12] at hT ⊢
    exact hT
  · simp (decide := true) only [vX, vX1, txn, gN', hm_I, hm_R, hm_Z] at hX ⊢
    exact hX
  · have e1306 : gI (hmM2 (hmC2 σ k p q r w) k p q r w) 1306 = gI σ 1306 := by
      unfold hmM2
      rw [gI_ne (by decide), zrow_ne (by decide)]
      unfold hmM
      rw [gI_ne (by decide), gI_ne (by decide), gI_ne (by decide), gI_ne (by decide), gI_ne (by decide), gI_ne (by decide)]
      unfold hmC2
      rw [gI_ne (by decide), gI_R, zrow_ne (by decide)]
      rfl
    have e1307 : gI (hmM2 (hmC2 σ k p q r w) k p q r w) 1307 = gI σ 1307 := by
      unfold hmM2
      rw [gI_ne (by decide), zrow_ne (by decide)]
      unfold hmM
      rw [gI_ne (by decide), gI_ne (by decide), gI_ne (by decide), gI_ne (by decide), gI_ne (by decide), gI_ne (by decide)]
      unfold hmC2
      rw [gI_ne (by decide), gI_R, zrow_ne (by decide)]
      rfl
    refine ⟨fun i hi => ?_, fun f hf => ?_⟩
    · rw [g5] at hi
      rw [e1306, e1307, hm_I (by decide), hm_I (by decide), hm_I (by decide)]
      exact hZ.1 i (by omega)
    · rw [gN' 1 (by decide)] at hf
      rw [hm_I (by decide), hm_I (by decide), hm_I (by decide), hm_I (by decide), hm_I (by decide), hm_I (by decide), hm_I (by decide)]
      exact hZ.2 f hf
