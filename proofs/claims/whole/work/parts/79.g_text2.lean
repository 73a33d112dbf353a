/-! a new text on the shelf -/
def tx1 (σ : zSt) (n : Nat) : zSt := nw (nw (pI σ 11 0 11 0) 10 0) 1100 n
def tx2 (σ : zSt) (T n : Nat) (b : Nat → Int32) : zSt := cpW (tx1 σ n) 1100 T 0 b n
def tx3 (σ : zSt) (T n w m : Nat) (b : Nat → Int32) (q d : Int32) : zSt := pI (pR (pI (pI (pR (tx2 σ T n b) 10 T 0 (some T)) 10 T 1 q) 10 T 2 d) 1000 w m (some T)) 9 w 1 (nI (m + 1))
def tx5 (s : zSt) (n w m k : Nat) (b : Nat → Int32) (q d : Int32) : zSt := pI (pI (pI (pI (cpW s 1350 0 (160 * k) b n) 1351 0 k (nI n)) 1352 0 k d) 1353 0 k q) 1354 0 w (nI (m + 1))
def txS (σ : zSt) (T n w m : Nat) (b : Nat → Int32) (q d : Int32) : zSt := tx5 (pI (tx3 σ T n w m b q d) 12 0 49 0) n w m (10 * w + m) b q d
theorem txS_N (σ : zSt) (T n w m : Nat) (b : Nat → Int32) (q d : Int32) (t : Nat) : gN (txS σ T n w m b q d) t = if t = 1100 then gN σ 1100 + 1 else if t = 10 then gN σ 10 + 1 else gN σ t := by
  have r1 := (cpW_R (s := pI (tx3 σ T n w m b q d) 12 0 49 0) (t := 1350) (o := 0) (base := 160 * (10 * w + m)) (b := b) n).2.1
  have r2 := (cpW_R (s := tx1 σ n) (t := 1100) (o := T) (base := 0) (b := b) n).2.1
  show gN (cpW (pI (tx3 σ T n w m b q d) 12 0 49 0) 1350 0 (160 * (10 * w + m)) b n) t = _
  rw [r1]
  show gN (cpW (tx1 σ n) 1100 T 0 b n) t = _
  rw [r2]
  show gN (nw (nw (pI σ 11 0 11 0) 10 0) 1100 n) t = _
  rw [gN_nw, gN_nw, gN_nw, gN_pI, gN_pI, gN_pI, if_neg (show ¬ 1100 = 10 by decide)]
theorem txS_R (σ : zSt) (T n w m : Nat) (b : Nat → Int32) (q d : Int32) (t i k : Nat) : gR (txS σ T n w m b q d) t i k = if t = 1000 ∧ i = w ∧ k = m then some T else if t = 10 ∧ i = T ∧ k = 0 then some T else if t = 1100 ∧ i = gN σ 1100 then none else if t = 10 ∧ i = gN σ 10 then none else gR σ t i k := by
  have r1 := (cpW_R (s := pI (tx3 σ T n w m b q d) 12 0 49 0) (t := 1350) (o := 0) (base := 160 * (10 * w + m)) (b := b) n).1
  have r2 := (cpW_R (s := tx1 σ n) (t := 1100) (o := T) (base := 0) (b := b) n).1
  show gR (cpW (pI (tx3 σ T n w m b q d) 12 0 49 0) 1350 0 (160 * (10 * w + m)) b n) t i k = _
  rw [r1]
  show gR (pR (pI (pI (pR (tx2 σ T n b) 10 T 0 (some T)) 10 T 1 q) 10 T 2 d) 1000 w m (some T)) t i k = _
  rw [gR_pR, gR_pI, gR_pI, gR_pR]
  show (if _ then _ else if _ then _ else gR (cpW (tx1 σ n) 1100 T 0 b n) t i k) = _
  rw [r2]
  show (if _ then _ else if _ then _ else gR (nw (nw (pI σ 11 0 11 0) 10 0) 1100 n) t i k) = _
  rw [gR_nw, gR_nw, gR_pI, gN_nw, gN_pI, gN_pI, if_neg (show ¬ 1100 = 10 by decide)]
theorem txS_Z (σ : zSt) (T n w m : Nat) (b : Nat → Int32) (q d : Int32) (t : Nat) : gZ (txS σ T n w m b q d) 1100 t = if t = gN σ 1100 then n else gZ σ 1100 t := by
  have r1 := (cpW_R (s := pI (tx3 σ T n w m b q d) 12 0 49 0) (t := 1350) (o := 0) (base := 160 * (10 * w + m)) (b := b) n).2.2
  have r2 := (cpW_R (s := tx1 σ n) (t := 1100) (o := T) (base := 0) (b := b) n).2.2
  show gZ (cpW (pI (tx3 σ T n w m b q d) 12 0 49 0) 1350 0 (160 * (10 * w + m)) b n) 1100 t = _
  rw [r1]
  show gZ (cpW (tx1 σ n) 1100 T 0 b n) 1100 t = _
  rw [r2]
  show gZ (nw (nw (pI σ 11 0 11 0) 10 0) 1100 n) 1100 t = _
  rw [gZ_nw, gZ_nw, gZ_pI, gN_nw, gN_pI, if_neg (show ¬ 1100 = 10 by decide)]
  by_cases c : t = gN σ 1100
  · rw [if_pos ⟨rfl, c⟩, if_pos c]
  · rw [if_neg (fun h => c h.2), if_neg (fun h => absurd h.1 (by decide)), if_neg c]
theorem txS_I (σ : zSt) (T n w m : Nat) (b : Nat → Int32) (q d : Int32) (hT : T = gN σ 10) (hT2 : T = gN σ 1100) :
    (∀ x, gI (txS σ T n w m b q d) 9 x 1 = if x = w then nI (m + 1) else gI σ 9 x 1) ∧ (∀ x, gI (txS σ T n w m b q d) 1354 0 x = if x = w then nI (m + 1) else gI σ 1354 0 x) ∧
    (∀ t, gI (txS σ T n w m b q d) 10 t 1 = if t = T then q else gI σ 10 t 1) ∧ (∀ t, gI (txS σ T n w m b q d) 10 t 2 = if t = T then d else gI σ 10 t 2) ∧
    (∀ x, gI (txS σ T n w m b q d) 1353 0 x = if x = 10 * w + m then q else gI σ 1353 0 x) ∧ (∀ x, gI (txS σ T n w m b q d) 1352 0 x = if x = 10 * w + m then d else gI σ 1352 0 x) ∧ (∀ x, gI (txS σ T n w m b q d) 1351 0 x = if x = 10 * w + m then nI n else gI σ 1351 0 x) ∧
    (∀ t j, gI (txS σ T n w m b q d) 1100 t j = if t = T then (if j < n then b j else 0) else gI σ 1100 t j) ∧
    (∀ x, gI (txS σ T n w m b q d) 1350 0 x = if 160 * (10 * w + m) ≤ x ∧ x < 160 * (10 * w + m) + n then b (x - 160 * (10 * w + m)) else gI σ 1350 0 x) ∧
    gI (txS σ T n w m b q d) 12 0 49 = 0 ∧ gI (txS σ T n w m b q d) 11 0 11 = 0 := by
  refine ⟨fun x => ?_, fun x => ?_, fun t => ?_, fun t => ?_, fun x => ?_, fun x => ?_, fun x => ?_, fun t j => ?_, fun x => ?_, ?_, ?_⟩
  · unfold txS tx5 tx3 tx2 tx1
    rw [gI_ne (by decide), gI_ne (by decide), gI_ne (by decide), gI_ne (by decide), cpW_ne (by decide), gI_ne (by decide), gI_pI, gI_R, gI_ne (show 9 ≠ 10 by decide), gI_ne (show 9 ≠ 10 by decide), gI_R, cpW_ne (by decide), gI_nn (by decide), gI_nn (by decide), gI_ne (by decide)]
    by_cases c : x = w
    · rw [if_pos ⟨rfl, c, rfl⟩, if_pos c]
    · rw [if_neg (fun h => c h.2.1), if_neg c]
  · unfold txS tx5 tx3 tx2 tx1
    rw [gI_pI, gI_ne (show 1354 ≠ 1353 by decide), gI_ne (show 1354 ≠ 1352 by decide), gI_ne (show 1354 ≠ 1351 by decide), cpW_ne (show 1354 ≠ 1350 by decide), gI_ne (show 1354 ≠ 12 by decide), gI_ne (show 1354 ≠ 9 by decide), gI_R, gI_ne (show 1354 ≠ 10 by decide), gI_ne (show 1354 ≠ 10 by decide), gI_R, cpW_ne (by decide), gI_nn (by decide), gI_nn (by decide), gI_ne (by decide)]
    by_cases c : x = w
    · rw [if_pos ⟨rfl, rfl, c⟩, if_pos c]
    · rw [if_neg (fun h => c h.2.2), if_neg c]
  · unfold txS tx5 tx3 tx2 tx1
    rw [gI_ne (by decide), gI_ne (by decide), gI_ne (by decide), gI_ne (by decide), cpW_ne (by decide), gI_ne (by decide), gI_ne (show 10 ≠ 9 by decide), gI_R, gI_nk (by decide), gI_pI, gI_R, cpW_ne (by decide), gI_nn (by decide), gI_nw, gI_ne (by decide), gN_pI]
    by_cases c : t = T
    · rw [if_pos ⟨rfl, c, rfl⟩, if_pos c]
    · rw [if_neg (fun h => c h.2.1), if_neg (fun h => c (h.2.trans hT.symm)), if_neg c]
  · unfold txS tx5 tx3 tx2 tx1
    rw [gI_ne (by decide), gI_ne (by decide), gI_ne (by decide), gI_ne (by decide), cpW_ne (by decide), gI_ne (by decide), gI_ne (show 10 ≠ 9 by decide), gI_R, gI_pI, gI_nk (by decide), gI_R, cpW_ne (by decide), gI_nn (by decide), gI_nw, gI_ne (by decide), gN_pI]
    by_cases c : t = T
    · rw [if_pos ⟨rfl, c, rfl⟩, if_pos c]
    · rw [if_neg (fun h => c h.2.1), if_neg (fun h => c (h.2.trans hT.symm)), if_neg c]
  · unfold txS tx5 tx3 tx2 tx1
    rw [gI_ne (by decide), gI_pI, gI_ne (show 1353 ≠ 1352 by decide), gI_ne (show 1353 ≠ 1351 by decide), cpW_ne (show 1353 ≠ 1350 by decide), gI_ne (show 1353 ≠ 12 by decide), gI_ne (show 1353 ≠ 9 by decide), gI_R, gI_ne (show 1353 ≠ 10 by decide), gI_ne (show 1353 ≠ 10 by decide), gI_R, cpW_ne (by decide), gI_nn (by decide), gI_nn (by decide), gI_ne (by decide)]
    by_cases c : x = 10 * w + m
    · rw [if_pos ⟨rfl, rfl, c⟩, if_pos c]
    · rw [if_neg (fun h => c h.2.2), if_neg c]
  · unfold txS tx5 tx3 tx2 tx1
    rw [gI_ne (by decide), gI_ne (by decide), gI_pI, gI_ne (show 1352 ≠ 1351 by decide), cpW_ne (show 1352 ≠ 1350 by decide), gI_ne (show 1352 ≠ 12 by decide), gI_ne (show 1352 ≠ 9 by decide), gI_R, gI_ne (show 1352 ≠ 10 by decide), gI_ne (show 1352 ≠ 10 by decide), gI_R, cpW_ne (by decide), gI_nn (by decide), gI_nn (by decide), gI_ne (by decide)]
    by_cases c : x = 10 * w + m
    · rw [if_pos ⟨rfl, rfl, c⟩, if_pos c]
    · rw [if_neg (fun h => c h.2.2), if_neg c]
  · unfold txS tx5 tx3 tx2 tx1
    rw [gI_ne (by decide), gI_ne (by decide), gI_ne (by decide), gI_pI, cpW_ne (show 1351 ≠ 1350 by decide), gI_ne (show 1351 ≠ 12 by decide), gI_ne (show 1351 ≠ 9 by decide), gI_R, gI_ne (show 1351 ≠ 10 by decide), gI_ne (show 1351 ≠ 10 by decide), gI_R, cpW_ne (by decide), gI_nn (by decide), gI_nn (by decide), gI_ne (by decide)]
    by_cases c : x = 10 * w + m
    · rw [if_pos ⟨rfl, rfl, c⟩, if_pos c]
    · rw [if_neg (fun h => c h.2.2), if_neg c]
  · unfold txS tx5 tx3 tx2 tx1
    rw [gI_ne (by decide), gI_ne (by decide), gI_ne (by decide), gI_ne (by decide), cpW_ne (by decide), gI_ne (by decide), gI_ne (show 1100 ≠ 9 by decide), gI_R, gI_ne (show 1100 ≠ 10 by decide), gI_ne (show 1100 ≠ 10 by decide), gI_R, cpW_at, gI_nw, gI_nn (by decide), gI_ne (by decide), gN_nw, gN_pI, if_neg (show ¬ 1100 = 10 by decide), Nat.sub_zero]
    by_cases c : t = T
    · rw [if_pos c]
      by_cases c2 : j < n
      · rw [if_pos ⟨c, by omega, by omega⟩, if_pos c2]
      · rw [if_neg (by omega), if_pos ⟨rfl, (show t = gN σ 1100 by omega)⟩, if_neg c2]
    · rw [if_neg (fun h => c h.1), if_neg (fun h => c (h.2.trans hT2.symm)), if_neg c]
  · unfold txS tx5 tx3 tx2 tx1
    rw [gI_ne (by decide), gI_ne (by decide), gI_ne (by decide), gI_ne (by decide), cpW_at, gI_ne (show 1350 ≠ 12 by decide), gI_ne (show 1350 ≠ 9 by decide), gI_R, gI_ne (show 1350 ≠ 10 by decide), gI_ne (show 1350 ≠ 10 by decide), gI_R, cpW_ne (by decide), gI_nn (by decide), gI_nn (by decide), gI_ne (by decide)]
    by_cases c : 160 * (10 * w + m) ≤ x ∧ x < 160 * (10 * w + m) + n
    · rw [if_pos ⟨rfl, c⟩, if_pos c]
    · rw [if_neg (fun h => c h.2), if_neg c]
  · unfold txS tx5
    rw [gI_ne (by decide), gI_ne (by decide), gI_ne (by decide), gI_ne (by decide), cpW_ne (by decide), gI_at]
  · unfold txS tx5 tx3 tx2 tx1
    rw [gI_ne (by decide), gI_ne (by decide), gI_ne (by decide), gI_ne (by decide), cpW_ne (by decide), gI_ne (by decide), gI_ne (show 11 ≠ 9 by decide), gI_R, gI_ne (show 11 ≠ 10 by decide), gI_ne (show 11 ≠ 10 by decide), gI_R, cpW_ne (by decide), gI_nn (by decide), gI_nn (by decide), gI_at]
theorem txS_Inv {σ : zSt} (h : Inv σ) {w n : Nat} {b : Nat → Int32} {d : Int32} (hw : w < 2) (hm : txn σ w < 10) (hn : n ≤ 160) (hb : ∀ j, j < n → btw 0 (b j) 255) (hf : tfl w b n = none) : Inv (txS σ (gN σ 10) n w (txn σ w) b (qday σ) d) := by
  have h' := h
  obtain ⟨hO, hC, hN, hH, hK, hF, hS, hL, hG, hD, hT, hX, hZ⟩ := h
  have c15 : gN σ 1100 = gN σ 10 := hC.2.2.2.2.2.2.2.2.2.2.2.2.2.2
  have eN := txS_N σ (gN σ 10) n w (txn σ w) b (qday σ) d
  have eR := txS_R σ (gN σ 10) n w (txn σ w) b (qday σ) d
  have eZ := txS_Z σ (gN σ 10) n w (txn σ w) b (qday σ) d
  obtain ⟨f9, f1354, f101, f102, f1353, f1352, f1351, f1100, f1350, f49, f11⟩ := txS_I σ (gN σ 10) n w (txn σ w) b (qday σ) d rfl c15.symm
  refine ⟨?_, ?_, ?_, ?_, ?_, ?_, ?_, ?_, ?_, ?_, ?_, ?_, ?_⟩
  · intro t i k j hi hfin
    rw [eN] at hi
    rw [eR]
    by_cases t0 : t = 1000
    · subst t0; simp [zfin] at hfin
    · rw [if_neg (fun h => t0 h.1)]
      by_cases t1 : t = 10
      · subst t1
        rw [if_neg (by decide), if_pos rfl] at hi
        by_cases k0 : k = 0
        · subst k0
          have : i = j := by simpa [zfin] using hfin
          by_cases hi2 : i = gN σ 10
          · rw [if_pos ⟨rfl, hi2, rfl⟩, ← this, hi2]
          · rw [if_neg (fun h => hi2 h.2.1), if_neg (fun h => absurd h.1 (by decide)), if_neg (fun h => hi2 h.2)]
            exact hO 10 i 0 j (by omega) hfin
        · simp [zfin, k0] at hfin
      · rw [if_neg (fun h => t1 h.1)]
        by_cases t2 : t = 1100
        · subst t2; simp [zfin] at hfin
        · rw [if_neg (fun h => t2 h.1), if_neg (fun h => t1 h.1)]
          rw [if_neg t2, if_neg t1] at hi
          exact hO t i k j hi hfin
  · obtain ⟨c1, c2, c3, c4, c5, c6, c7, c8, c9, c10, c11, c12, c13, c14, -⟩ := hC
    refine ⟨?_, ?_, ?_, ?_, ?_, ?_, ?_, ?_, ?_, ?_, ?_, ?_, ?_, ?_, ?_⟩ <;> rw [eN] <;> (try rw [eN]) <;> simp (decide := true) only [if_true, if_false] <;> first | assumption | omega
  · unfold txS tx5 tx3 tx2 tx1
    exact (by repeat (first | assumption | refine fr_vC_I rfl ?_ | refine fr_vN_I rfl ?_ | refine fr_vH_I rfl ?_ | refine fr_vK_I rfl ?_ | refine fr_vF_I rfl ?_ | refine fr_vS_I rfl ?_ | refine fr_vL_I rfl ?_ | refine fr_vG_I rfl ?_ | refine fr_vD_I rfl ?_ | refine fr_vT_I rfl ?_ | refine fr_vX_I rfl ?_ | refine fr_vZ_I rfl ?_ | refine fr_vL_R ?_ | refine fr_vC_R rfl ?_ | refine fr_vN_R rfl ?_ | refine fr_vH_R rfl ?_ | refine fr_vK_R rfl ?_ | refine fr_vF_R rfl ?_ | refine fr_vS_R rfl ?_ | refine fr_vG_R rfl ?_ | refine fr_vT_R rfl ?_ | refine fr_vX_R rfl ?_ | refine fr_vZ_R rfl ?_ | refine fr_vD_R (by decide) ?_ | refine fr_vC_N rfl ?_ | refine fr_vN_N rfl ?_ | refine fr_vH_N rfl ?_ | refine fr_vK_N rfl ?_ | refine fr_vF_N rfl ?_ | refine fr_vS_N rfl ?_ | refine fr_vL_N rfl ?_ | refine fr_vG_N rfl ?_ | refine fr_vD_N rfl ?_ | refine fr_vT_N rfl ?_ | refine fr_vX_N rfl ?_ | refine fr_vZ_N rfl ?_ | refine cpW_fr (P := vC) (fun _ _ _ _ h => fr_vC_I rfl h) ?_ | refine cpW_fr (P := vN) (fun _ _ _ _ h => fr_vN_I rfl h) ?_ | refine cpW_fr (P := vH) (fun _ _ _ _ h => fr_vH_I rfl h) ?_ | refine cpW_fr (P := vK) (fun _ _ _ _ h => fr_vK_I rfl h) ?_ | refine cpW_fr (P := vF) (fun _ _ _ _ h => fr_vF_I rfl h) ?_ | refine cpW_fr (P := vS) (fun _ _ _ _ h => fr_vS_I rfl h) ?_ | refine cpW_fr (P := vL) (fun _ _ _ _ h => fr_vL_I rfl h) ?_ | refine cpW_fr (P := vG) (fun _ _ _ _ h => fr_vG_I rfl h) ?_ | refine cpW_fr (P := vD) (fun _ _ _ _ h => fr_vD_I rfl h) ?_ | refine cpW_fr (P := vT) (fun _ _ _ _ h => fr_vT_I rfl h) ?_ | refine cpW_fr (P := vX) (fun _ _ _ _ h => fr_vX_I rfl h) ?_ | refine cpW_fr (P := vZ) (fun _ _ _ _ h => fr_vZ_I rfl h) ?_))
  · unfold txS tx5 tx3 tx2 tx1
    exact (by repeat (first | assumption | refine fr_vC_I rfl ?_ | refine fr_vN_I rfl ?_ | refine fr_vH_I rfl ?_ | refine fr_vK_I rfl ?_ | refine fr_vF_I rfl ?_ | refine fr_vS_I rfl ?_ | refine fr_vL_I rfl ?_ | refine fr_vG_I rfl ?_ | refine fr_vD_I rfl ?_ | refine fr_vT_I rfl ?_ | refine fr_vX_I rfl ?_ | refine fr_vZ_I rfl ?_ | refine fr_vL_R ?_ | refine fr_vC_R rfl ?_ | refine fr_vN_R rfl ?_ | refine fr_vH_R rfl ?_ | refine fr_vK_R rfl ?_ | refine fr_vF_R rfl ?_ | refine fr_vS_R rfl ?_ | refine fr_vG_R rfl ?_ | refine fr_vT_R rfl ?_ | refine fr_vX_R rfl ?_ | refine fr_vZ_R rfl ?_ | refine fr_vD_R (by decide) ?_ | refine fr_vC_N rfl ?_ | refine fr_vN_N rfl ?_ | refine fr_vH_N rfl ?_ | refine fr_vK_N rfl ?_ | refine fr_vF_N rfl ?_ | refine fr_vS_N rfl ?_ | refine fr_vL_N rfl ?_ | refine fr_vG_N rfl ?_ | refine fr_vD_N rfl ?_ | refine fr_vT_N rfl ?_ | refine fr_vX_N rfl ?_ | refine fr_vZ_N rfl ?_ | refine cpW_fr (P := vC) (fun _ _ _ _ h => fr_vC_I rfl h) ?_ | refine cpW_fr (P := vN) (fun _ _ _ _ h => fr_vN_I rfl h) ?_ | refine cpW_fr (P := vH) (fun _ _ _ _ h => fr_vH_I rfl h) ?_ | refine cpW_fr (P := vK) (fun _ _ _ _ h => fr_vK_I rfl h) ?_ | refine cpW_fr (P := vF) (fun _ _ _ _ h => fr_vF_I rfl h) ?_ | refine cpW_fr (P := vS) (fun _ _ _ _ h => fr_vS_I rfl h) ?_ | refine cpW_fr (P := vL) (fun _ _ _ _ h => fr_vL_I rfl h) ?_ | refine cpW_fr (P := vG) (fun _ _ _ _ h => fr_vG_I rfl h) ?_ | refine cpW_fr (P := vD) (fun _ _ _ _ h => fr_vD_I rfl h) ?_ | refine cpW_fr (P := vT) (fun _ _ _ _ h => fr_vT_I rfl h) ?_ | refine cpW_fr (P := vX) (fun _ _ _ _ h => fr_vX_I rfl h) ?_ | refine cpW_fr (P := vZ) (fun _ _ _ _ h => fr_vZ_I rfl h) ?_))
  · unfold txS tx5 tx3 tx2 tx1
    exact (by repeat (first | assumption | refine fr_vC_I rfl ?_ | refine fr_vN_I rfl ?_ | refine fr_vH_I rfl ?_ | refine fr_vK_I rfl ?_ | refine fr_vF_I rfl ?_ | refine fr_vS_I rfl ?_ | refine fr_vL_I rfl ?_ | refine fr_vG_I rfl ?_ | refine fr_vD_I rfl ?_ | refine fr_vT_I rfl ?_ | refine fr_vX_I rfl ?_ | refine fr_vZ_I rfl ?_ | refine fr_vL_R ?_ | refine fr_vC_R rfl ?_ | refine fr_vN_R rfl ?_ | refine fr_vH_R rfl ?_ | refine fr_vK_R rfl ?_ | refine fr_vF_R rfl ?_ | refine fr_vS_R rfl ?_ | refine fr_vG_R rfl ?_ | refine fr_vT_R rfl ?_ | refine fr_vX_R rfl ?_ | refine fr_vZ_R rfl ?_ | refine fr_vD_R (by decide) ?_ | refine fr_vC_N rfl ?_ | refine fr_vN_N rfl ?_ | refine fr_vH_N rfl ?_ | refine fr_vK_N rfl ?_ | refine fr_vF_N rfl ?_ | refine fr_vS_N rfl ?_ | refine fr_vL_N rfl ?_ | refine fr_vG_N rfl ?_ | refine fr_vD_N rfl ?_ | refine fr_vT_N rfl ?_ | refine fr_vX_N rfl ?_ | refine fr_vZ_N rfl ?_ | refine cpW_fr (P := vC) (fun _ _ _ _ h => fr_vC_I rfl h) ?_ | refine cpW_fr (P := vN) (fun _ _ _ _ h => fr_vN_I rfl h) ?_ | refine cpW_fr (P := vH) (fun _ _ _ _ h => fr_vH_I rfl h) ?_ | refine cpW_fr (P := vK) (fun _ _ _ _ h => fr_vK_I rfl h) ?_ | refine cpW_fr (P := vF) (fun _ _ _ _ h => fr_vF_I rfl h) ?_ | refine cpW_fr (P := vS) (fun _ _ _ _ h => fr_vS_I rfl h) ?_ | refine cpW_fr (P := vL) (fun _ _ _ _ h => fr_vL_I rfl h) ?_ | refine cpW_fr (P := vG) (fun _ _ _ _ h => fr_vG_I rfl h) ?_ | refine cpW_fr (P := vD) (fun _ _ _ _ h => fr_vD_I rfl h) ?_ | refine cpW_fr (P := vT) (fun _ _ _ _ h => fr_vT_I rfl h) ?_ | refine cpW_fr (P := vX) (fun _ _ _ _ h => fr_vX_I rfl h) ?_ | refine cpW_fr (P := vZ) (fun _ _ _ _ h => fr_vZ_I rfl h) ?_))
  · unfold txS tx5 tx3 tx2 tx1
    exact (by repeat (first | assumption | refine fr_vC_I rfl ?_ | refine fr_vN_I rfl ?_ | refine fr_vH_I rfl ?_ | refine fr_vK_I rfl ?_ | refine fr_vF_I rfl ?_ | refine fr_vS_I rfl ?_ | refine fr_vL_I rfl ?_ | refine fr_vG_I rfl ?_ | refine fr_vD_I rfl ?_ | refine fr_vT_I rfl ?_ | refine fr_vX_I rfl ?_ | refine fr_vZ_I rfl ?_ | refine fr_vL_R ?_ | refine fr_vC_R rfl ?_ | refine fr_vN_R rfl ?_ | refine fr_vH_R rfl ?_ | refine fr_vK_R rfl ?_ | refine fr_vF_R rfl ?_ | refine fr_vS_R rfl ?_ | refine fr_vG_R rfl ?_ | refine fr_vT_R rfl ?_ | refine fr_vX_R rfl ?_ | refine fr_vZ_R rfl ?_ | refine fr_vD_R (by decide) ?_ | refine fr_vC_N rfl ?_ | refine fr_vN_N rfl ?_ | refine fr_vH_N rfl ?_ | refine fr_vK_N rfl ?_ | refine fr_vF_N rfl ?_ | refine fr_vS_N rfl ?_ | refine fr_vL_N rfl ?_ | refine fr_vG_N rfl ?_ | refine fr_vD_N rfl ?_ | refine fr_vT_N rfl ?_ | refine fr_vX_N rfl ?_ | refine fr_vZ_N rfl ?_ | refine cpW_fr (P := vC) (fun _ _ _ _ h => fr_vC_I rfl h) ?_ | refine cpW_fr (P := vN) (fun _ _ _ _ h => fr_vN_I rfl h) ?_ | refine cpW_fr (P := vH) (fun _ _ _ _ h => fr_vH_I rfl h) ?_ | refine cpW_fr (P := vK) (fun _ _ _ _ h => fr_vK_I rfl h) ?_ | refine cpW_fr (P := vF) (fun _ _ _ _ h => fr_vF_I rfl h) ?_ | refine cpW_fr (P := vS) (fun _ _ _ _ h => fr_vS_I rfl h) ?_ | refine cpW_fr (P := vL) (fun _ _ _ _ h => fr_vL_I rfl h) ?_ | refine cpW_fr (P := vG) (fun _ _ _ _ h => fr_vG_I rfl h) ?_ | refine cpW_fr (P := vD) (fun _ _ _ _ h => fr_vD_I rfl h) ?_ | refine cpW_fr (P := vT) (fun _ _ _ _ h => fr_vT_I rfl h) ?_ | refine cpW_fr (P := vX) (fun _ _ _ _ h => fr_vX_I rfl h) ?_ | refine cpW_fr (P := vZ) (fun _ _ _ _ h => fr_vZ_I rfl h) ?_))
  · unfold txS tx5 tx3 tx2 tx1
    exact (by repeat (first | assumption | refine fr_vC_I rfl ?_ | refine fr_vN_I rfl ?_ | refine fr_vH_I rfl ?_ | refine fr_vK_I rfl ?_ | refine fr_vF_I rfl ?_ | refine fr_vS_I rfl ?_ | refine fr_vL_I rfl ?_ | refine fr_vG_I rfl ?_ | refine fr_vD_I rfl ?_ | refine fr_vT_I rfl ?_ | refine fr_vX_I rfl ?_ | refine fr_vZ_I rfl ?_ | refine fr_vL_R ?_ | refine fr_vC_R rfl ?_ | refine fr_vN_R rfl ?_ | refine fr_vH_R rfl ?_ | refine fr_vK_R rfl ?_ | refine fr_vF_R rfl ?_ | refine fr_vS_R rfl ?_ | refine fr_vG_R rfl ?_ | refine fr_vT_R rfl ?_ | refine fr_vX_R rfl ?_ | refine fr_vZ_R rfl ?_ | refine fr_vD_R (by decide) ?_ | refine fr_vC_N rfl ?_ | refine fr_vN_N rfl ?_ | refine fr_vH_N rfl ?_ | refine fr_vK_N rfl ?_ | refine fr_vF_N rfl ?_ | refine fr_vS_N rfl ?_ | refine fr_vL_N rfl ?_ | refine fr_vG_N rfl ?_ | refine fr_vD_N rfl ?_ | refine fr_vT_N rfl ?_ | refine fr_vX_N rfl ?_ | refine fr_vZ_N rfl ?_ | refine cpW_fr (P := vC) (fun _ _ _ _ h => fr_vC_I rfl h) ?_ | refine cpW_fr (P := vN) (fun _ _ _ _ h => fr_vN_I rfl h) ?_ | refine cpW_fr (P := vH) (fun _ _ _ _ h => fr_vH_I rfl h) ?_ | refine cpW_fr (P := vK) (fun _ _ _ _ h => fr_vK_I rfl h) ?_ | refine cpW_fr (P := vF) (fun _ _ _ _ h => fr_vF_I rfl h) ?_ | refine cpW_fr (P := vS) (fun _ _ _ _ h => fr_vS_I rfl h) ?_ | refine cpW_fr (P := vL) (fun _ _ _ _ h => fr_vL_I rfl h) ?_ | refine cpW_fr (P := vG) (fun _ _ _ _ h => fr_vG_I rfl h) ?_ | refine cpW_fr (P := vD) (fun _ _ _ _ h => fr_vD_I rfl h) ?_ | refine cpW_fr (P := vT) (fun _ _ _ _ h => fr_vT_I rfl h) ?_ | refine cpW_fr (P := vX) (fun _ _ _ _ h => fr_vX_I rfl h) ?_ | refine cpW_fr (P := vZ) (fun _ _ _ _ h => fr_vZ_I rfl h) ?_))
  · unfold txS tx5 tx3 tx2 tx1
    exact (by repeat (first | assumption | refine fr_vC_I rfl ?_ | refine fr_vN_I rfl ?_ | refine fr_vH_I rfl ?_ | refine fr_vK_I rfl ?_ | refine fr_vF_I rfl ?_ | refine fr_vS_I rfl ?_ | refine fr_vL_I rfl ?_ | refine fr_vG_I rfl ?_ | refine fr_vD_I rfl ?_ | refine fr_vT_I rfl ?_ | refine fr_vX_I rfl ?_ | refine fr_vZ_I rfl ?_ | refine fr_vL_R ?_ | refine fr_vC_R rfl ?_ | refine fr_vN_R rfl ?_ | refine fr_vH_R rfl ?_ | refine fr_vK_R rfl ?_ | refine fr_vF_R rfl ?_ | refine fr_vS_R rfl ?_ | refine fr_vG_R rfl ?_ | refine fr_vT_R rfl ?_ | refine fr_vX_R rfl ?_ | refine fr_vZ_R rfl ?_ | refine fr_vD_R (by decide) ?_ | refine fr_vC_N rfl ?_ | refine fr_vN_N rfl ?_ | refine fr_vH_N rfl ?_ | refine fr_vK_N rfl ?_ | refine fr_vF_N rfl ?_ | refine fr_vS_N rfl ?_ | refine fr_vL_N rfl ?_ | refine fr_vG_N rfl ?_ | refine fr_vD_N rfl ?_ | refine fr_vT_N rfl ?_ | refine fr_vX_N rfl ?_ | refine fr_vZ_N rfl ?_ | refine cpW_fr (P := vC) (fun _ _ _ _ h => fr_vC_I rfl h) ?_ | refine cpW_fr (P := vN) (fun _ _ _ _ h => fr_vN_I rfl h) ?_ | refine cpW_fr (P := vH) (fun _ _ _ _ h => fr_vH_I rfl h) ?_ | refine cpW_fr (P := vK) (fun _ _ _ _ h => fr_vK_I rfl h) ?_ | refine cpW_fr (P := vF) (fun _ _ _ _ h => fr_vF_I rfl h) ?_ | refine cpW_fr (P := vS) (fun _ _ _ _ h => fr_vS_I rfl h) ?_ | refine cpW_fr (P := vL) (fun _ _ _ _ h => fr_vL_I rfl h) ?_ | refine cpW_fr (P := vG) (fun _ _ _ _ h => fr_vG_I rfl h) ?_ | refine cpW_fr (P := vD) (fun _ _ _ _ h => fr_vD_I rfl h) ?_ | refine cpW_fr (P := vT) (fun _ _ _ _ h => fr_vT_I rfl h) ?_ | refine cpW_fr (P := vX) (fun _ _ _ _ h => fr_vX_I rfl h) ?_ | refine cpW_fr (P := vZ) (fun _ _ _ _ h => fr_vZ_I rfl h) ?_))
  · unfold txS tx5 tx3 tx2 tx1
    exact (by repeat (first | assumption | refine fr_vC_I rfl ?_ | refine fr_vN_I rfl ?_ | refine fr_vH_I rfl ?_ | refine fr_vK_I rfl ?_ | refine fr_vF_I rfl ?_ | refine fr_vS_I rfl ?_ | refine fr_vL_I rfl ?_ | refine fr_vG_I rfl ?_ | refine fr_vD_I rfl ?_ | refine fr_vT_I rfl ?_ | refine fr_vX_I rfl ?_ | refine fr_vZ_I rfl ?_ | refine fr_vL_R ?_ | refine fr_vC_R rfl ?_ | refine fr_vN_R rfl ?_ | refine fr_vH_R rfl ?_ | refine fr_vK_R rfl ?_ | refine fr_vF_R rfl ?_ | refine fr_vS_R rfl ?_ | refine fr_vG_R rfl ?_ | refine fr_vT_R rfl ?_ | refine fr_vX_R rfl ?_ | refine fr_vZ_R rfl ?_ | refine fr_vD_R (by decide) ?_ | refine fr_vC_N rfl ?_ | refine fr_vN_N rfl ?_ | refine fr_vH_N rfl ?_ | refine fr_vK_N rfl ?_ | refine fr_vF_N rfl ?_ | refine fr_vS_N rfl ?_ | refine fr_vL_N rfl ?_ | refine fr_vG_N rfl ?_ | refine fr_vD_N rfl ?_ | refine fr_vT_N rfl ?_ | refine fr_vX_N rfl ?_ | refine fr_vZ_N rfl ?_ | refine cpW_fr (P := vC) (fun _ _ _ _ h => fr_vC_I rfl h) ?_ | refine cpW_fr (P := vN) (fun _ _ _ _ h => fr_vN_I rfl h) ?_ | refine cpW_fr (P := vH) (fun _ _ _ _ h => fr_vH_I rfl h) ?_ | refine cpW_fr (P := vK) (fun _ _ _ _ h => fr_vK_I rfl h) ?_ | refine cpW_fr (P := vF) (fun _ _ _ _ h => fr_vF_I rfl h) ?_ | refine cpW_fr (P := vS) (fun _ _ _ _ h => fr_vS_I rfl h) ?_ | refine cpW_fr (P := vL) (fun _ _ _ _ h => fr_vL_I rfl h) ?_ | refine cpW_fr (P := vG) (fun _ _ _ _ h => fr_vG_I rfl h) ?_ | refine cpW_fr (P := vD) (fun _ _ _ _ h => fr_vD_I rfl h) ?_ | refine cpW_fr (P := vT) (fun _ _ _ _ h => fr_vT_I rfl h) ?_ | refine cpW_fr (P := vX) (fun _ _ _ _ h => fr_vX_I rfl h) ?_ | refine cpW_fr (P := vZ) (fun _ _ _ _ h => fr_vZ_I rfl h) ?_))
  · unfold txS tx5 tx3 tx2 tx1
    exact (by repeat (first | assumption | refine fr_vC_I rfl ?_ | refine fr_vN_I rfl ?_ | refine fr_vH_I rfl ?_ | refine fr_vK_I rfl ?_ | refine fr_vF_I rfl ?_ | refine fr_vS_I rfl ?_ | refine fr_vL_I rfl ?_ | refine fr_vG_I rfl ?_ | refine fr_vD_I rfl ?_ | refine fr_vT_I rfl ?_ | refine fr_vX_I rfl ?_ | refine fr_vZ_I rfl ?_ | refine fr_vL_R ?_ | refine fr_vC_R rfl ?_ | refine fr_vN_R rfl ?_ | refine fr_vH_R rfl ?_ | refine fr_vK_R rfl ?_ | refine fr_vF_R rfl ?_ | refine fr_vS_R rfl ?_ | refine fr_vG_R rfl ?_ | refine fr_vT_R rfl ?_ | refine fr_vX_R rfl ?_ | refine fr_vZ_R rfl ?_ | refine fr_vD_R (by decide) ?_ | refine fr_vC_N rfl ?_ | refine fr_vN_N rfl ?_ | refine fr_vH_N rfl ?_ | refine fr_vK_N rfl ?_ | refine fr_vF_N rfl ?_ | refine fr_vS_N rfl ?_ | refine fr_vL_N rfl ?_ | refine fr_vG_N rfl ?_ | refine fr_vD_N rfl ?_ | refine fr_vT_N rfl ?_ | refine fr_vX_N rfl ?_ | refine fr_vZ_N rfl ?_ | refine cpW_fr (P := vC) (fun _ _ _ _ h => fr_vC_I rfl h) ?_ | refine cpW_fr (P := vN) (fun _ _ _ _ h => fr_vN_I rfl h) ?_ | refine cpW_fr (P := vH) (fun _ _ _ _ h => fr_vH_I rfl h) ?_ | refine cpW_fr (P := vK) (fun _ _ _ _ h => fr_vK_I rfl h) ?_ | refine cpW_fr (P := vF) (fun _ _ _ _ h => fr_vF_I rfl h) ?_ | refine cpW_fr (P := vS) (fun _ _ _ _ h => fr_vS_I rfl h) ?_ | refine cpW_fr (P := vL) (fun _ _ _ _ h => fr_vL_I rfl h) ?_ | refine cpW_fr (P := vG) (fun _ _ _ _ h => fr_vG_I rfl h) ?_ | refine cpW_fr (P := vD) (fun _ _ _ _ h => fr_vD_I rfl h) ?_ | refine cpW_fr (P := vT) (fun _ _ _ _ h => fr_vT_I rfl h) ?_ | refine cpW_fr (P := vX) (fun _ _ _ _ h => fr_vX_I rfl h) ?_ | refine cpW_fr (P := vZ) (fun _ _ _ _ h => fr_vZ_I rfl h) ?_))
  · unfold vT tpn
    rw [f49, f11]
    exact ⟨rfl, rfl, by decide, fun i hi => absurd hi (Nat.not_lt_zero _)⟩
  · intro w' hw'
    obtain ⟨x1, x2, x3, x4⟩ := hX w' hw'
    have et : txn (txS σ (gN σ 10) n w (txn σ w) b (qday σ) d) w' = if w' = w then txn σ w + 1 else txn σ w' := by
      show nT (gI (txS σ (gN σ 10) n w (txn σ w) b (qday σ) d) 1354 0 w') = _
      rw [f1354]
      by_cases c : w' = w
      · rw [if_pos c, if_pos c]
        show (nI (txn σ w + 1)).toInt.toNat = _
        rw [nI_ti (by omega)]
        rfl
      · rw [if_neg c, if_neg c]
        rfl
    have old : ∀ i, ¬ (w' = w ∧ i = txn σ w) → i < txn σ w' → vX1 (txS σ (gN σ 10) n w (txn σ w) b (qday σ) d) w' i := fun i hne hi => by
      obtain ⟨t, y1, y2, y3, y4, y5, y6, y7, y8⟩ := x4 i hi
      have ht : ¬ t = gN σ 10 := by omega
      have hk : ¬ 10 * w' + i = 10 * w + txn σ w := by omega
      have rowne : ∀ j, j < 160 → gI (txS σ (gN σ 10) n w (txn σ w) b (qday σ) d) 1350 0 (160 * (10 * w' + i) + j) = gI σ 1350 0 (160 * (10 * w' + i) + j) := fun j hj => by
        rw [f1350, if_neg (by omega)]
      have ezt : gZ (txS σ (gN σ 10) n w (txn σ w) b (qday σ) d) 1100 t = gZ σ 1100 t := by rw [eZ, if_neg (by omega)]
      refine ⟨t, ?_, ?_, ?_, ?_, ?_, ?_, ?_, ?_⟩
      · rw [eN, if_neg (by decide), if_pos rfl]; omega
      · rw [eR, if_neg (fun h => hne h.2), if_neg (by omega), if_neg (by omega), if_neg (by omega)]; exact y2
      · rw [f101, f1353, if_neg ht, if_neg hk]; exact y3
      · rw [f102, f1352, if_neg ht, if_neg hk]; exact y4
      · rw [f1351, if_neg hk, ezt]; exact y5
      · rw [ezt]; exact y6
      · intro j hj
        rw [ezt] at hj
        rw [f1100, if_neg ht, rowne j (by omega)]
        exact y7 j hj
      · rw [ezt]
        constructor
        · intro hw0
          rw [← y8.1 hw0]
          exact wrR_cg _ 0 0 0 fun j _ hj => rowne j (by omega)
        · intro hw0
          rw [← y8.2 hw0]
          exact frR_cg _ 0 0 0 true false fun j _ hj => rowne j (by omega)
    refine ⟨?_, ?_, ?_, ?_⟩
    · rw [et, f1354]
      by_cases c : w' = w
      · rw [if_pos c, if_pos c]
      · rw [if_neg c, if_neg c]; exact x1
    · rw [et, f9]
      by_cases c : w' = w
      · rw [if_pos c, if_pos c]
      · rw [if_neg c, if_neg c]; exact x2
    · rw [et]
      by_cases c : w' = w
      · rw [if_pos c]; omega
      · rw [if_neg c]; exact x3
    · intro i hi
      rw [et] at hi
      by_cases c : w' = w
      · rw [if_pos c] at hi
        by_cases ci : i = txn σ w
        · subst c
          subst ci
          have ezt : gZ (txS σ (gN σ 10) n w' (txn σ w') b (qday σ) d) 1100 (gN σ 10) = n := by rw [eZ, if_pos c15.symm]
          have row : ∀ j, j < n → gI (txS σ (gN σ 10) n w' (txn σ w') b (qday σ) d) 1350 0 (160 * (10 * w' + txn σ w') + j) = b j := fun j hj => by
            rw [f1350, if_pos (by omega), Nat.add_sub_cancel_left]
          refine ⟨gN σ 10, ?_, ?_, ?_, ?_, ?_, ?_, ?_, ?_⟩
          · rw [eN, if_neg (by decide), if_pos rfl]; omega
          · rw [eR, if_pos ⟨rfl, rfl, rfl⟩]
          · rw [f101, f1353, if_pos rfl, if_pos rfl]
          · rw [f102, f1352, if_pos rfl, if_pos rfl]
          · rw [f1351, if_pos rfl, ezt]
          · rw [ezt]; exact hn
          · intro j hj
            rw [ezt] at hj
            rw [f1100, if_pos rfl, if_pos hj, row j hj]
            exact ⟨rfl, hb j hj⟩
          · rw [ezt]
            exact tfl_ok hf row
        · exact old i (fun h => ci h.2) (by rw [c]; omega)
      · rw [if_neg c] at hi
        exact old i (fun h => c h.1) hi
  · unfold txS tx5 tx3 tx2 tx1
    exact (by repeat (first | assumption | refine fr_vC_I rfl ?_ | refine fr_vN_I rfl ?_ | refine fr_vH_I rfl ?_ | refine fr_vK_I rfl ?_ | refine fr_vF_I rfl ?_ | refine fr_vS_I rfl ?_ | refine fr_vL_I rfl ?_ | refine fr_vG_I rfl ?_ | refine fr_vD_I rfl ?_ | refine fr_vT_I rfl ?_ | refine fr_vX_I rfl ?_ | refine fr_vZ_I rfl ?_ | refine fr_vL_R ?_ | refine fr_vC_R rfl ?_ | refine fr_vN_R rfl ?_ | refine fr_vH_R rfl ?_ | refine fr_vK_R rfl ?_ | refine fr_vF_R rfl ?_ | refine fr_vS_R rfl ?_ | refine fr_vG_R rfl ?_ | refine fr_vT_R rfl ?_ | refine fr_vX_R rfl ?_ | refine fr_vZ_R rfl ?_ | refine fr_vD_R (by decide) ?_ | refine fr_vC_N rfl ?_ | refine fr_vN_N rfl ?_ | refine fr_vH_N rfl ?_ | refine fr_vK_N rfl ?_ | refine fr_vF_N rfl ?_ | refine fr_vS_N rfl ?_ | refine fr_vL_N rfl ?_ | refine fr_vG_N rfl ?_ | refine fr_vD_N rfl ?_ | refine fr_vT_N rfl ?_ | refine fr_vX_N rfl ?_ | refine fr_vZ_N rfl ?_ | refine cpW_fr (P := vC) (fun _ _ _ _ h => fr_vC_I rfl h) ?_ | refine cpW_fr (P := vN) (fun _ _ _ _ h => fr_vN_I rfl h) ?_ | refine cpW_fr (P := vH) (fun _ _ _ _ h => fr_vH_I rfl h) ?_ | refine cpW_fr (P := vK) (fun _ _ _ _ h => fr_vK_I rfl h) ?_ | refine cpW_fr (P := vF) (fun _ _ _ _ h => fr_vF_I rfl h) ?_ | refine cpW_fr (P := vS) (fun _ _ _ _ h => fr_vS_I rfl h) ?_ | refine cpW_fr (P := vL) (fun _ _ _ _ h => fr_vL_I rfl h) ?_ | refine cpW_fr (P := vG) (fun _ _ _ _ h => fr_vG_I rfl h) ?_ | refine cpW_fr (P := vD) (fun _ _ _ _ h => fr_vD_I rfl h) ?_ | refine cpW_fr (P := vT) (fun _ _ _ _ h => fr_vT_I rfl h) ?_ | refine cpW_fr (P := vX) (fun _ _ _ _ h => fr_vX_I rfl h) ?_ | refine cpW_fr (P := vZ) (fun _ _ _ _ h => fr_vZ_I rfl h) ?_))
