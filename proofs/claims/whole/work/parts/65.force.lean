def hlp (p : Nat → Bool) : Nat → Int32
  | 0 => -1
  | n + 1 => if p n then nI n else hlp p n
theorem hlp_in {p : Nat → Bool} : ∀ n, n < 1000 → (hlp p n = -1 ∧ ∀ j, j < n → p j = false) ∨ ∃ j, j < n ∧ hlp p n = nI j ∧ p j = true
  | 0, _ => Or.inl ⟨rfl, fun j hj => by omega⟩
  | n + 1, hn => by
    unfold hlp
    by_cases e : p n = true
    · rw [if_pos e]
      exact Or.inr ⟨n, by omega, rfl, e⟩
    · rw [if_neg e]
      rcases hlp_in (p := p) n (by omega) with ⟨h1, h2⟩ | ⟨j, h1, h2, h3⟩
      · refine Or.inl ⟨h1, fun j hj => ?_⟩
        by_cases c : j = n
        · rw [c]; exact Bool.eq_false_iff.mpr e
        · exact h2 j (by omega)
      · exact Or.inr ⟨j, by omega, h2, h3⟩
def phl (σ : zSt) (w h : Nat) (k : Int32) (j : Nat) : Bool := !decide (k < gI σ 1353 0 (10 * w + j)) && !decide (gI σ 1305 0 h < gI σ 1352 0 (10 * w + j))
def frc (σ : zSt) (w h : Nat) (k : Int32) : Int32 := hlp (phl σ w h k) (txn σ w)
theorem m_force {σ : zSt} {w h : Nat} (hw : w < 2) (hh : h < 40) (hN : gI σ 1354 0 w = nI (txn σ w)) (h10 : txn σ w ≤ 10) (k : Int32) : f12_force (nI w) (nI h) k σ = some (frc σ w h k) := by
  unfold f12_force frc
  have key : ∀ d i m, i + d = txn σ w → d < m → f12_force_L6 (nI w) (nI h) k σ m (hlp (phl σ w h k) i) (nI i) = some (hlp (phl σ w h k) (txn σ w)) := by
    intro d
    induction d with
    | zero =>
      intro i m hi hm
      obtain ⟨m, rfl⟩ : ∃ q, m = q + 1 := ⟨m - 1, by omega⟩
      obtain rfl : i = txn σ w := by omega
      rw [f12_force_L6, zix_s hw (by decide), hN, if_pos (zn_rle _)]
    | succ d ih =>
      intro i m hi hm
      obtain ⟨m, rfl⟩ : ∃ q, m = q + 1 := ⟨m - 1, by omega⟩
      have hi2 : i < txn σ w := by omega
      have k20 : 10 * w + i < 20 := by omega
      rw [← ih (i + 1) m (by omega) (by omega), f12_force_L6, zix_s hw (by decide), hN, if_neg (zn_nle hi2 (by omega)), nI_row10 w i (by omega), zlt_s, zix_s k20 (by decide), zlt_s, zlt_s, zix_s k20 (by decide), zix_s hh (by decide), nI_suc i (by omega)]
      show _ = f12_force_L6 (nI w) (nI h) k σ m (if phl σ w h k i then nI i else hlp (phl σ w h k) i) (nI (i + 1))
      unfold phl
      by_cases c1 : k < gI σ 1353 0 (10 * w + i)
      · rw [if_pos c1, decide_eq_true c1]; rfl
      · rw [if_neg c1, decide_eq_false c1]
        by_cases c2 : gI σ 1305 0 h < gI σ 1352 0 (10 * w + i)
        · rw [if_pos c2, decide_eq_true c2]; rfl
        · rw [if_neg c2, decide_eq_false c2]; rfl
  exact key (txn σ w) 0 zfuel (by omega) (zfuel_pos (by omega))
theorem X_at {σ : zSt} (h : Inv σ) {w : Nat} (hw : w < 2) : gI σ 1354 0 w = nI (txn σ w) ∧ gI σ 9 w 1 = nI (txn σ w) ∧ txn σ w ≤ 10 ∧ ∀ i, i < txn σ w → vX1 σ w i := h.2.2.2.2.2.2.2.2.2.2.2.1 w hw
theorem e_holding {σ : zSt} (h : Inv σ) {w i : Nat} (hw : w < 2) (hi : i < mH σ) (k : Int32) : f9_holding w i k σ = some (zpl (frc σ w i k)) := by
  obtain ⟨x1, x2, x3, x4⟩ := X_at h hw
  have hk := (A_H h hi).2.2.2.2.2.1
  have key : ∀ n m, n ≤ txn σ w → n < m → f9_holding_L7 w i k σ m (nI n - 1) = some (zpl (hlp (phl σ w i k) n)) := by
    intro n
    induction n with
    | zero =>
      intro m hn hm
      obtain ⟨m, rfl⟩ : ∃ q, m = q + 1 := ⟨m - 1, by omega⟩
      rw [f9_holding_L7, if_pos (by decide +kernel)]
      rfl
    | succ n ih =>
      intro m hn hm
      obtain ⟨m, rfl⟩ : ∃ q, m = q + 1 := ⟨m - 1, by omega⟩
      have ih := ih m (by omega) (by omega)
      obtain ⟨t, t1, t2, t3, t4, -⟩ := x4 n (by omega)
      rw [sub1' (n + 1) (by omega), Nat.add_sub_cancel, f9_holding_L7, if_neg (by rw [i_lt, nI_ti (show n < 2 ^ 31 by omega)]; simp only [Int32.reduceToInt]; omega), zix_s (show n < 10 by omega) (by decide), zlt_s, t2, zoc_s, zlt_s, zlt_s, nm1 (nI n), ih, zix_s (show n < 10 by omega) (by decide), t2, zlt_s, zoc_s, t3, t4, hk]
      show _ = some (zpl (if phl σ w i k n then nI n else hlp (phl σ w i k) n))
      rw [show phl σ w i k n = (!decide (k < gI σ 1353 0 (10 * w + n)) && !decide (gI σ 1305 0 i < gI σ 1352 0 (10 * w + n))) from rfl]
      by_cases c1 : k < gI σ 1353 0 (10 * w + n)
      · rw [if_pos c1, decide_eq_true c1]; rfl
      · rw [if_neg c1, decide_eq_false c1]
        by_cases c2 : gI σ 1305 0 i < gI σ 1352 0 (10 * w + n)
        · rw [if_pos c2, decide_eq_true c2]; rfl
        · rw [if_neg c2, decide_eq_false c2]
          show some (nI n) = some (zpl (nI n))
          rw [zpl_pos (by rw [nI_ti (by omega)]; omega)]
  unfold f9_holding frc
  rw [zlt_s, x2]
  exact key (txn σ w) zfuel (Nat.le_refl _) (zfuel_pos (by omega))
theorem e_at {σ : zSt} (h : Inv σ) {w : Nat} (hw : w < 2) (x : Int32) : (∃ i t, i < txn σ w ∧ x = nI i ∧ gR σ 1000 w i = some t ∧ f9_at w x σ = some (some t)) ∨ (¬ (0 ≤ x.toInt ∧ x.toInt < txn σ w) ∧ f9_at w x σ = some none) := by
  obtain ⟨x1, x2, x3, x4⟩ := X_at h hw
  unfold f9_at
  rw [x2]
  rcases zcase x (txn σ w) (by omega) with ⟨i, hi, rfl, hv⟩ | hv
  · obtain ⟨t, t1, t2, -⟩ := x4 i hi
    refine Or.inl ⟨i, t, hi, rfl, t2, ?_⟩
    rw [e_at_in hi (Nat.le_refl _) (by omega), zc1_s, if_neg (by decide), zix_s (show i < 10 by omega) (by decide), zlt_s, t2]
  · refine Or.inr ⟨hv, ?_⟩
    rw [e_at_out (by omega) hv, zc1_s, if_pos rfl]
theorem t_inForce {σ : zSt} (h : Inv σ) (v1 v2 v3 : Int32) : Ok1 (f11_inForce v1 v2 v3 σ) (f12_inForce v1 v2 v3 σ) := by
  have hr := RI_of h
  have cases2 : ∀ w, w < 2 → Ok1 (f11_inForce (nI w) v2 v3 σ) (f12_inForce (nI w) v2 v3 σ) := by
    intro w hw
    obtain ⟨x1, x2, x3, x4⟩ := X_at h hw
    have ci : f11_isIn (nI w) 2 σ = some 1 := by
      rw [e_isIn, nI_ti (by omega), if_pos (by simp only [Int32.reduceToInt]; omega)]
    have mi : f12_within (nI w) 0 1 σ = some 1 := by
      rw [e_within, nI_ti (by omega), if_pos (by simp only [Int32.reduceToInt]; omega)]
    rcases zcase v2 (mH σ) (by have := hr.1.2; omega) with ⟨i, hi, rfl, hv⟩ | hv
    · have hi4 : i < 40 := Nat.lt_of_lt_of_le hi hr.1.2
      have a := A_H h hi
      have a6 := a.2.2.2.2.2.1
      have hb := (hr.2.2.2.2.2.1 i hi).2.2.1
      have ck := e_hasKey (σ := σ) (i := i) (by rw [a6]; exact hb)
      by_cases hd : 0 ≤ v3.toInt ∧ v3.toInt < 10000
      · by_cases hk : 0 ≤ (gI σ 1305 0 i).toInt
        · refine ⟨zpl (frc σ w i v3), ?_, ?_⟩
          · unfold f11_inForce
            rw [e_hAt h hi, zc1_s, ci, zc1_s, if_neg (by decide), zoc_s, e_isDay, zc1_s, if_neg (by rw [t01]; omega), ck, zc1_s, if_neg (by rw [t01, a6]; omega)]
            rcases (by omega : w = 0 ∨ w = 1) with rfl | rfl
            · rw [if_pos (show nI 0 = 0 from rfl), e_holding h (by decide) hi, zc1_s]
            · rw [if_neg (show ¬ nI 1 = 0 by decide), e_holding h (by decide) hi, zc1_s]
          · unfold f12_inForce
            rw [mi, zc1_s, if_neg (by decide), m_isH hr, zc1_s, if_neg (by rw [t01]; omega), zix_s hi4 (by decide), if_neg (by rw [i_lt]; simp only [Int32.reduceToInt]; omega), m_isDay, zc1_s, if_neg (by rw [t01]; omega), m_force hw hi4 x1 x3, zc1_s]
            unfold frc
            rcases hlp_in (p := phl σ w i v3) (txn σ w) (by omega) with ⟨e, -⟩ | ⟨j, j1, j2, -⟩
            · rw [e]; rfl
            · rw [j2, if_pos (show (0 : Int32) ≤ nI j by rw [i_le, nI_ti (by omega)]; simp only [Int32.reduceToInt]; omega), zpl_pos (by rw [nI_ti (by omega)]; omega)]
        · refine ⟨-1, ?_, ?_⟩
          · unfold f11_inForce
            rw [e_hAt h hi, zc1_s, ci, zc1_s, if_neg (by decide), zoc_s, e_isDay, zc1_s, if_neg (by rw [t01]; omega), ck, zc1_s, if_pos (by rw [t01, a6]; exact hk)]
          · unfold f12_inForce
            rw [mi, zc1_s, if_neg (by decide), m_isH hr, zc1_s, if_neg (by rw [t01]; omega), zix_s hi4 (by decide), if_pos (by rw [i_lt]; simp only [Int32.reduceToInt]; omega)]
      · refine ⟨-1, ?_, ?_⟩
        · unfold f11_inForce
          rw [e_hAt h hi, zc1_s, ci, zc1_s, if_neg (by decide), zoc_s, e_isDay, zc1_s, if_pos (by rw [t01]; omega)]
        · unfold f12_inForce
          rw [mi, zc1_s, if_neg (by decide), m_isH hr, zc1_s, if_neg (by rw [t01]; omega), zix_s hi4 (by decide), m_isDay, zc1_s]
          by_cases c : gI σ 1305 0 i < 0
          · rw [if_pos c]
          · rw [if_neg c, if_pos (by rw [t01]; omega)]
    · refine ⟨-1, ?_, ?_⟩
      · unfold f11_inForce
        rw [e_hAt_o h hv, zc1_s, ci, zc1_s, if_neg (by decide), zoc_n]
      · unfold f12_inForce
        rw [mi, zc1_s, if_neg (by decide), m_isH hr, zc1_s, if_pos (by rw [t01]; exact hv)]
  rcases zcase v1 2 (by decide) with ⟨w, hw, rfl, hv⟩ | hv
  · exact cases2 w hw
  · refine ⟨-1, ?_, ?_⟩
    · unfold f11_inForce
      rcases zcase v2 (mH σ) (by have := hr.1.2; omega) with ⟨i, hi, rfl, hv2⟩ | hv2
      · rw [e_hAt h hi, zc1_s, e_isIn, zc1_s, if_pos (by rw [t01]; exact hv)]
      · rw [e_hAt_o h hv2, zc1_s, e_isIn, zc1_s, if_pos (by rw [t01]; exact hv)]
    · unfold f12_inForce
      rw [e_within, zc1_s, if_pos (by rw [t01]; simp only [Int32.reduceToInt]; omega)]
