/-- a call on both sides: the same answer, and the invariant behind it -/
def Ok2 (a : Option (Int32 × zSt)) (b : zSt → Option (Int32 × zSt)) : Prop := ∃ r s1 s2, a = some (r, s1) ∧ zOK s1 ∧ b s1 = some (r, s2) ∧ Inv s2
theorem Ok2.same {σ : zSt} {a : Option (Int32 × zSt)} {b : zSt → Option (Int32 × zSt)} {r : Int32} (h : Inv σ) (h1 : a = some (r, σ)) (h2 : b σ = some (r, σ)) : Ok2 a b := ⟨r, σ, σ, h1, h.1, h2, h⟩
theorem t_lots {σ : zSt} (h : Inv σ) (v : Int32) : Ok2 (f11_lots v σ) (f12_lots v) := by
  obtain ⟨hO, hC, hN, hH, hK, hF, hS, hL, hG, hD, hT, hX, hZ⟩ := h
  refine ⟨1, pI σ 11 0 9 v, pI (pI σ 11 0 9 v) 12 0 55 v, rfl, hO, rfl, hO, hC, ?_, fr_vH_I rfl (fr_vH_I rfl hH), fr_vK_I rfl (fr_vK_I rfl hK), fr_vF_I rfl (fr_vF_I rfl hF), fr_vS_I rfl (fr_vS_I rfl hS), fr_vL_I rfl (fr_vL_I rfl hL), fr_vG_I rfl (fr_vG_I rfl hG), fr_vD_I rfl (fr_vD_I rfl hD), fr_vT_I rfl (fr_vT_I rfl hT), fr_vX_I rfl (fr_vX_I rfl hX), fr_vZ_I rfl (fr_vZ_I rfl hZ)⟩
  simp only [vN, qday] at hN ⊢
  simp [gI_pI, gN_I, hN]
theorem i_not_lt {a b : Int32} : ¬ a < b ↔ b ≤ a := by rw [i_lt, i_le]; omega
/-- the day goes on: what bounds the days by today stays -/
theorem dy_vF {σ : zSt} {d : Int32} (hd : (qday σ).toInt ≤ d.toInt) (H : vF σ) : vF (pI σ 12 0 0 d) := by
  intro f hf
  obtain ⟨a1, a2, a3, a4, a5, a6, a7, a8, a9, a10, a11, a12, a13, a14, a15, ⟨a16, a17⟩, a18⟩ := H f hf
  simp only [qday] at a17 hd
  exact ⟨a1, a2, a3, a4, a5, a6, a7, a8, a9, a10, a11, a12, a13, a14, a15, ⟨a16, (by show (gI σ 1322 0 f).toInt ≤ d.toInt; omega)⟩, a18⟩
theorem dy_vS {σ : zSt} {d : Int32} (hd : (qday σ).toInt ≤ d.toInt) (H : vS σ) : vS (pI σ 12 0 0 d) := by
  intro f hf
  obtain ⟨a, b, c, e, g, i, j, k, l⟩ := H f hf
  simp only [qday] at g hd
  refine ⟨a, b, c, e, fun n hn => ?_, i, j, k, l⟩
  obtain ⟨g1, g2, g3, g4, g5, g6, g7⟩ := g n hn
  refine ⟨g1, g2, g3, g4, g5, g6, ?_⟩
  show (sD σ f n).toInt ≤ d.toInt
  omega
theorem dy_vG {σ : zSt} {d : Int32} (hd : (qday σ).toInt ≤ d.toInt) (H : vG σ) : vG (pI σ 12 0 0 d) := by
  refine ⟨fun f hf => ?_, H.2⟩
  obtain ⟨a, b, c, e, g⟩ := H.1 f hf
  simp only [qday] at c hd
  refine ⟨a, b, fun n hn => ?_, e, g⟩
  obtain ⟨g1, g2, g3⟩ := c n hn
  refine ⟨g1, g2, ?_⟩
  show (rD σ f n).toInt ≤ d.toInt
  omega
theorem t_days {σ : zSt} (h : Inv σ) (v : Int32) : Ok2 (f11_days v σ) (f12_days v) := by
  have h' := h
  obtain ⟨hO, hC, hN, hH, hK, hF, hS, hL, hG, hD, hT, hX, hZ⟩ := h
  have e6 : gI σ 11 0 6 = gI σ 12 0 0 := hN.2.2.2.2.2.2.2.2.2.1
  have hq : btw 0 (gI σ 12 0 0) 9999 := hN.2.2.2.2.2.2.2.2.2.2.1
  unfold btw at hq
  by_cases hv : 1 ≤ v.toInt ∧ v.toInt ≤ 360
  · by_cases hd : gI σ 12 0 0 + v ≤ 9999
    · have hadd : (gI σ 12 0 0 + v).toInt = (gI σ 12 0 0).toInt + v.toInt := by
        rw [Int32.toInt_add, Int.bmod_eq_of_le] <;> omega
      have hd' : (gI σ 12 0 0).toInt + v.toInt ≤ 9999 := by rw [← hadd]; exact (i_le _ _).mp hd
      refine ⟨gI σ 12 0 0 + v, pI σ 11 0 6 (gI σ 11 0 6 + v), pI (pI σ 11 0 6 (gI σ 11 0 6 + v)) 12 0 0 (gI σ 12 0 0 + v), ?_, hO, ?_, ?_⟩
      · unfold f11_days
        rw [if_neg (by rw [i_lt]; simp only [Int32.reduceToInt]; omega), if_neg (by rw [i_lt]; simp only [Int32.reduceToInt]; omega), if_pos (by rw [e6]; exact hd)]
        simp only [zlt_s, gI_pI, e6, and_self, if_true]
      · unfold f12_days
        simp only [e_within, zc1_s, t01, Int32.reduceToInt]
        rw [if_neg (by omega)]
        simp only [zlt_s, gI_pI, e6]
        simp [hd]
      · refine ⟨hO, hC, ?_, fr_vH_I rfl (fr_vH_I rfl hH), fr_vK_I rfl (fr_vK_I rfl hK), ?_, ?_, fr_vL_I rfl (fr_vL_I rfl hL), ?_, fr_vD_I rfl (fr_vD_I rfl hD), fr_vT_I rfl (fr_vT_I rfl hT), fr_vX_I rfl (fr_vX_I rfl hX), fr_vZ_I rfl (fr_vZ_I rfl hZ)⟩
        · simp only [vN, qday] at hN ⊢
          obtain ⟨n1, n2, n3, n4, n5, n6, n7, n8, n9, n10, n11, n12⟩ := hN
          exact ⟨n1, n2, n3, n4, n5, n6, n7, n8, n9, (by show gI σ 11 0 6 + v = gI σ 12 0 0 + v; rw [e6]), (by show btw 0 (gI σ 12 0 0 + v) 9999; unfold btw; rw [hadd]; omega), n12⟩
        · exact dy_vF (by show (gI σ 12 0 0).toInt ≤ _; rw [hadd]; omega) (fr_vF_I rfl hF)
        · exact dy_vS (by show (gI σ 12 0 0).toInt ≤ _; rw [hadd]; omega) (fr_vS_I rfl hS)
        · exact dy_vG (by show (gI σ 12 0 0).toInt ≤ _; rw [hadd]; omega) (fr_vG_I rfl hG)
    · refine Ok2.same h' (r := -1) ?_ ?_
      · unfold f11_days
        rw [if_neg (by rw [i_lt]; simp only [Int32.reduceToInt]; omega), if_neg (by rw [i_lt]; simp only [Int32.reduceToInt]; omega), if_neg (by rw [e6]; exact hd)]
      · unfold f12_days
        simp only [e_within, zc1_s, t01, Int32.reduceToInt]
        rw [if_neg (by omega), if_neg hd]
  · refine Ok2.same h' (r := -1) ?_ ?_
    · unfold f11_days
      by_cases h1 : v < 1
      · rw [if_pos h1]
      · rw [if_neg h1, if_pos (by rw [i_lt] at h1 ⊢; simp only [Int32.reduceToInt] at h1 ⊢; omega)]
    · unfold f12_days
      simp only [e_within, zc1_s, t01, Int32.reduceToInt]
      rw [if_pos hv]
