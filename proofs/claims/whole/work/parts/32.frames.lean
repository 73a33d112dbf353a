theorem gI_ne {σ : zSt} {t i k a : Nat} {v : Int32} (h : a ≠ t) : gI (pI σ t i k v) a = gI σ a := by
  funext b c; rw [gI_pI, if_neg fun z => h z.1]
theorem gI_nk {σ : zSt} {t i k a c : Nat} {v : Int32} (h : ¬ (a = t ∧ c = k)) (b : Nat) : gI (pI σ t i k v) a b c = gI σ a b c := by
  rw [gI_pI, if_neg fun z => h ⟨z.1, z.2.2⟩]
theorem gR_ne {σ : zSt} {t i k a : Nat} {v : Option Nat} (h : a ≠ t) : gR (pR σ t i k v) a = gR σ a := by
  funext b c; rw [gR_pR, if_neg fun z => h z.1]
theorem gR_nk {σ : zSt} {t i k a c : Nat} {v : Option Nat} (h : ¬ (a = t ∧ c = k)) (b : Nat) : gR (pR σ t i k v) a b c = gR σ a b c := by
  rw [gR_pR, if_neg fun z => h ⟨z.1, z.2.2⟩]
theorem gN_I {σ : zSt} {t i k : Nat} {v : Int32} : gN (pI σ t i k v) = gN σ := rfl
theorem gR_I {σ : zSt} {t i k : Nat} {v : Int32} : gR (pI σ t i k v) = gR σ := rfl
theorem gZ_I {σ : zSt} {t i k : Nat} {v : Int32} : gZ (pI σ t i k v) = gZ σ := rfl
theorem gN_R {σ : zSt} {t i k : Nat} {v : Option Nat} : gN (pR σ t i k v) = gN σ := rfl
theorem gI_R {σ : zSt} {t i k : Nat} {v : Option Nat} : gI (pR σ t i k v) = gI σ := rfl
theorem gZ_R {σ : zSt} {t i k : Nat} {v : Option Nat} : gZ (pR σ t i k v) = gZ σ := rfl
theorem gN_L {σ : zSt} {t i k : Nat} {v : Int64} : gN (pL σ t i k v) = gN σ := rfl
theorem gI_L {σ : zSt} {t i k : Nat} {v : Int64} : gI (pL σ t i k v) = gI σ := rfl
theorem gR_L {σ : zSt} {t i k : Nat} {v : Int64} : gR (pL σ t i k v) = gR σ := rfl
theorem gZ_L {σ : zSt} {t i k : Nat} {v : Int64} : gZ (pL σ t i k v) = gZ σ := rfl
/-- what is asked of a write: not one of these arrays, not one of these fields -/
def zoff (A : List Nat) (S : List (Nat × Nat)) (t k : Nat) : Bool := (A.all fun a => !(a == t)) && (S.all fun p => !(p.1 == t && p.2 == k))
theorem zoff_a {A : List Nat} {S : List (Nat × Nat)} {t k : Nat} (h : zoff A S t k = true) {a : Nat} (ha : a ∈ A) : a ≠ t := by
  unfold zoff at h
  rw [Bool.and_eq_true] at h
  have := List.all_eq_true.mp h.1 a ha
  intro e
  simp [e] at this
theorem zoff_s {A : List Nat} {S : List (Nat × Nat)} {t k : Nat} (h : zoff A S t k = true) {a c : Nat} (ha : (a, c) ∈ S) : ¬ (a = t ∧ c = k) := by
  unfold zoff at h
  rw [Bool.and_eq_true] at h
  have := List.all_eq_true.mp h.2 (a, c) ha
  rintro ⟨rfl, rfl⟩
  simp at this
theorem fr_zOK_I {σ : zSt} {t i k : Nat} {v : Int32} (H : zOK σ) : zOK (pI σ t i k v) := H
theorem fr_zOK_L {σ : zSt} {t i k : Nat} {v : Int64} (H : zOK σ) : zOK (pL σ t i k v) := H
theorem fr_zOK_R {σ : zSt} {t i k : Nat} {v : Option Nat} (h : ∀ i, zfin t k i = none) (H : zOK σ) : zOK (pR σ t i k v) := by
  intro a b c j hb hf
  rw [gR_pR, if_neg]
  · exact H a b c j hb hf
  · rintro ⟨rfl, rfl, rfl⟩
    rw [h] at hf; cases hf
theorem fr_vC_I {σ : zSt} {t i k : Nat} {v : Int32} (h : zoff [] [] t k = true) (H : vC σ) : vC (pI σ t i k v) := by
  simp only [vC] at H ⊢
  simpa only [gN_I, gR_I, gZ_I] using H
theorem fr_vC_R {σ : zSt} {t i k : Nat} {v : Option Nat} (h : zoff [] [] t k = true) (H : vC σ) : vC (pR σ t i k v) := by
  simp only [vC] at H ⊢
  simpa only [gN_R, gI_R, gZ_R] using H
theorem fr_vC_L {σ : zSt} {t i k : Nat} {v : Int64} (H : vC σ) : vC (pL σ t i k v) := H
theorem fr_vN_I {σ : zSt} {t i k : Nat} {v : Int32} (h : zoff [] [(11, 1), (12, 13), (11, 3), (12, 17), (11, 5), (12, 36), (11, 6), (12, 0), (11, 7), (12, 40), (11, 8), (12, 41), (11, 9), (12, 55)] t k = true) (H : vN σ) : vN (pI σ t i k v) := by
  simp only [vN, qday] at H ⊢
  simpa only [gI_nk (zoff_s h (a := 11) (c := 1) (by decide)), gI_nk (zoff_s h (a := 12) (c := 13) (by decide)), gI_nk (zoff_s h (a := 11) (c := 3) (by decide)), gI_nk (zoff_s h (a := 12) (c := 17) (by decide)), gI_nk (zoff_s h (a := 11) (c := 5) (by decide)), gI_nk (zoff_s h (a := 12) (c := 36) (by decide)), gI_nk (zoff_s h (a := 11) (c := 6) (by decide)), gI_nk (zoff_s h (a := 12) (c := 0) (by decide)), gI_nk (zoff_s h (a := 11) (c := 7) (by decide)), gI_nk (zoff_s h (a := 12) (c := 40) (by decide)), gI_nk (zoff_s h (a := 11) (c := 8) (by decide)), gI_nk (zoff_s h (a := 12) (c := 41) (by decide)), gI_nk (zoff_s h (a := 11) (c := 9) (by decide)), gI_nk (zoff_s h (a := 12) (c := 55) (by decide)), gN_I, gR_I, gZ_I] using H
theorem fr_vN_R {σ : zSt} {t i k : Nat} {v : Option Nat} (h : zoff [] [] t k = true) (H : vN σ) : vN (pR σ t i k v) := by
  simp only [vN, qday] at H ⊢
  simpa only [gN_R, gI_R, gZ_R] using H
theorem fr_vN_L {σ : zSt} {t i k : Nat} {v : Int64} (H : vN σ) : vN (pL σ t i k v) := H
theorem fr_vH_I {σ : zSt} {t i k : Nat} {v : Int32} (h : zoff [610, 611, 1301, 1302, 1303, 1304, 1305, 1306, 1307, 1308, 1309, 1310, 1311, 1312] [(5, 0), (5, 1), (5, 2), (5, 3), (5, 4), (5, 5), (5, 6), (5, 7), (5, 8), (5, 9)] t k = true) (H : vH σ) : vH (pI σ t i k v) := by
  simp only [vH, vH1] at H ⊢
  simpa only [gI_ne (zoff_a h (a := 610) (by decide)), gI_ne (zoff_a h (a := 611) (by decide)), gI_ne (zoff_a h (a := 1301) (by decide)), gI_ne (zoff_a h (a := 1302) (by decide)), gI_ne (zoff_a h (a := 1303) (by decide)), gI_ne (zoff_a h (a := 1304) (by decide)), gI_ne (zoff_a h (a := 1305) (by decide)), gI_ne (zoff_a h (a := 1306) (by decide)), gI_ne (zoff_a h (a := 1307) (by decide)), gI_ne (zoff_a h (a := 1308) (by decide)), gI_ne (zoff_a h (a := 1309) (by decide)), gI_ne (zoff_a h (a := 1310) (by decide)), gI_ne (zoff_a h (a := 1311) (by decide)), gI_ne (zoff_a h (a := 1312) (by decide)), gI_nk (zoff_s h (a := 5) (c := 0) (by decide)), gI_nk (zoff_s h (a := 5) (c := 1) (by decide)), gI_nk (zoff_s h (a := 5) (c := 2) (by decide)), gI_nk (zoff_s h (a := 5) (c := 3) (by decide)), gI_nk (zoff_s h (a := 5) (c := 4) (by decide)), gI_nk (zoff_s h (a := 5) (c := 5) (by decide)), gI_nk (zoff_s h (a := 5) (c := 6) (by decide)), gI_nk (zoff_s h (a := 5) (c := 7) (by decide)), gI_nk (zoff_s h (a := 5) (c := 8) (by decide)), gI_nk (zoff_s h (a := 5) (c := 9) (by decide)), gN_I, gR_I, gZ_I] using H
theorem fr_vH_R {σ : zSt} {t i k : Nat} {v : Option Nat} (h : zoff [1200] [] t k = true) (H : vH σ) : vH (pR σ t i k v) := by
  simp only [vH, vH1] at H ⊢
  simpa only [gR_ne (zoff_a h (a := 1200) (by decide)), gN_R, gI_R, gZ_R] using H
theorem fr_vH_L {σ : zSt} {t i k : Nat} {v : Int64} (H : vH σ) : vH (pL σ t i k v) := H
theorem fr_vK_I {σ : zSt} {t i k : Nat} {v : Int32} (h : zoff [1314, 1315, 1316] [(7, 0), (7, 1), (7, 2)] t k = true) (H : vK σ) : vK (pI σ t i k v) := by
  simp only [vK, vK1] at H ⊢
  simpa only [gI_ne (zoff_a h (a := 1314) (by decide)), gI_ne (zoff_a h (a := 1315) (by decide)), gI_ne (zoff_a h (a := 1316) (by decide)), gI_nk (zoff_s h (a := 7) (c := 0) (by decide)), gI_nk (zoff_s h (a := 7) (c := 1) (by decide)), gI_nk (zoff_s h (a := 7) (c := 2) (by decide)), gN_I, gR_I, gZ_I] using H
theorem fr_vK_R {σ : zSt} {t i k : Nat} {v : Option Nat} (h : zoff [1202] [] t k = true) (H : vK σ) : vK (pR σ t i k v) := by
  simp only [vK, vK1] at H ⊢
  simpa only [gR_ne (zoff_a h (a := 1202) (by decide)), gN_R, gI_R, gZ_R] using H
theorem fr_vK_L {σ : zSt} {t i k : Nat} {v : Int64} (H : vK σ) : vK (pL σ t i k v) := H
theorem fr_vF_I {σ : zSt} {t i k : Nat} {v : Int32} (h : zoff [1318, 1319, 1320, 1321, 1322, 1323, 1324, 1325, 1330, 1331, 1332, 1333] [(1, 0), (1, 2), (1, 3), (1, 5), (1, 6), (1, 9), (1, 10), (1, 11), (1, 12), (1, 13), (1, 14), (1, 15), (12, 0)] t k = true) (H : vF σ) : vF (pI σ t i k v) := by
  simp only [vF, vF1, hm, kd, pD, qday] at H ⊢
  simpa only [gI_ne (zoff_a h (a := 1318) (by decide)), gI_ne (zoff_a h (a := 1319) (by decide)), gI_ne (zoff_a h (a := 1320) (by decide)), gI_ne (zoff_a h (a := 1321) (by decide)), gI_ne (zoff_a h (a := 1322) (by decide)), gI_ne (zoff_a h (a := 1323) (by decide)), gI_ne (zoff_a h (a := 1324) (by decide)), gI_ne (zoff_a h (a := 1325) (by decide)), gI_ne (zoff_a h (a := 1330) (by decide)), gI_ne (zoff_a h (a := 1331) (by decide)), gI_ne (zoff_a h (a := 1332) (by decide)), gI_ne (zoff_a h (a := 1333) (by decide)), gI_nk (zoff_s h (a := 1) (c := 0) (by decide)), gI_nk (zoff_s h (a := 1) (c := 2) (by decide)), gI_nk (zoff_s h (a := 1) (c := 3) (by decide)), gI_nk (zoff_s h (a := 1) (c := 5) (by decide)), gI_nk (zoff_s h (a := 1) (c := 6) (by decide)), gI_nk (zoff_s h (a := 1) (c := 9) (by decide)), gI_nk (zoff_s h (a := 1) (c := 10) (by decide)), gI_nk (zoff_s h (a := 1) (c := 11) (by decide)), gI_nk (zoff_s h (a := 1) (c := 12) (by decide)), gI_nk (zoff_s h (a := 1) (c := 13) (by decide)), gI_nk (zoff_s h (a := 1) (c := 14) (by decide)), gI_nk (zoff_s h (a := 1) (c := 15) (by decide)), gI_nk (zoff_s h (a := 12) (c := 0) (by decide)), gN_I, gR_I, gZ_I] using H
theorem fr_vF_R {σ : zSt} {t i k : Nat} {v : Option Nat} (h : zoff [1204] [(1, 1), (1, 4)] t k = true) (H : vF σ) : vF (pR σ t i k v) := by
  simp only [vF, vF1, hm, kd, pD, qday] at H ⊢
  simpa only [gR_ne (zoff_a h (a := 1204) (by decide)), gR_nk (zoff_s h (a := 1) (c := 1) (by decide)), gR_nk (zoff_s h (a := 1) (c := 4) (by decide)), gN_R, gI_R, gZ_R] using H
theorem fr_vF_L {σ : zSt} {t i k : Nat} {v : Int64} (H : vF σ) : vF (pL σ t i k v) := H
theorem fr_vS_I {σ : zSt} {t i k : Nat} {v : Int32} (h : zoff [500, 501, 502, 1322, 1326, 1327, 1328, 1329, 1330] [(4, 3), (12, 0)] t k = true) (H : vS σ) : vS (pI σ t i k v) := by
  simp only [vS, vS1, sz, sD, sT, sC, qday] at H ⊢
  simpa only [gI_ne (zoff_a h (a := 500) (by decide)), gI_ne (zoff_a h (a := 501) (by decide)), gI_ne (zoff_a h (a := 502) (by decide)), gI_ne (zoff_a h (a := 1322) (by decide)), gI_ne (zoff_a h (a := 1326) (by decide)), gI_ne (zoff_a h (a := 1327) (by decide)), gI_ne (zoff_a h (a := 1328) (by decide)), gI_ne (zoff_a h (a := 1329) (by decide)), gI_ne (zoff_a h (a := 1330) (by decide)), gI_nk (zoff_s h (a := 4) (c := 3) (by decide)), gI_nk (zoff_s h (a := 12) (c := 0) (by decide)), gN_I, gR_I, gZ_I] using H
theorem fr_vS_R {σ : zSt} {t i k : Nat} {v : Option Nat} (h : zoff [] [] t k = true) (H : vS σ) : vS (pR σ t i k v) := by
  simp only [vS, vS1, sz, sD, sT, sC, qday] at H ⊢
  simpa only [gN_R, gI_R, gZ_R] using H
theorem fr_vS_L {σ : zSt} {t i k : Nat} {v : Int64} (H : vS σ) : vS (pL σ t i k v) := H
theorem fr_vL_I {σ : zSt} {t i k : Nat} {v : Int32} (h : zoff [1217, 1326, 1328, 1329, 1334, 1335, 1337, 1338, 1339] [] t k = true) (H : vL σ) : vL (pI σ t i k v) := by
  have e1 : sT (pI σ t i k v) = sT σ := by funext f j; simp only [sT, gI_ne (zoff_a h (a := 1326) (by decide))]
  have e2 : sC (pI σ t i k v) = sC σ := by funext f j; simp only [sC, gI_ne (zoff_a h (a := 1328) (by decide))]
  simp only [vL, sz] at H ⊢
  simpa only [e1, e2, gI_ne (zoff_a h (a := 1217) (by decide)), gI_ne (zoff_a h (a := 1326) (by decide)), gI_ne (zoff_a h (a := 1328) (by decide)), gI_ne (zoff_a h (a := 1329) (by decide)), gI_ne (zoff_a h (a := 1334) (by decide)), gI_ne (zoff_a h (a := 1335) (by decide)), gI_ne (zoff_a h (a := 1337) (by decide)), gI_ne (zoff_a h (a := 1338) (by decide)), gI_ne (zoff_a h (a := 1339) (by decide)), gN_I, gR_I, gZ_I] using H
theorem fr_vL_R {σ : zSt} {t i k : Nat} {v : Option Nat} (H : vL σ) : vL (pR σ t i k v) := H
theorem fr_vL_L {σ : zSt} {t i k : Nat} {v : Int64} (H : vL σ) : vL (pL σ t i k v) := H
theorem fr_vG_I {σ : zSt} {t i k : Nat} {v : Int32} (h : zoff [400, 401, 1316, 1320, 1342, 1343, 1344] [(3, 2), (12, 0)] t k = true) (H : vG σ) : vG (pI σ t i k v) := by
  simp only [vG, vG1, rdn, rD, rW, isCr, kd, qday] at H ⊢
  simpa only [gI_ne (zoff_a h (a := 400) (by decide)), gI_ne (zoff_a h (a := 401) (by decide)), gI_ne (zoff_a h (a := 1316) (by decide)), gI_ne (zoff_a h (a := 1320) (by decide)), gI_ne (zoff_a h (a := 1342) (by decide)), gI_ne (zoff_a h (a := 1343) (by decide)), gI_ne (zoff_a h (a := 1344) (by decide)), gI_nk (zoff_s h (a := 3) (c := 2) (by decide)), gI_nk (zoff_s h (a := 12) (c := 0) (by decide)), gN_I, gR_I, gZ_I] using H
theorem fr_vG_R {σ : zSt} {t i k : Nat} {v : Option Nat} (h : zoff [] [(1, 8)] t k = true) (H : vG σ) : vG (pR σ t i k v) := by
  simp only [vG, vG1, rdn, rD, rW, isCr, kd, qday] at H ⊢
  simpa only [gR_nk (zoff_s h (a := 1) (c := 8) (by decide)), gN_R, gI_R, gZ_R] using H
theorem fr_vG_L {σ : zSt} {t i k : Nat} {v : Int64} (H : vG σ) : vG (pL σ t i k v) := H
theorem fr_vD_I {σ : zSt} {t i k : Nat} {v : Int32} (h : zoff [100, 103, 1331, 1345, 1346, 1361] [(12, 47), (0, 2), (12, 62), (0, 4), (1, 12)] t k = true) (H : vD σ) : vD (pI σ t i k v) := by
  simp only [vD, jbn, pln, pD] at H ⊢
  simpa only [gI_ne (zoff_a h (a := 100) (by decide)), gI_ne (zoff_a h (a := 103) (by decide)), gI_ne (zoff_a h (a := 1331) (by decide)), gI_ne (zoff_a h (a := 1345) (by decide)), gI_ne (zoff_a h (a := 1346) (by decide)), gI_ne (zoff_a h (a := 1361) (by decide)), gI_nk (zoff_s h (a := 12) (c := 47) (by decide)), gI_nk (zoff_s h (a := 0) (c := 2) (by decide)), gI_nk (zoff_s h (a := 12) (c := 62) (by decide)), gI_nk (zoff_s h (a := 0) (c := 4) (by decide)), gI_nk (zoff_s h (a := 1) (c := 12) (by decide)), gN_I, gR_I, gZ_I] using H
theorem fr_vD_R {σ : zSt} {t i k : Nat} {v : Option Nat} (h : t ≠ 101) (H : vD σ) : vD (pR σ t i k v) := by
  obtain ⟨a, b, c, d, e, f, g⟩ := H
  exact ⟨a, b, c, d, fun i hi => by
    obtain ⟨f, h1, h2, h3, h4⟩ := e i hi
    exact ⟨f, h1, h2, by rw [gR_ne (Ne.symm h)]; exact h3, h4⟩, f, g⟩
theorem fr_vD_L {σ : zSt} {t i k : Nat} {v : Int64} (H : vD σ) : vD (pL σ t i k v) := H
theorem fr_vT_I {σ : zSt} {t i k : Nat} {v : Int32} (h : zoff [1210, 1348] [(12, 49), (11, 11)] t k = true) (H : vT σ) : vT (pI σ t i k v) := by
  simp only [vT, tpn] at H ⊢
  simpa only [gI_ne (zoff_a h (a := 1210) (by decide)), gI_ne (zoff_a h (a := 1348) (by decide)), gI_nk (zoff_s h (a := 12) (c := 49) (by decide)), gI_nk (zoff_s h (a := 11) (c := 11) (by decide)), gN_I, gR_I, gZ_I] using H
theorem fr_vT_R {σ : zSt} {t i k : Nat} {v : Option Nat} (h : zoff [] [] t k = true) (H : vT σ) : vT (pR σ t i k v) := by
  simp only [vT, tpn] at H ⊢
  simpa only [gN_R, gI_R, gZ_R] using H
theorem fr_vT_L {σ : zSt} {t i k : Nat} {v : Int64} (H : vT σ) : vT (pL σ t i k v) := H
theorem fr_vX_I {σ : zSt} {t i k : Nat} {v : Int32} (h : zoff [1100, 1350, 1351, 1352, 1353, 1354] [(9, 1), (10, 1), (10, 2)] t k = true) (H : vX σ) : vX (pI σ t i k v) := by
  simp only [vX, vX1, txn] at H ⊢
  simpa only [gI_ne (zoff_a h (a := 1100) (by decide)), gI_ne (zoff_a h (a := 1350) (by decide)), gI_ne (zoff_a h (a := 1351) (by decide)), gI_ne (zoff_a h (a := 1352) (by decide)), gI_ne (zoff_a h (a := 1353) (by decide)), gI_ne (zoff_a h (a := 1354) (by decide)), gI_nk (zoff_s h (a := 9) (c := 1) (by decide)), gI_nk (zoff_s h (a := 10) (c := 1) (by decide)), gI_nk (zoff_s h (a := 10) (c := 2) (by decide)), gN_I, gR_I, gZ_I] using H
theorem fr_vX_R {σ : zSt} {t i k : Nat} {v : Option Nat} (h : zoff [1000] [] t k = true) (H : vX σ) : vX (pR σ t i k v) := by
  simp only [vX, vX1, txn] at H ⊢
  simpa only [gR_ne (zoff_a h (a := 1000) (by decide)), gN_R, gI_R, gZ_R] using H
theorem fr_vX_L {σ : zSt} {t i k : Nat} {v : Int64} (H : vX σ) : vX (pL σ t i k v) := H
theorem fr_vZ_I {σ : zSt} {t i k : Nat} {v : Int32} (h : zoff [1306, 1307, 1310, 1311, 1312, 1329, 1330, 1332, 1333, 1334, 1335, 1344] [] t k = true) (H : vZ σ) : vZ (pI σ t i k v) := by
  simp only [vZ] at H ⊢
  simpa only [gI_ne (zoff_a h (a := 1306) (by decide)), gI_ne (zoff_a h (a := 1307) (by decide)), gI_ne (zoff_a h (a := 1310) (by decide)), gI_ne (zoff_a h (a := 1311) (by decide)), gI_ne (zoff_a h (a := 1312) (by decide)), gI_ne (zoff_a h (a := 1329) (by decide)), gI_ne (zoff_a h (a := 1330) (by decide)), gI_ne (zoff_a h (a := 1332) (by decide)), gI_ne (zoff_a h (a := 1333) (by decide)), gI_ne (zoff_a h (a := 1334) (by decide)), gI_ne (zoff_a h (a := 1335) (by decide)), gI_ne (zoff_a h (a := 1344) (by decide)), gN_I, gR_I, gZ_I] using H
theorem fr_vZ_R {σ : zSt} {t i k : Nat} {v : Option Nat} (h : zoff [] [] t k = true) (H : vZ σ) : vZ (pR σ t i k v) := by
  simp only [vZ] at H ⊢
  simpa only [gN_R, gI_R, gZ_R] using H
theorem fr_vZ_L {σ : zSt} {t i k : Nat} {v : Int64} (H : vZ σ) : vZ (pL σ t i k v) := H
theorem gI_nn {σ : zSt} {t n a : Nat} (h : a ≠ t) : gI (nw σ t n) a = gI σ a := by
  funext b c; rw [gI_nw, if_neg fun z => h z.1]
theorem gR_nn {σ : zSt} {t n a : Nat} (h : a ≠ t) : gR (nw σ t n) a = gR σ a := by
  funext b c; rw [gR_nw, if_neg fun z => h z.1]
theorem gN_nn {σ : zSt} {t n a : Nat} (h : a ≠ t) : gN (nw σ t n) a = gN σ a := by
  rw [gN_nw, if_neg h]
theorem gZ_nn {σ : zSt} {t n a : Nat} (h : a ≠ t) : gZ (nw σ t n) a = gZ σ a := by
  funext b; rw [gZ_nw, if_neg fun z => h z.1]
theorem fr_vC_N {σ : zSt} {t n : Nat} (h : zoff [0, 1, 2, 3, 4, 5, 6, 9, 10, 11, 12, 400, 401, 500, 501, 502, 610, 611, 1100] [] t 0 = true) (H : vC σ) : vC (nw σ t n) := by
  simp only [vC] at H ⊢
  simpa only [gN_nn (zoff_a h (a := 0) (by decide)), gN_nn (zoff_a h (a := 2) (by decide)), gN_nn (zoff_a h (a := 6) (by decide)), gN_nn (zoff_a h (a := 9) (by decide)), gN_nn (zoff_a h (a := 11) (by decide)), gN_nn (zoff_a h (a := 12) (by decide)), gN_nn (zoff_a h (a := 4) (by decide)), gN_nn (zoff_a h (a := 1) (by decide)), gN_nn (zoff_a h (a := 500) (by decide)), gN_nn (zoff_a h (a := 501) (by decide)), gN_nn (zoff_a h (a := 502) (by decide)), gN_nn (zoff_a h (a := 610) (by decide)), gN_nn (zoff_a h (a := 611) (by decide)), gN_nn (zoff_a h (a := 5) (by decide)), gN_nn (zoff_a h (a := 400) (by decide)), gN_nn (zoff_a h (a := 401) (by decide)), gN_nn (zoff_a h (a := 3) (by decide)), gN_nn (zoff_a h (a := 1100) (by decide)), gN_nn (zoff_a h (a := 10) (by decide))] using H
theorem fr_vN_N {σ : zSt} {t n : Nat} (h : zoff [1, 5, 7, 11, 12] [] t 0 = true) (H : vN σ) : vN (nw σ t n) := by
  simp only [vN, qday] at H ⊢
  simpa only [gI_nn (zoff_a h (a := 11) (by decide)), gI_nn (zoff_a h (a := 12) (by decide)), gN_nn (zoff_a h (a := 5) (by decide)), gN_nn (zoff_a h (a := 7) (by decide)), gN_nn (zoff_a h (a := 1) (by decide))] using H
theorem fr_vH_N {σ : zSt} {t n : Nat} (h : zoff [5, 610, 611, 1200, 1301, 1302, 1303, 1304, 1305, 1306, 1307, 1308, 1309, 1310, 1311, 1312] [] t 0 = true) (H : vH σ) : vH (nw σ t n) := by
  simp only [vH, vH1] at H ⊢
  simpa only [gI_nn (zoff_a h (a := 5) (by decide)), gI_nn (zoff_a h (a := 610) (by decide)), gI_nn (zoff_a h (a := 611) (by decide)), gI_nn (zoff_a h (a := 1301) (by decide)), gI_nn (zoff_a h (a := 1302) (by decide)), gI_nn (zoff_a h (a := 1303) (by decide)), gI_nn (zoff_a h (a := 1304) (by decide)), gI_nn (zoff_a h (a := 1305) (by decide)), gI_nn (zoff_a h (a := 1306) (by decide)), gI_nn (zoff_a h (a := 1307) (by decide)), gI_nn (zoff_a h (a := 1308) (by decide)), gI_nn (zoff_a h (a := 1309) (by decide)), gI_nn (zoff_a h (a := 1310) (by decide)), gI_nn (zoff_a h (a := 1311) (by decide)), gI_nn (zoff_a h (a := 1312) (by decide)), gR_nn (zoff_a h (a := 1200) (by decide)), gN_nn (zoff_a h (a := 5) (by decide))] using H
theorem fr_vK_N {σ : zSt} {t n : Nat} (h : zoff [7, 1202, 1314, 1315, 1316] [] t 0 = true) (H : vK σ) : vK (nw σ t n) := by
  simp only [vK, vK1] at H ⊢
  simpa only [gI_nn (zoff_a h (a := 7) (by decide)), gI_nn (zoff_a h (a := 1314) (by decide)), gI_nn (zoff_a h (a := 1315) (by decide)), gI_nn (zoff_a h (a := 1316) (by decide)), gR_nn (zoff_a h (a := 1202) (by decide)), gN_nn (zoff_a h (a := 7) (by decide))] using H
theorem fr_vF_N {σ : zSt} {t n : Nat} (h : zoff [1, 5, 7, 12, 1204, 1318, 1319, 1320, 1321, 1322, 1323, 1324, 1325, 1330, 1331, 1332, 1333] [] t 0 = true) (H : vF σ) : vF (nw σ t n) := by
  simp only [vF, vF1, hm, kd, pD, qday] at H ⊢
  simpa only [gI_nn (zoff_a h (a := 1) (by decide)), gI_nn (zoff_a h (a := 12) (by decide)), gI_nn (zoff_a h (a := 1318) (by decide)), gI_nn (zoff_a h (a := 1319) (by decide)), gI_nn (zoff_a h (a := 1320) (by decide)), gI_nn (zoff_a h (a := 1321) (by decide)), gI_nn (zoff_a h (a := 1322) (by decide)), gI_nn (zoff_a h (a := 1323) (by decide)), gI_nn (zoff_a h (a := 1324) (by decide)), gI_nn (zoff_a h (a := 1325) (by decide)), gI_nn (zoff_a h (a := 1330) (by decide)), gI_nn (zoff_a h (a := 1331) (by decide)), gI_nn (zoff_a h (a := 1332) (by decide)), gI_nn (zoff_a h (a := 1333) (by decide)), gR_nn (zoff_a h (a := 1) (by decide)), gR_nn (zoff_a h (a := 1204) (by decide)), gN_nn (zoff_a h (a := 1) (by decide)), gN_nn (zoff_a h (a := 5) (by decide)), gN_nn (zoff_a h (a := 7) (by decide))] using H
theorem fr_vS_N {σ : zSt} {t n : Nat} (h : zoff [1, 4, 12, 500, 501, 502, 1322, 1326, 1327, 1328, 1329, 1330] [] t 0 = true) (H : vS σ) : vS (nw σ t n) := by
  simp only [vS, vS1, sz, sD, sT, sC, qday] at H ⊢
  simpa only [gI_nn (zoff_a h (a := 4) (by decide)), gI_nn (zoff_a h (a := 12) (by decide)), gI_nn (zoff_a h (a := 500) (by decide)), gI_nn (zoff_a h (a := 501) (by decide)), gI_nn (zoff_a h (a := 502) (by decide)), gI_nn (zoff_a h (a := 1322) (by decide)), gI_nn (zoff_a h (a := 1326) (by decide)), gI_nn (zoff_a h (a := 1327) (by decide)), gI_nn (zoff_a h (a := 1328) (by decide)), gI_nn (zoff_a h (a := 1329) (by decide)), gI_nn (zoff_a h (a := 1330) (by decide)), gN_nn (zoff_a h (a := 1) (by decide))] using H
theorem fr_vL_N {σ : zSt} {t n : Nat} (h : zoff [1, 1217, 1326, 1328, 1329, 1334, 1335, 1337, 1338, 1339] [] t 0 = true) (H : vL σ) : vL (nw σ t n) := by
  have e1 : sT (nw σ t n) = sT σ := by funext f j; simp only [sT, gI_nn (zoff_a h (a := 1326) (by decide))]
  have e2 : sC (nw σ t n) = sC σ := by funext f j; simp only [sC, gI_nn (zoff_a h (a := 1328) (by decide))]
  simp only [vL, sz] at H ⊢
  simpa only [e1, e2, gI_nn (zoff_a h (a := 1217) (by decide)), gI_nn (zoff_a h (a := 1326) (by decide)), gI_nn (zoff_a h (a := 1328) (by decide)), gI_nn (zoff_a h (a := 1329) (by decide)), gI_nn (zoff_a h (a := 1334) (by decide)), gI_nn (zoff_a h (a := 1335) (by decide)), gI_nn (zoff_a h (a := 1337) (by decide)), gI_nn (zoff_a h (a := 1338) (by decide)), gI_nn (zoff_a h (a := 1339) (by decide)), gN_nn (zoff_a h (a := 1) (by decide))] using H
theorem fr_vG_N {σ : zSt} {t n : Nat} (h : zoff [1, 3, 12, 400, 401, 1316, 1320, 1342, 1343, 1344] [] t 0 = true) (H : vG σ) : vG (nw σ t n) := by
  simp only [vG, vG1, rdn, rD, rW, isCr, kd, qday] at H ⊢
  simpa only [gI_nn (zoff_a h (a := 3) (by decide)), gI_nn (zoff_a h (a := 12) (by decide)), gI_nn (zoff_a h (a := 400) (by decide)), gI_nn (zoff_a h (a := 401) (by decide)), gI_nn (zoff_a h (a := 1316) (by decide)), gI_nn (zoff_a h (a := 1320) (by decide)), gI_nn (zoff_a h (a := 1342) (by decide)), gI_nn (zoff_a h (a := 1343) (by decide)), gI_nn (zoff_a h (a := 1344) (by decide)), gR_nn (zoff_a h (a := 1) (by decide)), gN_nn (zoff_a h (a := 1) (by decide)), gN_nn (zoff_a h (a := 3) (by decide))] using H
theorem fr_vD_N {σ : zSt} {t n : Nat} (h : zoff [0, 1, 12, 100, 101, 103, 1331, 1345, 1346, 1361] [] t 0 = true) (H : vD σ) : vD (nw σ t n) := by
  simp only [vD, jbn, pln, pD] at H ⊢
  simpa only [gI_nn (zoff_a h (a := 0) (by decide)), gI_nn (zoff_a h (a := 1) (by decide)), gI_nn (zoff_a h (a := 12) (by decide)), gI_nn (zoff_a h (a := 100) (by decide)), gI_nn (zoff_a h (a := 103) (by decide)), gI_nn (zoff_a h (a := 1331) (by decide)), gI_nn (zoff_a h (a := 1345) (by decide)), gI_nn (zoff_a h (a := 1346) (by decide)), gI_nn (zoff_a h (a := 1361) (by decide)), gR_nn (zoff_a h (a := 101) (by decide)), gN_nn (zoff_a h (a := 1) (by decide))] using H
theorem fr_vT_N {σ : zSt} {t n : Nat} (h : zoff [11, 12, 1210, 1348] [] t 0 = true) (H : vT σ) : vT (nw σ t n) := by
  simp only [vT, tpn] at H ⊢
  simpa only [gI_nn (zoff_a h (a := 11) (by decide)), gI_nn (zoff_a h (a := 12) (by decide)), gI_nn (zoff_a h (a := 1210) (by decide)), gI_nn (zoff_a h (a := 1348) (by decide))] using H
theorem fr_vX_N {σ : zSt} {t n : Nat} (h : zoff [9, 10, 1000, 1100, 1350, 1351, 1352, 1353, 1354] [] t 0 = true) (H : vX σ) : vX (nw σ t n) := by
  simp only [vX, vX1, txn] at H ⊢
  simpa only [gI_nn (zoff_a h (a := 9) (by decide)), gI_nn (zoff_a h (a := 10) (by decide)), gI_nn (zoff_a h (a := 1100) (by decide)), gI_nn (zoff_a h (a := 1350) (by decide)), gI_nn (zoff_a h (a := 1351) (by decide)), gI_nn (zoff_a h (a := 1352) (by decide)), gI_nn (zoff_a h (a := 1353) (by decide)), gI_nn (zoff_a h (a := 1354) (by decide)), gR_nn (zoff_a h (a := 1000) (by decide)), gN_nn (zoff_a h (a := 10) (by decide)), gZ_nn (zoff_a h (a := 1100) (by decide))] using H
theorem fr_vZ_N {σ : zSt} {t n : Nat} (h : zoff [1, 5, 1306, 1307, 1310, 1311, 1312, 1329, 1330, 1332, 1333, 1334, 1335, 1344] [] t 0 = true) (H : vZ σ) : vZ (nw σ t n) := by
  simp only [vZ] at H ⊢
  simpa only [gI_nn (zoff_a h (a := 1306) (by decide)), gI_nn (zoff_a h (a := 1307) (by decide)), gI_nn (zoff_a h (a := 1310) (by decide)), gI_nn (zoff_a h (a := 1311) (by decide)), gI_nn (zoff_a h (a := 1312) (by decide)), gI_nn (zoff_a h (a := 1329) (by decide)), gI_nn (zoff_a h (a := 1330) (by decide)), gI_nn (zoff_a h (a := 1332) (by decide)), gI_nn (zoff_a h (a := 1333) (by decide)), gI_nn (zoff_a h (a := 1334) (by decide)), gI_nn (zoff_a h (a := 1335) (by decide)), gI_nn (zoff_a h (a := 1344) (by decide)), gN_nn (zoff_a h (a := 5) (by decide)), gN_nn (zoff_a h (a := 1) (by decide))] using H
