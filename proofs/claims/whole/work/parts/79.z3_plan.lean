/-! plans: both -/
theorem RY_j {s σ : zSt} (x : RY s σ) : jb s = jb σ ∧ jtr s = jtr σ ∧ jmn s = jmn σ ∧ jsv s = jsv σ ∧ jav s = jav σ ∧ jlt s = jlt σ := by
  obtain ⟨b1, b2, b3, b4, b5, b6, -⟩ := RY_b x
  have hb : jb s = jb σ := by
    funext i
    unfold jb
    rw [x.1 1346 (by omega) (by omega)]
  refine ⟨hb, ?_, ?_, ?_, ?_, ?_⟩
  · funext i; unfold jtr; rw [hb, b6, x.1 1314 (by omega) (by omega)]
  · funext t; unfold jmn; rw [x.1 1345 (by omega) (by omega)]
  · funext i; unfold jsv; rw [hb, x.1 1321 (by omega) (by omega)]
  · funext q i d; unfold jav; rw [hb, b5, x.1 1308 (by omega) (by omega)]
  · funext q i d; unfold jlt; rw [hb, x.1 1331 (by omega) (by omega)]
/-- a plan changes the diary and nothing else -/
theorem Inv_pl {s σ : zSt} (hA : ∀ t, nscA t = true → t ≠ 103 → t ≠ 1361 → t ≠ 0 → gI s t = gI σ t) (h12 : ∀ k, k ≤ 55 → k ≠ 47 → gI s 12 0 k = gI σ 12 0 k) (h0 : ∀ k, k ≠ 2 → k ≠ 4 → ∀ i, gI s 0 i k = gI σ 0 i k) (hR : ∀ t, t ≠ 101 → gR s t = gR σ t) (hN : gN s = gN σ) (hZ : gZ s = gZ σ) (hD : vD s) (h : Inv σ) : Inv s := by
  have hO : zOK s := fun t i k j h1 h2 => by
    by_cases c : t = 101
    · subst c
      cases h2
    · rw [hR t c]
      rw [hN] at h1
      exact h.1 t i k j h1 h2
  obtain ⟨-, hC, hN', hH, hK, hF, hS, hL, hG, -, hT, hX, hZ'⟩ := h
  have w : vC s ∧ vN s ∧ vH s ∧ vK s ∧ vF s ∧ vS s ∧ vL s ∧ vG s ∧ vT s ∧ vX s ∧ vZ s := by
    have z : vC σ ∧ vN σ ∧ vH σ ∧ vK σ ∧ vF σ ∧ vS σ ∧ vL σ ∧ vG σ ∧ vT σ ∧ vX σ ∧ vZ σ := ⟨hC, hN', hH, hK, hF, hS, hL, hG, hT, hX, hZ'⟩
    have A : ∀ t, nscA t = true → t ≠ 103 → t ≠ 1361 → t ≠ 0 → gI s t = gI σ t := hA
    clear hC hN' hH hK hF hS hL hG hT hX hZ' hD hO
    unfold vC vN vH vH1 vK vK1 vF vF1 vS vS1 vL vG vG1 vT vX vX1 vZ pD isCr qday hm kd sz rdn sT sD sC rD rW txn tpn at z ⊢
    simp only [hN, hZ, hR 1 (by decide), hR 3 (by decide), hR 4 (by decide), hR 5 (by decide), hR 9 (by decide), hR 10 (by decide), hR 1000 (by decide), hR 1200 (by decide), hR 1202 (by decide), hR 1204 (by decide), h12 0 (by decide) (by decide), h12 13 (by decide) (by decide), h12 17 (by decide) (by decide), h12 36 (by decide) (by decide), h12 40 (by decide) (by decide), h12 41 (by decide) (by decide), h12 49 (by decide) (by decide), h12 55 (by decide) (by decide), A 1 rfl (by decide) (by decide) (by decide), A 3 rfl (by decide) (by decide) (by decide), A 4 rfl (by decide) (by decide) (by decide), A 5 rfl (by decide) (by decide) (by decide), A 7 rfl (by decide) (by decide) (by decide), A 9 rfl (by decide) (by decide) (by decide), A 10 rfl (by decide) (by decide) (by decide), A 11 rfl (by decide) (by decide) (by decide), A 400 rfl (by decide) (by decide) (by decide), A 401 rfl (by decide) (by decide) (by decide), A 500 rfl (by decide) (by decide) (by decide), A 501 rfl (by decide) (by decide) (by decide), A 502 rfl (by decide) (by decide) (by decide), A 610 rfl (by decide) (by decide) (by decide), A 611 rfl (by decide) (by decide) (by decide), A 1100 rfl (by decide) (by decide) (by decide), A 1210 rfl (by decide) (by decide) (by decide), A 1217 rfl (by decide) (by decide) (by decide), A 1301 rfl (by decide) (by decide) (by decide), A 1302 rfl (by decide) (by decide) (by decide), A 1303 rfl (by decide) (by decide) (by decide), A 1304 rfl (by decide) (by decide) (by decide), A 1305 rfl (by decide) (by decide) (by decide), A 1306 rfl (by decide) (by decide) (by decide), A 1307 rfl (by decide) (by decide) (by decide), A 1308 rfl (by decide) (by decide) (by decide), A 1309 rfl (by decide) (by decide) (by decide), A 1310 rfl (by decide) (by decide) (by decide), A 1311 rfl (by decide) (by decide) (by decide), A 1312 rfl (by decide) (by decide) (by decide), A 1314 rfl (by decide) (by decide) (by decide), A 1315 rfl (by decide) (by decide) (by decide), A 1316 rfl (by decide) (by decide) (by decide), A 1318 rfl (by decide) (by decide) (by decide), A 1319 rfl (by decide) (by decide) (by decide), A 1320 rfl (by decide) (by decide) (by decide), A 1321 rfl (by decide) (by decide) (by decide), A 1322 rfl (by decide) (by decide) (by decide), A 1323 rfl (by decide) (by decide) (by decide), A 1324 rfl (by decide) (by decide) (by decide), A 1325 rfl (by decide) (by decide) (by decide), A 1326 rfl (by decide) (by decide) (by decide), A 1327 rfl (by decide) (by decide) (by decide), A 1328 rfl (by decide) (by decide) (by decide), A 1329 rfl (by decide) (by decide) (by decide), A 1330 rfl (by decide) (by decide) (by decide), A 1331 rfl (by decide) (by decide) (by decide), A 1332 rfl (by decide) (by decide) (by decide), A 1333 rfl (by decide) (by decide) (by decide), A 1334 rfl (by decide) (by decide) (by decide), A 1335 rfl (by decide) (by decide) (by decide), A 1337 rfl (by decide) (by decide) (by decide), A 1338 rfl (by decide) (by decide) (by decide), A 1339 rfl (by decide) (by decide) (by decide), A 1342 rfl (by decide) (by decide) (by decide), A 1343 rfl (by decide) (by decide) (by decide), A 1344 rfl (by decide) (by decide) (by decide), A 1348 rfl (by decide) (by decide) (by decide), A 1350 rfl (by decide) (by decide) (by decide), A 1351 rfl (by decide) (by decide) (by decide), A 1352 rfl (by decide) (by decide) (by decide), A 1353 rfl (by decide) (by decide) (by decide), A 1354 rfl (by decide) (by decide) (by decide)]
    exact z
  obtain ⟨w1, w2, w3, w4, w5, w6, w7, w8, w9, w10, w11⟩ := w
  exact ⟨hO, w1, w2, w3, w4, w5, w6, w7, w8, hD, w9, w10, w11⟩
