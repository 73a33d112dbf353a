/-- the reference's tables are the same, its scratch fields aside -/
def RY (s σ : zSt) : Prop := (∀ a, 1300 ≤ a → a ≤ 1354 → gI s a = gI σ a) ∧ ∀ c, c ≤ 41 → gI s 12 0 c = gI σ 12 0 c
theorem RX.ry {s σ : zSt} (x : RX s σ) : RY s σ := ⟨fun a h _ => x a (Or.inr h), fun c _ => by rw [x 12 (Or.inl rfl)]⟩
theorem RY.rf {σ : zSt} : RY σ σ := ⟨fun _ _ _ => rfl, fun _ _ => rfl⟩
theorem RY.I {s σ : zSt} {t i k : Nat} {v : Int32} (h : RY s σ) (ht : (t < 1300 ∨ 1354 < t) ∧ (t = 12 → 41 < k)) : RY (pI s t i k v) σ := ⟨fun a h1 h2 => by
  rw [gI_ne (by omega)]
  exact h.1 a h1 h2, fun c hc => by
  rw [gI_nk (by omega)]
  exact h.2 c hc⟩
theorem RY.R {s σ : zSt} {t i k : Nat} {v : Option Nat} (h : RY s σ) : RY (pR s t i k v) σ := h
theorem RY.L {s σ : zSt} {t i k : Nat} {v : Int64} (h : RY s σ) : RY (pL s t i k v) σ := h
theorem RY.N {s σ : zSt} {t n : Nat} (h : RY s σ) (ht : (t < 1300 ∨ 1354 < t) ∧ t ≠ 12) : RY (nw s t n) σ := ⟨fun a h1 h2 => by
  rw [gI_nn (by omega)]
  exact h.1 a h1 h2, fun c hc => by
  rw [gI_nn (by omega)]
  exact h.2 c hc⟩
theorem RY.tr {s u σ : zSt} (h : RY s u) (h2 : RY u σ) : RY s σ := ⟨fun a x y => (h.1 a x y).trans (h2.1 a x y), fun c hc => (h.2 c hc).trans (h2.2 c hc)⟩
theorem RI_Y {s σ : zSt} (x : RY s σ) (h : RI σ) : RI s := by
  simp only [RI, RF, RS, RG, RH, RK, mF, mH, mK, hm, kd, sz, sT, sD, sC, rdn, rD, rW, isCr, qday] at h ⊢
  simp only [x.2 0 (by omega), x.2 13 (by omega), x.2 17 (by omega), x.2 36 (by omega), x.1 1301 (by omega) (by omega), x.1 1302 (by omega) (by omega), x.1 1305 (by omega) (by omega), x.1 1307 (by omega) (by omega), x.1 1308 (by omega) (by omega), x.1 1309 (by omega) (by omega), x.1 1310 (by omega) (by omega), x.1 1314 (by omega) (by omega), x.1 1315 (by omega) (by omega), x.1 1316 (by omega) (by omega), x.1 1318 (by omega) (by omega), x.1 1319 (by omega) (by omega), x.1 1320 (by omega) (by omega), x.1 1321 (by omega) (by omega), x.1 1322 (by omega) (by omega), x.1 1324 (by omega) (by omega), x.1 1325 (by omega) (by omega), x.1 1326 (by omega) (by omega), x.1 1327 (by omega) (by omega), x.1 1328 (by omega) (by omega), x.1 1329 (by omega) (by omega), x.1 1330 (by omega) (by omega), x.1 1342 (by omega) (by omega), x.1 1343 (by omega) (by omega), x.1 1344 (by omega) (by omega)]
  exact h
theorem RY_b {s σ : zSt} (x : RY s σ) : sT s = sT σ ∧ sD s = sD σ ∧ sC s = sC σ ∧ sz s = sz σ ∧ hm s = hm σ ∧ kd s = kd σ ∧ mF s = mF σ ∧ mH s = mH σ ∧ mK s = mK σ ∧ qday s = qday σ ∧ rdn s = rdn σ ∧ rD s = rD σ ∧ rW s = rW σ ∧ isCr s = isCr σ := by
  refine ⟨?_, ?_, ?_, ?_, ?_, ?_, ?_, ?_, ?_, ?_, ?_, ?_, ?_, ?_⟩
  · funext f j; unfold sT; rw [x.1 1326 (by omega) (by omega)]
  · funext f j; unfold sD; rw [x.1 1327 (by omega) (by omega)]
  · funext f j; unfold sC; rw [x.1 1328 (by omega) (by omega)]
  · funext f; unfold sz; rw [x.1 1329 (by omega) (by omega)]
  · funext f; unfold hm; rw [x.1 1318 (by omega) (by omega)]
  · funext f; unfold kd; rw [x.1 1320 (by omega) (by omega)]
  · unfold mF; rw [x.2 36 (by omega)]
  · unfold mH; rw [x.2 13 (by omega)]
  · unfold mK; rw [x.2 17 (by omega)]
  · exact x.2 0 (by omega)
  · funext f; unfold rdn; rw [x.1 1344 (by omega) (by omega)]
  · funext f j; unfold rD; rw [x.1 1342 (by omega) (by omega)]
  · funext f j; unfold rW; rw [x.1 1343 (by omega) (by omega)]
  · funext f; unfold isCr kd; rw [x.1 1316 (by omega) (by omega), x.1 1320 (by omega) (by omega)]
theorem RY_stn {s σ : zSt} (x : RY s σ) : stn s = stn σ := by
  obtain ⟨b1, b2, b3, b4, -⟩ := RY_b x
  funext f d
  unfold stn
  rw [b1, b2, b4]
theorem RY_lft {s σ : zSt} (x : RY s σ) : lft s = lft σ := by
  funext f d
  unfold lft
  rw [RY_stn x]
theorem RY_lcr {s σ : zSt} (x : RY s σ) : lcr s = lcr σ := by
  obtain ⟨b1, b2, b3, b4, -⟩ := RY_b x
  funext f
  unfold lcr
  rw [b1, b3, b4]
theorem RY_prc {s σ : zSt} (x : RY s σ) : prc s = prc σ := by
  obtain ⟨b1, b2, b3, b4, b5, b6, -⟩ := RY_b x
  funext f
  unfold prc
  rw [x.1 1315 (by omega) (by omega), x.1 1319 (by omega) (by omega), x.1 1321 (by omega) (by omega), b6]
theorem RY_brk {s σ : zSt} (x : RY s σ) : brk s = brk σ := by
  obtain ⟨b1, b2, b3, b4, b5, b6, b7, b8, b9, b10, -⟩ := RY_b x
  funext f
  unfold brk
  rw [x.1 1333 (by omega) (by omega), x.1 1330 (by omega) (by omega), x.1 1331 (by omega) (by omega), b10]
theorem RY_sums {s σ : zSt} (x : RY s σ) : gleft s = gleft σ ∧ gfals s = gfals σ ∧ gbrok s = gbrok σ ∧ gtold s = gtold σ := by
  obtain ⟨b1, b2, b3, b4, b5, b6, b7, b8, b9, b10, -⟩ := RY_b x
  refine ⟨?_, ?_, ?_, ?_⟩
  · funext d i f; unfold gleft; rw [b5, RY_lft x]
  · funext i f; unfold gfals; rw [b5, x.1 1335 (by omega) (by omega)]
  · funext i f; unfold gbrok; rw [b5, RY_brk x]
  · funext i f; unfold gtold; rw [b5]
