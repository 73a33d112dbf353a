/-! text -/
theorem e12 {s σ : zSt} (hI : ∀ t k, nsc t k = true → ∀ i, gI s t i k = gI σ t i k) (t k : Nat) (h : nsc t k = true) (i : Nat) : gI s t i k = gI σ t i k := hI t k h i
/-- the invariant reads no scratch field -/
theorem Inv_cg {s σ : zSt} (hI : ∀ t k, nsc t k = true → ∀ i, gI s t i k = gI σ t i k) (hR : gR s = gR σ) (hN : gN s = gN σ) (hZ : gZ s = gZ σ) (h : Inv σ) : Inv s := by
  have A : ∀ t, nscA t = true → gI s t = gI σ t := fun t ht => by
    funext i k
    exact hI t k (nscA_c ht k) i
  unfold Inv zOK vC vN vH vH1 vK vK1 vF vF1 vS vS1 vL vG vG1 vD vT vX vX1 vZ pD isCr qday hm kd sz rdn sT sD sC rD rW txn jbn pln tpn at h ⊢
  simp only [hR, hN, hZ, hI 12 0 rfl, hI 12 13 rfl, hI 12 17 rfl, hI 12 36 rfl, hI 12 40 rfl, hI 12 41 rfl, hI 12 47 rfl, hI 12 49 rfl, hI 12 55 rfl, hI 12 62 rfl, A 0 rfl, A 1 rfl, A 3 rfl, A 4 rfl, A 5 rfl, A 7 rfl, A 9 rfl, A 10 rfl, A 11 rfl, A 100 rfl, A 103 rfl, A 400 rfl, A 401 rfl, A 500 rfl, A 501 rfl, A 502 rfl, A 610 rfl, A 611 rfl, A 1100 rfl, A 1210 rfl, A 1217 rfl, A 1361 rfl, A 1301 rfl, A 1302 rfl, A 1303 rfl, A 1304 rfl, A 1305 rfl, A 1306 rfl, A 1307 rfl, A 1308 rfl, A 1309 rfl, A 1310 rfl, A 1311 rfl, A 1312 rfl, A 1314 rfl, A 1315 rfl, A 1316 rfl, A 1318 rfl, A 1319 rfl, A 1320 rfl, A 1321 rfl, A 1322 rfl, A 1323 rfl, A 1324 rfl, A 1325 rfl, A 1326 rfl, A 1327 rfl, A 1328 rfl, A 1329 rfl, A 1330 rfl, A 1331 rfl, A 1332 rfl, A 1333 rfl, A 1334 rfl, A 1335 rfl, A 1337 rfl, A 1338 rfl, A 1339 rfl, A 1342 rfl, A 1343 rfl, A 1344 rfl, A 1345 rfl, A 1346 rfl, A 1348 rfl, A 1350 rfl, A 1351 rfl, A 1352 rfl, A 1353 rfl, A 1354 rfl]
  exact h
theorem Ch.ex {s σ : zSt} (h : Ch s σ) {t i k : Nat} {v : Int32} : Ch (pI s t i k v) (pI σ t i k v) := by
  have hI : ∀ t' k', nsc t' k' = true → ∀ i', gI (pI s t i k v) t' i' k' = gI (pI σ t i k v) t' i' k' := fun t' k' q i' => by
    rw [gI_pI, gI_pI, h.2.1 t' k' q i']
  exact ⟨Inv_cg hI h.2.2.1 h.2.2.2.1 h.2.2.2.2, hI, h.2.2.1, h.2.2.2.1, h.2.2.2.2⟩
theorem frR_cg {b b' : Nat → Int32} : ∀ d i o dg w t, (∀ j, i ≤ j → j < i + d → b j = b' j) → frR b d i o dg w t = frR b' d i o dg w t
  | 0, i, o, dg, w, t, _ => rfl
  | d + 1, i, o, dg, w, t, h => by
    have ih : ∀ o dg w t, frR b d (i + 1) o dg w t = frR b' d (i + 1) o dg w t := fun o dg w t => frR_cg d (i + 1) o dg w t fun j h1 h2 => h j (by omega) (by omega)
    rw [frR, frR, h i (by omega) (by omega)]
    simp only [ih]
theorem wrR_cg {b b' : Nat → Int32} : ∀ d i ph dg, (∀ j, i ≤ j → j < i + d → b j = b' j) → wrR b d i ph dg = wrR b' d i ph dg
  | 0, i, ph, dg, _ => rfl
  | d + 1, i, ph, dg, h => by
    have ih : ∀ ph dg, wrR b d (i + 1) ph dg = wrR b' d (i + 1) ph dg := fun ph dg => wrR_cg d (i + 1) ph dg fun j h1 h2 => h j (by omega) (by omega)
    rw [wrR, wrR, h i (by omega) (by omega)]
    simp only [ih]
def tfl (w : Nat) (b : Nat → Int32) (n : Nat) : Option Nat := if w = 0 then wrR b n 0 0 0 else frR b n 0 0 0 true false
theorem tfl_ok {w : Nat} {b b' : Nat → Int32} {n : Nat} (h : tfl w b n = none) (e : ∀ j, j < n → b' j = b j) : zokT w b' n := by
  unfold tfl at h
  constructor
  · intro hw
    rw [if_pos hw] at h
    rw [← h]
    exact wrR_cg n 0 0 0 fun j _ hj => e j (by omega)
  · intro hw
    rw [if_neg (by omega)] at h
    rw [← h]
    exact frR_cg n 0 0 0 true false fun j _ hj => e j (by omega)
/-- a row filled -/
def cpW (s : zSt) (t o base : Nat) (b : Nat → Int32) : Nat → zSt
  | 0 => s
  | n + 1 => pI (cpW s t o base b n) t o (base + n) (b n)
theorem cpW_fr {P : zSt → Prop} {t : Nat} (hP : ∀ s i k v, P s → P (pI s t i k v)) {s : zSt} {o base : Nat} {b : Nat → Int32} (H : P s) : ∀ {n}, P (cpW s t o base b n)
  | 0 => H
  | n + 1 => hP _ _ _ _ (cpW_fr hP H)
theorem cpW_ne {s : zSt} {t o base : Nat} {b : Nat → Int32} {a : Nat} (h : a ≠ t) : ∀ n, gI (cpW s t o base b n) a = gI s a
  | 0 => rfl
  | n + 1 => by
    show gI (pI (cpW s t o base b n) t o (base + n) (b n)) a = _
    rw [gI_ne h, cpW_ne h n]
theorem cpW_R {s : zSt} {t o base : Nat} {b : Nat → Int32} : ∀ n, gR (cpW s t o base b n) = gR s ∧ gN (cpW s t o base b n) = gN s ∧ gZ (cpW s t o base b n) = gZ s
  | 0 => ⟨rfl, rfl, rfl⟩
  | n + 1 => cpW_R n
theorem cpW_at {s : zSt} {t o base : Nat} {b : Nat → Int32} (i k : Nat) : ∀ n, gI (cpW s t o base b n) t i k = if i = o ∧ base ≤ k ∧ k < base + n then b (k - base) else gI s t i k
  | 0 => by
    rw [if_neg (by omega)]
    rfl
  | n + 1 => by
    show gI (pI (cpW s t o base b n) t o (base + n) (b n)) t i k = _
    rw [gI_pI, cpW_at i k n]
    by_cases c : i = o ∧ k = base + n
    · rw [if_pos ⟨rfl, c.1, c.2⟩, if_pos (by omega), c.2, Nat.add_sub_cancel_left]
    · rw [if_neg (fun h => c h.2)]
      by_cases c2 : i = o ∧ base ≤ k ∧ k < base + n
      · rw [if_pos c2, if_pos (by omega)]
      · rw [if_neg c2, if_neg (by omega)]
theorem ztx_e (s : zSt) (n : Nat) (hn : n ≤ 160) : ztx s 0 n = cpW (nw s 1100 n) 1100 (gN s 1100) 0 (fun j => gI s 1210 0 j) n := by
  have r := cpW_R (s := nw s 1100 n) (t := 1100) (o := gN s 1100) (base := 0) (b := fun j => gI s 1210 0 j) n
  have e1 : (ztx s 0 n).1 = (cpW (nw s 1100 n) 1100 (gN s 1100) 0 (fun j => gI s 1210 0 j) n).1 := by
    funext a b c
    show (if a = 1100 ∧ b = gN s 1100 ∧ c < n then gI s 1210 0 c else (nw s 1100 n).1 a b c) = gI (cpW (nw s 1100 n) 1100 (gN s 1100) 0 (fun j => gI s 1210 0 j) n) a b c
    by_cases ha : a = 1100
    · subst ha
      rw [cpW_at]
      by_cases h2 : b = gN s 1100 ∧ 0 ≤ c ∧ c < 0 + n
      · rw [if_pos h2, if_pos ⟨rfl, h2.1, by omega⟩, Nat.sub_zero]
      · rw [if_neg h2, if_neg (by omega)]
        rfl
    · rw [if_neg (fun h => ha h.1), cpW_ne ha]
      rfl
  have e2 : ∀ n', (cpW (nw s 1100 n) 1100 (gN s 1100) 0 (fun j => gI s 1210 0 j) n').2 = (nw s 1100 n).2 := by
    intro n'
    induction n' with
    | zero => rfl
    | succ n' ih => exact ih
  exact Prod.ext e1 (e2 n).symm
noncomputable def txK (v1 v2 : Int32) (s4 : zSt) : Option (Int32 × zSt) :=
  zlt (gI s4 12 0 49 : Int32) fun x7 =>
  zlt (pI s4 12 0 49 0) fun s8 =>
  if (gI s8 12 0 69) < 0 then (zix v1 2 fun m9 =>
  zlt ((10 * v1) + (gI s8 1354 0 m9) : Int32) fun x10 =>
  f12_text_L99 v1 v2 x7 x10 (fun (s16 : zSt) =>
  zix x10 20 fun m17 =>
  zlt (pI s16 1351 0 m17 x7) fun s18 =>
  zix x10 20 fun m19 =>
  zlt (pI s18 1352 0 m19 v2) fun s20 =>
  zix x10 20 fun m21 =>
  zlt (pI s20 1353 0 m21 (gI s20 12 0 0)) fun s22 =>
  zix v1 2 fun m23 =>
  zix v1 2 fun m24 =>
  zlt (pI s22 1354 0 m24 ((gI s22 1354 0 m23) + 1)) fun s25 =>
  zix v1 2 fun m26 =>
  some ((gI s25 1354 0 m26) - 1, s25)) zfuel 0 s8) else
  some ((-100) - (gI s8 12 0 69), s8)
theorem text_eq (v1 v2 : Int32) (σ : zSt) : f12_text v1 v2 σ = zc1 (f12_within v1 0 1 σ) fun r1 => if r1 = 0 then (some ((-1), σ)) else zc1 (f12_isDay v2 σ) fun r2 => if r2 = 0 then (some ((-1), σ)) else zix v1 2 fun m3 => if (gI σ 1354 0 m3) = 10 then (some ((-2), σ)) else if v1 = 0 then (zc2 (f12_readWarranty (-1) (gI σ 12 0 49) σ) fun _ s28 => txK v1 v2 s28) else zc2 (f12_readFreeing (-1) (gI σ 12 0 49) σ) fun r29 s30 => txK v1 v2 s30 := by
  unfold f12_text
  rfl
theorem l_99 {s : zSt} {k n : Nat} (hk : k < 20) (hn : n ≤ 160) (v1 v2 : Int32) (K : zSt → Option (Int32 × zSt)) : f12_text_L99 v1 v2 (nI n) (nI k) K zfuel 0 s = K (cpW s 1350 0 (160 * k) (fun j => gI s 1348 0 j) n) := by
  have key : ∀ d i m, i + d = n → d < m → f12_text_L99 v1 v2 (nI n) (nI k) K m (nI i) (cpW s 1350 0 (160 * k) (fun j => gI s 1348 0 j) i) = K (cpW s 1350 0 (160 * k) (fun j => gI s 1348 0 j) n) := by
    intro d
    induction d with
    | zero =>
      intro i m hi hm
      obtain ⟨m, rfl⟩ : ∃ q, m = q + 1 := ⟨m - 1, by omega⟩
      obtain rfl : i = n := by omega
      rw [f12_text_L99, if_pos (zn_rle _)]
    | succ d ih =>
      intro i m hi hm
      obtain ⟨m, rfl⟩ : ∃ q, m = q + 1 := ⟨m - 1, by omega⟩
      rw [← ih (i + 1) m (by omega) (by omega), f12_text_L99, if_neg (zn_nle (show i < n by omega) (by omega)), zix_s (show i < 160 by omega) (by decide), nI_row160 k i (by omega), zix_s (show 160 * k + i < 3200 by omega) (by decide), cpW_ne (show 1348 ≠ 1350 by decide), zlt_s, nI_suc i (by omega), zlt_s]
      rfl
  exact key n 0 zfuel (by omega) (zfuel_pos (by omega))
/-- the reference reads the tape -/
theorem m_tape {s : zSt} {b : Nat → Int32} {n w : Nat} (hw : w < 2) (hn : n ≤ 160) (h49 : gI s 12 0 49 = nI n) (hb : ∀ j, j < n → gI s 1348 0 j = b j ∧ btw 0 (b j) 255) (v2 : Int32) : ∃ s', Ch s' s ∧ gI s' 12 0 69 = ofo (tfl w b n) ∧ (if nI w = 0 then (zc2 (f12_readWarranty (-1) (gI s 12 0 49) s) fun _ s28 => txK (nI w) v2 s28) else zc2 (f12_readFreeing (-1) (gI s 12 0 49) s) fun r29 s30 => txK (nI w) v2 s30) = txK (nI w) v2 s' := by
  have B : RB (bgT s (-1) (nI n)) b n := by
    unfold RB bgT
    rw [gI_at, gI_ne (show 1348 ≠ 12 by decide), gI_ne (show 1348 ≠ 12 by decide), gI_nk (show ¬ (12 = 12 ∧ 66 = 68) by decide), gI_at]
    exact ⟨rfl, hn, fun j hj => (hb j hj).2, Or.inl ⟨rfl, fun j hj => (hb j hj).1⟩⟩
  rw [h49]
  unfold tfl
  have hw2 : w = 0 ∨ w = 1 := by omega
  rcases hw2 with rfl | rfl
  · obtain ⟨s', e1, e2, e3, -⟩ := m_readWarranty (H := fun j => gI s 1371 0 j) B (fun j _ => rfl)
    refine ⟨s', e2.1, e3, ?_⟩
    rw [if_pos (show nI 0 = 0 from rfl), e1, zc2_s]
  · obtain ⟨v, a', o', e1, -⟩ := m_readFreeing (H := fun j => gI s 1377 0 j) B (fun j _ => rfl)
    refine ⟨rdS (bgT s (-1) (nI n)) (nI a') (ofo (frR b n 0 0 0 true false)) o', Ch_rd ((Ch.rf.I rfl).I rfl), rdS_69, ?_⟩
    rw [if_neg (show ¬ nI 1 = 0 by decide), e1, zc2_s]
