def fF (N : Nat) (q rm kv sv ey L nw : Int32) (k : Nat) : Int32 := if k = 11 then nw else if k = 10 then L else if k = 9 then q else fA N rm kv sv ey k
/-- the state with one fault more on both sides, as it is read -/
def FI (σ S : zSt) (N hh kn : Nat) (rm sv ey L nw : Int32) (cr : Bool) : Prop :=
  (∀ i k, gI S 1 i k = if i = N then fF N (qday σ) rm (nI kn) sv ey L nw k else gI σ 1 i k) ∧ (∀ i k, gI S 4 i k = if i = N then (if k = 3 then nI 1 else 0) else gI σ 4 i k) ∧
  (∀ i k, gI S 500 i k = if i = N then (if k = 0 then qday σ else 0) else gI σ 500 i k) ∧ (∀ i k, gI S 501 i k = if i = N then 0 else gI σ 501 i k) ∧ (∀ i k, gI S 502 i k = if i = N then (if k = 0 then -1 else 0) else gI σ 502 i k) ∧
  (∀ a i k, a = 3 ∨ a = 400 ∨ a = 401 → i < gN σ 3 → gI S a i k = gI σ a i k) ∧ (cr = true → gI S 3 (gN σ 3) 2 = 0) ∧
  (∀ b c, gI S 11 b c = if b = 0 ∧ c = 5 then nI (N + 1) else gI σ 11 b c) ∧ (∀ b c, gI S 12 b c = if b = 0 ∧ c = 36 then nI (N + 1) else gI σ 12 b c) ∧
  (∀ i, gI S 1318 0 i = if i = N then nI hh else gI σ 1318 0 i) ∧ (∀ i, gI S 1319 0 i = if i = N then rm else gI σ 1319 0 i) ∧ (∀ i, gI S 1320 0 i = if i = N then nI kn else gI σ 1320 0 i) ∧ (∀ i, gI S 1321 0 i = if i = N then sv else gI σ 1321 0 i) ∧
  (∀ i, gI S 1322 0 i = if i = N then qday σ else gI σ 1322 0 i) ∧ (∀ i, gI S 1323 0 i = if i = N then ey else gI σ 1323 0 i) ∧ (∀ i, gI S 1324 0 i = if i = N then L else gI σ 1324 0 i) ∧ (∀ i, gI S 1325 0 i = if i = N then nw else gI σ 1325 0 i) ∧
  (∀ k, gI S 1326 0 k = if k = 30 * N then 0 else gI σ 1326 0 k) ∧ (∀ k, gI S 1327 0 k = if k = 30 * N then qday σ else gI σ 1327 0 k) ∧ (∀ k, gI S 1328 0 k = if k = 30 * N then -1 else gI σ 1328 0 k) ∧ (∀ i, gI S 1329 0 i = if i = N then nI 1 else gI σ 1329 0 i) ∧
  (∀ a, a ≠ 1 ∧ a ≠ 3 ∧ a ≠ 4 ∧ a ≠ 400 ∧ a ≠ 401 ∧ a ≠ 500 ∧ a ≠ 501 ∧ a ≠ 502 ∧ a ≠ 11 ∧ a ≠ 12 ∧ (a < 1318 ∨ 1329 < a) → gI S a = gI σ a) ∧
  (∀ i k, gR S 1 i k = if i = N then rA N hh kn (if cr then some (gN σ 3) else none) k else gR σ 1 i k) ∧ (∀ i, gR S 1204 0 i = if i = N then some N else gR σ 1204 0 i) ∧
  (∀ a, a ≠ 1 ∧ a ≠ 3 ∧ a ≠ 4 ∧ a ≠ 400 ∧ a ≠ 401 ∧ a ≠ 500 ∧ a ≠ 501 ∧ a ≠ 502 ∧ a ≠ 1204 → gR S a = gR σ a) ∧
  (∀ a, gN S a = if a = 1 ∨ a = 4 ∨ a = 500 ∨ a = 501 ∨ a = 502 ∨ (cr = true ∧ (a = 3 ∨ a = 400 ∨ a = 401)) then gN σ a + 1 else gN σ a) ∧ gZ S 1100 = gZ σ 1100
theorem Inv_fault {σ S : zSt} (h : Inv σ) {N hh kn : Nat} {rm sv ey L nw : Int32} {cr : Bool} (hN : gN σ 1 = N) (hlt : N < 200) (hhh : hh < gN σ 5) (hkd : kn < gN σ 7) (brm : btw 0 rm 11) (bsv : btw 1 sv 9) (hL : L = 0 ∨ L = 1) (hnw : nw = 0 ∨ nw = 1) (hcr : cr = true ↔ gI σ 1316 0 kn &&& 2 ≠ 0) (zo : zOK S) (H : FI σ S N hh kn rm sv ey L nw cr) : Inv S := by
  obtain ⟨hO, hC, hNN, hH, hK, hF, hS, hLL, hG, hD, hT, hX, hZ⟩ := h
  obtain ⟨f1, f4, f500, f501, f502, f3, f3', f11, f12, m18, m19, m20, m21, m22, m23, m24, m25, m26, m27, m28, m29, oI, r1, r1204, oR, nn, gz⟩ := H
  have nS1 : gN S 1 = N + 1 := by rw [nn, if_pos (Or.inl rfl), hN]
  have nSo : ∀ a, a ≠ 1 ∧ a ≠ 3 ∧ a ≠ 4 ∧ a ≠ 400 ∧ a ≠ 401 ∧ a ≠ 500 ∧ a ≠ 501 ∧ a ≠ 502 → gN S a = gN σ a := fun a ha => by rw [nn, if_neg (by omega)]
  have nS5 := nSo 5 (by decide)
  have nS7 := nSo 7 (by decide)
  have nS10 := nSo 10 (by decide)
  have q12 : ∀ c, c ≠ 36 → gI S 12 0 c = gI σ 12 0 c := fun c hc => by rw [f12, if_neg (by omega)]
  have q11 : ∀ c, c ≠ 5 → gI S 11 0 c = gI σ 11 0 c := fun c hc => by rw [f11, if_neg (by omega)]
  have qq : qday S = qday σ := q12 0 (by decide)
  have ehm : ∀ f, hm S f = if f = N then hh else hm σ f := fun f => by
    unfold hm
    rw [m18]
    by_cases e : f = N
    · rw [if_pos e, if_pos e]
      unfold nT
      have := hNN.2.2.1
      rw [nI_ti (by omega)]
      rfl
    · rw [if_neg e, if_neg e]
  have ekd : ∀ f, kd S f = if f = N then kn else kd σ f := fun f => by
    unfold kd
    rw [m20]
    by_cases e : f = N
    · rw [if_pos e, if_pos e]
      unfold nT
      have := hNN.2.2.2.2.2.1
      rw [nI_ti (by omega)]
      rfl
    · rw [if_neg e, if_neg e]
  have esz : ∀ f, sz S f = if f = N then 1 else sz σ f := fun f => by
    unfold sz
    rw [m29]
    by_cases e : f = N
    · rw [if_pos e, if_pos e]; rfl
    · rw [if_neg e, if_neg e]
  have eT : ∀ f j, j < 30 → sT S f j = if f = N ∧ j = 0 then 0 else sT σ f j := fun f j hj => by
    unfold sT
    rw [m26]
    by_cases e : f = N ∧ j = 0
    · rw [if_pos e, if_pos (by omega)]
    · rw [if_neg e, if_neg (by omega)]
  have eD : ∀ f j, j < 30 → sD S f j = if f = N ∧ j = 0 then qday σ else sD σ f j := fun f j hj => by
    unfold sD
    rw [m27]
    by_cases e : f = N ∧ j = 0
    · rw [if_pos e, if_pos (by omega)]
    · rw [if_neg e, if_neg (by omega)]
  have eC : ∀ f j, j < 30 → sC S f j = if f = N ∧ j = 0 then -1 else sC σ f j := fun f j hj => by
    unfold sC
    rw [m28]
    by_cases e : f = N ∧ j = 0
    · rw [if_pos e, if_pos (by omega)]
    · rw [if_neg e, if_neg (by omega)]
  obtain ⟨z1, z2, z3, z4, z5, z6, z7⟩ := hZ.2 N (by omega)
  have q0 := hNN.2.2.2.2.2.2.2.2.2.2.1
  refine ⟨zo, ?_, ?_, ?_, ?_, ?_, ?_, ?_, ?_, ?_, ?_, ?_, ?_⟩
  · obtain ⟨c1, c2, c3, c4, c5, c6, c7, c8, c9, c10, c11, c12, c13, c14, c15⟩ := hC
    refine ⟨by rw [nSo 0 (by decide)]; exact c1, by rw [nSo 2 (by decide)]; exact c2, by rw [nSo 6 (by decide)]; exact c3, by rw [nSo 9 (by decide)]; exact c4, by rw [nSo 11 (by decide)]; exact c5, by rw [nSo 12 (by decide)]; exact c6, ?_, ?_, ?_, ?_, by rw [nSo 610 (by decide), nSo 5 (by decide)]; exact c11, by rw [nSo 611 (by decide), nSo 5 (by decide)]; exact c12, ?_, ?_, by rw [nSo 1100 (by decide), nSo 10 (by decide)]; exact c15⟩
    · rw [nS1, nn, if_pos (by simp), c7, hN]
    · rw [nS1, nn, if_pos (by simp), c8, hN]
    · rw [nS1, nn, if_pos (by simp), c9, hN]
    · rw [nS1, nn, if_pos (by simp), c10, hN]
    · rw [nn, nn, c13]
      cases cr <;> simp
    · rw [nn, nn, c14]
      cases cr <;> simp
  · obtain ⟨n1, n2, n3, n4, n5, n6, n7, n8, n9, n10, n11, n12, n13, n14, n15⟩ := hNN
    unfold vN
    rw [nS1, nSo 5 (by decide), nSo 7 (by decide), qq, q11 1 (by decide), q11 3 (by decide), q11 6 (by decide), q11 7 (by decide), q11 8 (by decide), q11 9 (by decide), q12 13 (by decide), q12 17 (by decide), q12 40 (by decide), q12 41 (by decide), q12 55 (by decide), f11, f12, if_pos ⟨rfl, rfl⟩, if_pos ⟨rfl, rfl⟩]
    exact ⟨n1, n2, n3, n4, n5, n6, rfl, rfl, by omega, n10, n11, n12, n13, n14, n15⟩
  · simp (decide := true) only [vH, vH1, nS5, oI, oR] at hH ⊢
    exact hH
  · simp (decide := true) only [vK, vK1, nS7, oI, oR] at hK ⊢
    exact hK
  · intro f hf
    rw [nS1] at hf
    unfold vF1 pD
    rw [ehm, ekd f, qq, nSo 5 (by decide), nSo 7 (by decide), r1204, r1, r1, f1, f1, f1, f1, f1, f1, f1, f1, f1, f1, f1, f1, m18, m19, m20, m21, m22, m23, m24, m25, oI 1330 (by decide), oI 1331 (by decide), oI 1332 (by decide), oI 1333 (by decide)]
    by_cases e : f = N
    · subst e
      simp only [if_true]
      have b03 : btw 0 (gI σ 1330 0 f) 3 := by rw [z2]; unfold btw; decide
      refine ⟨?_, ?_, ?_, ?_, hhh, ?_, brm, ?_, ?_, ?_, hkd, ?_, bsv, ?_, ?_, ⟨q0.1, Int.le_refl _⟩, ?_, hL, ?_, hnw, ?_, b03, Or.inr z2, ?_, ?_⟩
      all_goals first | trivial | rfl | (rw [z2]; rfl) | (rw [z4]; rfl) | (rw [z3]; rfl)
    · simp only [if_neg e]
      exact hF f (by omega)
  · intro f hf
    rw [nS1] at hf
    unfold vS1
    rw [esz, m29, f4, qq, m22]
    by_cases e : f = N
    · subst e
      simp only [if_true]
      have y : f = f ∧ 0 = 0 := ⟨rfl, rfl⟩
      refine ⟨?_, ?_, by omega, by omega, fun j hj => ?_, fun i j hij hj => ?_, ?_, ?_, fun h1 => ?_⟩
      · trivial
      · trivial
      · obtain rfl : j = 0 := by omega
        rw [f500, f501, f502, eD f 0 (by omega), eT f 0 (by omega), eC f 0 (by omega), if_pos y, if_pos y, if_pos y]
        rw [if_pos rfl, if_pos rfl, if_pos rfl, if_pos rfl, if_pos rfl]
        exact ⟨rfl, rfl, rfl, by unfold btw; decide, fun h => absurd h (by decide), Int.le_refl _, Int.le_refl _⟩
      · obtain rfl : j = 0 := by omega
        obtain rfl : i = 0 := by omega
        exact Int.le_refl _
      · rw [eT f 0 (by omega), if_pos y]
      · rw [eD f 0 (by omega), if_pos y]
      · rw [eT f _ (by omega), if_pos y] at h1
        exact absurd h1 (by decide)
    · simp only [if_neg e]
      have o : ∀ j, ¬ (f = N ∧ j = 0) := fun j hh => e hh.1
      obtain ⟨s1, s2, s3, s4, s5, s6, s7, s8, s9⟩ := hS f (by omega)
      refine ⟨s1, s2, s3, s4, fun j hj => ?_, fun i j hij hj => ?_, ?_, ?_, fun h1 => ?_⟩
      · rw [f500, f501, f502, eD f j (by omega), eT f j (by omega), eC f j (by omega), if_neg e, if_neg e, if_neg e, if_neg (o j), if_neg (o j), if_neg (o j)]
        exact s5 j hj
      · rw [eD f i (by omega), eD f j (by omega), if_neg (o i), if_neg (o j)]
        exact s6 i j hij hj
      · rw [eT f 0 (by omega), if_neg (o 0)]; exact s7
      · rw [eD f 0 (by omega), if_neg (o 0)]; exact s8
      · rw [oI 1330 (by decide)]
        rw [eT f _ (by omega), if_neg (o _)] at h1
        exact s9 h1
  · have kSo : ∀ c f, f < N → kS (sT S f) (sC S f) c (sz S f) = kS (sT σ f) (sC σ f) c (sz σ f) := fun c f hf => by
      have e : ¬ f = N := by omega
      have s4 := (hS f (by omega)).2.2.2.1
      rw [esz, if_neg e]
      exact kS_congr _ fun i hi => by rw [eT f i (by omega), eC f i (by omega), if_neg (fun hh => e hh.1), if_neg (fun hh => e hh.1)]; exact ⟨rfl, rfl⟩
    have kFo : ∀ c f, f < N → kF (sT S f) (sC S f) c (sz S f - 1) = kF (sT σ f) (sC σ f) c (sz σ f - 1) := fun c f hf => by
      have e : ¬ f = N := by omega
      have s4 := (hS f (by omega)).2.2.2.1
      have s3 := (hS f (by omega)).2.2.1
      rw [esz, if_neg e]
      refine kF_congr _ (fun i hi => ?_) ?_
      · rw [eT f i (by omega), eC f i (by omega), if_neg (fun hh => e hh.1), if_neg (fun hh => e hh.1)]; exact ⟨rfl, rfl⟩
      · rw [eT f _ (by omega), if_neg (fun hh => e hh.1)]
    have po : ∀ c f, f < N → pend (sT S f (sz S f - 1)) (sC S f (sz S f - 1)) c = pend (sT σ f (sz σ f - 1)) (sC σ f (sz σ f - 1)) c := fun c f hf => by
      have e : ¬ f = N := by omega
      have s4 := (hS f (by omega)).2.2.2.1
      have s3 := (hS f (by omega)).2.2.1
      rw [esz, if_neg e, eT f _ (by omega), eC f _ (by omega), if_neg (fun hh => e hh.1), if_neg (fun hh => e hh.1)]
    have t0 : sT S N 0 = 0 := by rw [eT N 0 (by omega), if_pos ⟨rfl, rfl⟩]
    have kSn : ∀ c, kS (sT S N) (sC S N) c (sz S N) = 0 := fun c => by
      rw [esz, if_pos rfl]
      show (0 : Int32) + (if sT S N 0 = 2 ∧ (c = -1 ∨ sC S N 0 = c) then 1 else 0) = 0
      rw [t0, if_neg (fun hh => absurd hh.1 (by decide))]
      rfl
    have kFn : ∀ c, kF (sT S N) (sC S N) c (sz S N - 1) = 0 := fun c => by
      rw [esz, if_pos rfl]
      rfl
    have pn : ∀ c, pend (sT S N (sz S N - 1)) (sC S N (sz S N - 1)) c = 0 := fun c => by
      rw [esz, if_pos rfl]
      unfold pend
      rw [show (1 - 1 : Nat) = 0 from rfl, t0, if_neg (fun hh => absurd hh.1 (by decide))]
    refine ⟨fun f hf => ?_, fun c hc => ?_⟩
    · rw [nS1] at hf
      rw [oI 1334 (by decide), oI 1335 (by decide)]
      by_cases e : f = N
      · subst e
        rw [kSn, kFn]
        exact ⟨z5, z6⟩
      · rw [kSo _ f (by omega), kFo _ f (by omega)]
        exact hLL.1 f (by omega)
    · obtain ⟨c1, c2, c3, c4, c5, c6, c7⟩ := hLL.2 c hc
      rw [hN] at c2 c3 c7
      have w1 : zs (fun f => kS (sT S f) (sC S f) (nI c) (sz S f)) (N + 1) = zs (fun f => kS (sT σ f) (sC σ f) (nI c) (sz σ f)) N := by
        show zs _ N + kS (sT S N) (sC S N) (nI c) (sz S N) = _
        rw [kSn, i_add0]
        exact zs_congr _ fun f hf => kSo _ f hf
      have w2 : zs (fun f => kF (sT S f) (sC S f) (nI c) (sz S f - 1)) (N + 1) = zs (fun f => kF (sT σ f) (sC σ f) (nI c) (sz σ f - 1)) N := by
        show zs _ N + kF (sT S N) (sC S N) (nI c) (sz S N - 1) = _
        rw [kFn, i_add0]
        exact zs_congr _ fun f hf => kFo _ f hf
      have w3 : zsz (fun f => pend (sT S f (sz S f - 1)) (sC S f (sz S f - 1)) c) (N + 1) = zsz (fun f => pend (sT σ f (sz σ f - 1)) (sC σ f (sz σ f - 1)) c) N := by
        show zsz _ N + pend (sT S N (sz S N - 1)) (sC S N (sz S N - 1)) c = _
        rw [pn, Int.add_zero]
        exact zsz_congr _ fun f hf => po _ f hf
      rw [nS1, w1, w2, w3, oI 1217 (by decide), oI 1337 (by decide), oI 1338 (by decide), oI 1339 (by decide)]
      exact ⟨c1, c2, c3, c4, c5, c6, c7⟩
  · obtain ⟨G1, G2⟩ := hG
    have eW : ∀ f j, rW S f j = rW σ f j := fun f j => by unfold rW; rw [oI 1343 (by decide)]
    have eRD : ∀ f j, rD S f j = rD σ f j := fun f j => by unfold rD; rw [oI 1342 (by decide)]
    have eRN : ∀ f, rdn S f = rdn σ f := fun f => by unfold rdn; rw [oI 1344 (by decide)]
    have c8 : ∀ i, gR S 1 i 8 = if i = N then (if cr then some (gN σ 3) else none) else gR σ 1 i 8 := fun i => by
      rw [r1]; rfl
    refine ⟨fun f hf => ?_, fun f f' g hf hf' e1 e2 => ?_⟩
    · rw [nS1] at hf
      unfold vG1
      rw [eRN, oI 1344 (by decide), qq, c8]
      simp only [eW, eRD]
      unfold isCr
      rw [ekd f, oI 1316 (by decide)]
      by_cases e : f = N
      · subst e
        simp only [if_true]
        have r0 : rdn σ f = 0 := by unfold rdn; rw [z7]; rfl
        rw [r0, z7]
        refine ⟨rfl, by omega, fun j hj => by omega, fun i j hij hj => by omega, ?_⟩
        cases hc : cr
        · right
          refine ⟨fun hh => ?_, rfl, rfl⟩
          rw [hcr.mpr hh] at hc
          cases hc
        · left
          refine ⟨hcr.mp hc, gN σ 3, rfl, ?_, ?_, fun j hj => by omega⟩
          · rw [nn, hc, if_pos (by simp)]; omega
          · exact f3' hc
      · simp only [if_neg e]
        obtain ⟨a1, a2, a3, a4, a5⟩ := G1 f (by omega)
        refine ⟨a1, a2, a3, a4, ?_⟩
        rcases a5 with ⟨b1, g, b2, b3, b4, b5⟩ | b
        · refine Or.inl ⟨b1, g, b2, ?_, ?_, fun j hj => ?_⟩
          · rw [nn]; split <;> omega
          · rw [f3 3 g 2 (by simp) b3]; exact b4
          · rw [f3 400 g j (by simp) b3, f3 401 g j (by simp) b3]
            exact b5 j hj
        · exact Or.inr b
    · rw [nS1] at hf hf'
      rw [c8] at e1 e2
      have lt3 : ∀ f, f < N → gR σ 1 f 8 = some g → g < gN σ 3 := fun f hf he => by
        obtain ⟨a1, a2, a3, a4, a5⟩ := G1 f (by omega)
        rcases a5 with ⟨b1, g', b2, b3, b4, b5⟩ | ⟨b1, b2, b3⟩
        · have := b2.symm.trans he
          rw [Option.some_inj] at this
          omega
        · rw [b2] at he; cases he
      have new3 : (if cr then some (gN σ 3) else none) = some g → g = gN σ 3 := fun he => by
        cases cr
        · cases he
        · have : some (gN σ 3) = some g := he
          rw [Option.some_inj] at this
          omega
      by_cases ef : f = N
      · by_cases ef' : f' = N
        · omega
        · rw [if_pos ef] at e1
          rw [if_neg ef'] at e2
          have := lt3 f' (by omega) e2
          have := new3 e1
          omega
      · by_cases ef' : f' = N
        · rw [if_neg ef] at e1
          rw [if_pos ef'] at e2
          have := lt3 f (by omega) e1
          have := new3 e2
          omega
        · rw [if_neg ef] at e1
          rw [if_neg ef'] at e2
          exact G2 f f' g (by omega) (by omega) e1 e2
  · have ej : jbn S = jbn σ := by unfold jbn; rw [q12 47 (by decide)]
    have ep : pln S = pln σ := by unfold pln; rw [q12 62 (by decide)]
    unfold vD
    rw [ej, ep, q12 47 (by decide), q12 62 (by decide), oI 100 (by decide), oI 1345 (by decide), oI 0 (by decide), oI 1346 (by decide), oR 101 (by decide), oI 103 (by decide), oI 1361 (by decide)]
    obtain ⟨d1, d2, d3, d4, d5, d6⟩ := hD
    refine ⟨d1, d2, d3, d4, fun i hi => ?_, d6⟩
    obtain ⟨g, g1, g2, g3, g4⟩ := d5 i hi
    refine ⟨g, by omega, g2, g3, ?_⟩
    unfold pD at g4 ⊢
    rw [f1, if_neg (by omega), oI 1331 (by decide)]
    exact g4
  · have et : tpn S = tpn σ := by unfold tpn; rw [q12 49 (by decide)]
    unfold vT
    rw [et, q12 49 (by decide), q11 11 (by decide), oI 1210 (by decide), oI 1348 (by decide)]
    exact hT
  · simp (decide := true) only [vX, vX1, txn, nS10, oI, oR, gz] at hX ⊢
    exact hX
  · refine ⟨fun i hi => ?_, fun f hf => ?_⟩
    · rw [nSo 5 (by decide)] at hi
      rw [oI 1306 (by decide), oI 1307 (by decide), oI 1310 (by decide), oI 1311 (by decide), oI 1312 (by decide)]
      exact hZ.1 i hi
    · rw [nS1] at hf
      rw [m29, if_neg (by omega), oI 1330 (by decide), oI 1332 (by decide), oI 1333 (by decide), oI 1334 (by decide), oI 1335 (by decide), oI 1344 (by decide)]
      exact hZ.2 f (by omega)
