theorem zn_nle {i N : Nat} (h : i < N) (hN : N < 2 ^ 31) : ¬ nI N ≤ nI i := by
  rw [i_le, nI_ti hN, nI_ti (show i < 2 ^ 31 by omega)]
  omega
theorem zn_rle (N : Nat) : nI N ≤ nI N := by
  rw [i_le]
  omega
/-- a loop that sums up -/
theorem lsum (L : Nat → Int32 → Int32 → Option Int32) (g : Nat → Int32) (N : Nat) (hN : N + 1 < 2 ^ 31) (hstep : ∀ n s i, i < N → L (n + 1) s (nI i) = L n (s + g i) (nI i + 1)) (hstop : ∀ n s, L (n + 1) s (nI N) = some s) {fuel : Nat} (hf : N < fuel) : L fuel 0 0 = some (zs g N) := by
  have key : ∀ d i n, i + d = N → d < n → L n (zs g i) (nI i) = some (zs g N) := by
    intro d
    induction d with
    | zero =>
      intro i n hi hd
      obtain rfl : i = N := by omega
      obtain ⟨m, rfl⟩ : ∃ m, n = m + 1 := ⟨n - 1, by omega⟩
      exact hstop m _
    | succ d ih =>
      intro i n hi hd
      obtain ⟨m, rfl⟩ : ∃ m, n = m + 1 := ⟨n - 1, by omega⟩
      rw [hstep m _ i (by omega), nI_suc i (by omega)]
      exact ih (i + 1) m (by omega) (by omega)
  exact key N 0 fuel (by omega) hf
/-- a loop with any state -/
theorem lfold {S β : Type} (L : Nat → S → Int32 → Option β) (K : S → Option β) (F : Nat → S → S) (N : Nat) (s0 : S) (hN : N + 1 < 2 ^ 31) (hstep : ∀ n i, i < N → L (n + 1) (zfold F s0 i) (nI i) = L n (zfold F s0 (i + 1)) (nI i + 1)) (hstop : ∀ n, L (n + 1) (zfold F s0 N) (nI N) = K (zfold F s0 N)) {fuel : Nat} (hf : N < fuel) : L fuel s0 0 = K (zfold F s0 N) := by
  have key : ∀ d i n, i + d = N → d < n → L n (zfold F s0 i) (nI i) = K (zfold F s0 N) := by
    intro d
    induction d with
    | zero =>
      intro i n hi hd
      obtain rfl : i = N := by omega
      obtain ⟨m, rfl⟩ : ∃ m, n = m + 1 := ⟨n - 1, by omega⟩
      exact hstop m
    | succ d ih =>
      intro i n hi hd
      obtain ⟨m, rfl⟩ : ∃ m, n = m + 1 := ⟨n - 1, by omega⟩
      rw [hstep m i (by omega), nI_suc i (by omega)]
      exact ih (i + 1) m (by omega) (by omega)
  exact key N 0 fuel (by omega) hf
/-- a loop that looks for the first place -/
theorem lfirst {β : Type} (L : Nat → Int32 → Option β) (K : Option β) (p : Nat → Bool) (R : Nat → Option β) (N : Nat) (hN : N + 1 < 2 ^ 31) (hstep : ∀ n i, i < N → L (n + 1) (nI i) = if p i then R i else L n (nI i + 1)) (hstop : ∀ n, L (n + 1) (nI N) = K) {fuel : Nat} (hf : N < fuel) : L fuel 0 = match zfirst p 0 N with | some j => R j | none => K := by
  have key : ∀ d i n, i + d = N → d < n → L n (nI i) = match zfirst p i d with | some j => R j | none => K := by
    intro d
    induction d with
    | zero =>
      intro i n hi hd
      obtain rfl : i = N := by omega
      obtain ⟨m, rfl⟩ : ∃ m, n = m + 1 := ⟨n - 1, by omega⟩
      exact hstop m
    | succ d ih =>
      intro i n hi hd
      obtain ⟨m, rfl⟩ : ∃ m, n = m + 1 := ⟨n - 1, by omega⟩
      rw [hstep m i (by omega), nI_suc i (by omega)]
      unfold zfirst
      by_cases h : p i = true
      · rw [if_pos h, if_pos h]
      · rw [if_neg h, if_neg h]
        exact ih (i + 1) m (by omega) (by omega)
  exact key N 0 fuel (by omega) hf
theorem zfirst_some {p : Nat → Bool} : ∀ (d i j : Nat), zfirst p i d = some j → i ≤ j ∧ j < i + d ∧ p j = true ∧ ∀ k, i ≤ k → k < j → p k = false
  | 0, i, j, h => by cases h
  | d + 1, i, j, h => by
    unfold zfirst at h
    by_cases e : p i = true
    · rw [if_pos e] at h
      cases h
      exact ⟨Nat.le_refl _, by omega, e, fun k h1 h2 => by omega⟩
    · rw [if_neg e] at h
      obtain ⟨h1, h2, h3, h4⟩ := zfirst_some d (i + 1) j h
      refine ⟨by omega, by omega, h3, fun k a b => ?_⟩
      by_cases e2 : k = i
      · subst e2
        exact Bool.eq_false_iff.mpr e
      · exact h4 k (by omega) b
theorem zfirst_none {p : Nat → Bool} : ∀ (d i : Nat), zfirst p i d = none → ∀ k, i ≤ k → k < i + d → p k = false
  | 0, i, _, k, h1, h2 => by omega
  | d + 1, i, h, k, h1, h2 => by
    unfold zfirst at h
    by_cases e : p i = true
    · rw [if_pos e] at h
      cases h
    · rw [if_neg e] at h
      by_cases e2 : k = i
      · subst e2
        exact Bool.eq_false_iff.mpr e
      · exact zfirst_none d (i + 1) h k (by omega) (by omega)
theorem zfirst_congr {p q : Nat → Bool} : ∀ (d i : Nat), (∀ k, i ≤ k → k < i + d → p k = q k) → zfirst p i d = zfirst q i d
  | 0, _, _ => rfl
  | d + 1, i, h => by
    unfold zfirst
    rw [h i (Nat.le_refl _) (by omega), zfirst_congr d (i + 1) fun k a b => h k (by omega) (by omega)]
/-- is there one among the first n -/
def zan (p : Nat → Bool) : Nat → Bool
  | 0 => false
  | n + 1 => zan p n || p n
theorem zan_iff {p : Nat → Bool} : ∀ n, zan p n = true ↔ ∃ i, i < n ∧ p i = true
  | 0 => ⟨fun h => (by cases h), fun ⟨i, h, _⟩ => (by omega)⟩
  | n + 1 => by
    unfold zan
    rw [Bool.or_eq_true, zan_iff n]
    constructor
    · rintro (⟨i, h, e⟩ | e)
      · exact ⟨i, by omega, e⟩
      · exact ⟨n, by omega, e⟩
    · rintro ⟨i, h, e⟩
      by_cases e2 : i = n
      · subst e2; exact Or.inr e
      · exact Or.inl ⟨i, by omega, e⟩
theorem zan_first {p : Nat → Bool} (n : Nat) : zan p n = (zfirst p 0 n).isSome := by
  rw [Bool.eq_iff_iff, zan_iff]
  constructor
  · rintro ⟨i, h, e⟩
    cases hz : zfirst p 0 n with
    | none =>
      have := zfirst_none n 0 hz i (by omega) (by omega)
      rw [e] at this
      cases this
    | some j => rfl
  · intro h
    cases hz : zfirst p 0 n with
    | none => rw [hz] at h; cases h
    | some j =>
      obtain ⟨h1, h2, h3, _⟩ := zfirst_some n 0 j hz
      exact ⟨j, by omega, h3⟩
def b01 (b : Bool) : Int32 := if b then 1 else 0
/-! THE REFERENCE'S OWN INVARIANT -/
def mF (σ : zSt) : Nat := nT (gI σ 12 0 36)
def mH (σ : zSt) : Nat := nT (gI σ 12 0 13)
def mK (σ : zSt) : Nat := nT (gI σ 12 0 17)
def RS (σ : zSt) (f : Nat) : Prop := gI σ 1329 0 f = nI (sz σ f) ∧ 1 ≤ sz σ f ∧ sz σ f ≤ 30 ∧
  (∀ j, j < sz σ f → btw 0 (sT σ f j) 4 ∧ (sT σ f j = 2 → btw 0 (sC σ f j) 9) ∧ ((gI σ 1322 0 f).toInt ≤ (sD σ f j).toInt ∧ (sD σ f j).toInt ≤ (qday σ).toInt)) ∧
  (∀ i j, i ≤ j → j < sz σ f → (sD σ f i).toInt ≤ (sD σ f j).toInt) ∧ sT σ f 0 = 0 ∧ sD σ f 0 = gI σ 1322 0 f
def RG (σ : zSt) (f : Nat) : Prop := gI σ 1344 0 f = nI (rdn σ f) ∧ rdn σ f ≤ 12 ∧ (∀ j, j < rdn σ f → btw 0 (rW σ f j) 9999 ∧ (0 ≤ (rD σ f j).toInt ∧ (rD σ f j).toInt ≤ (qday σ).toInt)) ∧ (∀ i j, i < j → j < rdn σ f → (rD σ f i).toInt < (rD σ f j).toInt) ∧ (¬ isCr σ f → rdn σ f = 0)
def RF (σ : zSt) (f : Nat) : Prop := gI σ 1318 0 f = nI (hm σ f) ∧ hm σ f < mH σ ∧ btw 0 (gI σ 1319 0 f) 11 ∧ gI σ 1320 0 f = nI (kd σ f) ∧ kd σ f < mK σ ∧ btw 1 (gI σ 1321 0 f) 9 ∧ (0 ≤ (gI σ 1322 0 f).toInt ∧ (gI σ 1322 0 f).toInt ≤ (qday σ).toInt) ∧
  (gI σ 1324 0 f = 0 ∨ gI σ 1324 0 f = 1) ∧ (gI σ 1325 0 f = 0 ∨ gI σ 1325 0 f = 1) ∧ btw 0 (gI σ 1330 0 f) 3 ∧ RS σ f ∧ RG σ f
def RH (σ : zSt) (h : Nat) : Prop := btw 0 (gI σ 1301 0 h) 7 ∧ btw 0 (gI σ 1302 0 h) 99 ∧ btw (-1) (gI σ 1305 0 h) 9999 ∧ btw 0 (gI σ 1308 0 h) 127 ∧ btw 0 (gI σ 1310 0 h) 99999 ∧ btw 0 (gI σ 1307 0 h) 20 ∧ ∀ t, t < 10 → btw (-1) (gI σ 1309 0 (10 * h + t)) 9
def RK (σ : zSt) (k : Nat) : Prop := btw 0 (gI σ 1314 0 k) 9 ∧ btw 1 (gI σ 1315 0 k) 999 ∧ btw 0 (gI σ 1316 0 k) 7
def RI (σ : zSt) : Prop := (gI σ 12 0 13 = nI (mH σ) ∧ mH σ ≤ 40) ∧ (gI σ 12 0 17 = nI (mK σ) ∧ mK σ ≤ 20) ∧ (gI σ 12 0 36 = nI (mF σ) ∧ mF σ ≤ 200) ∧ btw 0 (qday σ) 9999 ∧ (∀ f, f < mF σ → RF σ f) ∧ (∀ h, h < mH σ → RH σ h) ∧ ∀ k, k < mK σ → RK σ k
/-- the reference's tables are the same -/
def RX (s σ : zSt) : Prop := ∀ a, a = 12 ∨ 1300 ≤ a → gI s a = gI σ a
theorem RX.rf {σ : zSt} : RX σ σ := fun _ _ => rfl
theorem RX.I {s σ : zSt} {t i k : Nat} {v : Int32} (h : RX s σ) (ht : t < 1300 ∧ t ≠ 12) : RX (pI s t i k v) σ := fun a ha => by
  rw [gI_ne (by omega)]
  exact h a ha
theorem RX.R {s σ : zSt} {t i k : Nat} {v : Option Nat} (h : RX s σ) : RX (pR s t i k v) σ := h
theorem RX.L {s σ : zSt} {t i k : Nat} {v : Int64} (h : RX s σ) : RX (pL s t i k v) σ := h
theorem RX.N {s σ : zSt} {t n : Nat} (h : RX s σ) (ht : t < 1300 ∧ t ≠ 12) : RX (nw s t n) σ := fun a ha => by
  rw [gI_nn (by omega)]
  exact h a ha
theorem mF_e {σ : zSt} (h : Inv σ) : mF σ = gN σ 1 := by
  have n := h.2.2.1
  unfold vN at n
  unfold mF nT
  rw [n.2.2.2.2.2.2.2.1, nI_ti (by omega)]
  omega
theorem mH_e {σ : zSt} (h : Inv σ) : mH σ = gN σ 5 := by
  have n := h.2.2.1
  unfold vN at n
  unfold mH nT
  rw [n.2.1, nI_ti (by omega)]
  omega
theorem mK_e {σ : zSt} (h : Inv σ) : mK σ = gN σ 7 := by
  have n := h.2.2.1
  unfold vN at n
  unfold mK nT
  rw [n.2.2.2.2.1, nI_ti (by omega)]
  omega
theorem RI_of {σ : zSt} (h : Inv σ) : RI σ := by
  have e1 := mF_e h
  have e2 := mH_e h
  have e3 := mK_e h
  obtain ⟨hO, hC, hN, hH, hK, hF, hS, hL, hG, hD, hT, hX, hZ⟩ := h
  obtain ⟨n1, n2, n3, n4, n5, n6, n7, n8, n9, n10, n11, n12⟩ := hN
  refine ⟨⟨by rw [e2]; exact n2, by omega⟩, ⟨by rw [e3]; exact n5, by omega⟩, ⟨by rw [e1]; exact n8, by omega⟩, n11, fun f hf => ?_, fun i hi => ?_, fun k hk => ?_⟩
  · rw [e1] at hf
    obtain ⟨a1, a2, a3, a4, a5, a6, a7, a8, a9, a10, a11, a12, a13, a14, a15, a16, a17, a18, a19, a20, a21, a22, a23, a24, a25⟩ := hF f hf
    obtain ⟨s1, s2, s3, s4, s5, s6, s7, s8, s9⟩ := hS f hf
    obtain ⟨g1, g2, g3, g4, g5⟩ := hG.1 f hf
    refine ⟨a4, by omega, a7, a10, by omega, a13, a16, a18, a20, a22, ⟨s1, s3, s4, fun j hj => (s5 j hj).2.2.2, s6, s7, s8⟩, g1, g2, g3, g4, fun hn => ?_⟩
    rcases g5 with g | g
    · exact absurd g.1 hn
    · exact g.2.2
  · rw [e2] at hi
    obtain ⟨a1, a2, a3, a4, a5, a6, a7, a8, a9, a10, a11, a12, a13, a14, a15, a16, a17, a18, a19⟩ := hH i hi
    exact ⟨a12, a13, a14, a15, a16, a17, fun t ht => (a19 t ht).2⟩
  · rw [e3] at hk
    obtain ⟨a1, a2, a3, a4, a5, a6, a7⟩ := hK k hk
    exact ⟨a5, a6, a7⟩
theorem RI_X {s σ : zSt} (x : RX s σ) (h : RI σ) : RI s := by
  have x12 := x 12 (Or.inl rfl)
  simp only [RI, RF, RS, RG, RH, RK, mF, mH, mK, hm, kd, sz, sT, sD, sC, rdn, rD, rW, isCr, qday] at h ⊢
  simp only [x12, x 1301 (by omega), x 1302 (by omega), x 1305 (by omega), x 1307 (by omega), x 1308 (by omega), x 1309 (by omega), x 1310 (by omega), x 1314 (by omega), x 1315 (by omega), x 1316 (by omega), x 1318 (by omega), x 1319 (by omega), x 1320 (by omega), x 1321 (by omega), x 1322 (by omega), x 1324 (by omega), x 1325 (by omega), x 1326 (by omega), x 1327 (by omega), x 1328 (by omega), x 1329 (by omega), x 1330 (by omega), x 1342 (by omega), x 1343 (by omega), x 1344 (by omega)]
  exact h
/-! what Inv says of one fault, by name -/
theorem N_f {σ : zSt} (h : Inv σ) : gI σ 11 0 5 = nI (mF σ) ∧ gI σ 12 0 36 = nI (mF σ) ∧ mF σ ≤ 200 := by
  rw [mF_e h]
  have n := h.2.2.1
  exact ⟨n.2.2.2.2.2.2.1, n.2.2.2.2.2.2.2.1, n.2.2.2.2.2.2.2.2.1⟩
theorem N_h {σ : zSt} (h : Inv σ) : gI σ 11 0 1 = nI (mH σ) ∧ gI σ 12 0 13 = nI (mH σ) ∧ mH σ ≤ 40 := by
  rw [mH_e h]
  have n := h.2.2.1
  exact ⟨n.1, n.2.1, n.2.2.1⟩
theorem N_k {σ : zSt} (h : Inv σ) : gI σ 11 0 3 = nI (mK σ) ∧ gI σ 12 0 17 = nI (mK σ) ∧ mK σ ≤ 20 := by
  rw [mK_e h]
  have n := h.2.2.1
  exact ⟨n.2.2.2.1, n.2.2.2.2.1, n.2.2.2.2.2.1⟩
theorem N_q {σ : zSt} (h : Inv σ) : gI σ 11 0 6 = qday σ ∧ btw 0 (qday σ) 9999 := by
  have n := h.2.2.1
  exact ⟨n.2.2.2.2.2.2.2.2.2.1, n.2.2.2.2.2.2.2.2.2.2.1⟩
theorem A_F {σ : zSt} (h : Inv σ) {f : Nat} (hf : f < mF σ) : vF1 σ f ∧ vS1 σ f ∧ vG1 σ f := by
  rw [mF_e h] at hf
  exact ⟨h.2.2.2.2.2.1 f hf, h.2.2.2.2.2.2.1 f hf, h.2.2.2.2.2.2.2.2.1.1 f hf⟩
theorem F_R {σ : zSt} (h : Inv σ) {f : Nat} (hf : f < mF σ) : gR σ 1204 0 f = some f ∧ gI σ 1 f 0 = nI f ∧ gR σ 1 f 1 = some (hm σ f) ∧ gR σ 1 f 4 = some (kd σ f) := by
  obtain ⟨a1, a2, a3, a4, a5, a6, a7, a8, a9, a10, a11⟩ := (A_F h hf).1
  exact ⟨a1, a2, a3, a9⟩
theorem F_I {σ : zSt} (h : Inv σ) {f : Nat} (hf : f < mF σ) : gI σ 1 f 2 = gI σ 1319 0 f ∧ gI σ 1 f 3 = gI σ 1320 0 f ∧ gI σ 1 f 5 = gI σ 1321 0 f ∧ gI σ 1 f 6 = gI σ 1323 0 f ∧ gI σ 1 f 9 = gI σ 1322 0 f ∧ gI σ 1 f 10 = gI σ 1324 0 f ∧ gI σ 1 f 11 = gI σ 1325 0 f ∧ gI σ 1 f 14 = gI σ 1333 0 f ∧ gI σ 1 f 15 = gI σ 1332 0 f := by
  obtain ⟨a1, a2, a3, a4, a5, a6, a7, a8, a9, a10, a11, a12, a13, a14, a15, a16, a17, a18, a19, a20, a21, a22, a23, a24, a25⟩ := (A_F h hf).1
  exact ⟨a6, a8, a12, a14, a15, a17, a19, a24, a25⟩
theorem F_RF {σ : zSt} (h : RI σ) {f : Nat} (hf : f < mF σ) : RF σ f := h.2.2.2.2.1 f hf
theorem F_RS {σ : zSt} (h : RI σ) {f : Nat} (hf : f < mF σ) : RS σ f := (F_RF h hf).2.2.2.2.2.2.2.2.2.2.1
theorem F_lt {σ : zSt} (h : RI σ) {f : Nat} (hf : f < mF σ) : f < 200 := Nat.lt_of_lt_of_le hf h.2.2.1.2
theorem F_hm {σ : zSt} (h : RI σ) {f : Nat} (hf : f < mF σ) : gI σ 1318 0 f = nI (hm σ f) ∧ hm σ f < mH σ ∧ hm σ f < 40 := by
  have a := F_RF h hf
  exact ⟨a.1, a.2.1, Nat.lt_of_lt_of_le a.2.1 h.1.2⟩
theorem F_kd {σ : zSt} (h : RI σ) {f : Nat} (hf : f < mF σ) : gI σ 1320 0 f = nI (kd σ f) ∧ kd σ f < mK σ ∧ kd σ f < 20 := by
  have a := F_RF h hf
  exact ⟨a.2.2.2.1, a.2.2.2.2.1, Nat.lt_of_lt_of_le a.2.2.2.2.1 h.2.1.2⟩
theorem A_K {σ : zSt} (h : Inv σ) {k : Nat} (hk : k < mK σ) : vK1 σ k := by
  rw [mK_e h] at hk
  exact h.2.2.2.2.1 k hk
theorem A_H {σ : zSt} (h : Inv σ) {k : Nat} (hk : k < mH σ) : vH1 σ k := by
  rw [mH_e h] at hk
  exact h.2.2.2.1 k hk
