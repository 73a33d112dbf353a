theorem zs_congr {g h : Nat → Int32} : ∀ n, (∀ i, i < n → g i = h i) → zs g n = zs h n
  | 0, _ => rfl
  | n + 1, e => by
    show zs g n + g n = zs h n + h n
    rw [zs_congr n fun i hi => e i (by omega), e n (by omega)]
theorem zsz_congr {g h : Nat → Int} : ∀ n, (∀ i, i < n → g i = h i) → zsz g n = zsz h n
  | 0, _ => rfl
  | n + 1, e => by
    show zsz g n + g n = zsz h n + h n
    rw [zsz_congr n fun i hi => e i (by omega), e n (by omega)]
theorem kS_congr {a b a' b' : Nat → Int32} {c : Int32} : ∀ n, (∀ i, i < n → a i = a' i ∧ b i = b' i) → kS a b c n = kS a' b' c n
  | 0, _ => rfl
  | n + 1, e => by
    show kS a b c n + _ = kS a' b' c n + _
    rw [kS_congr n fun i hi => e i (by omega), (e n (by omega)).1, (e n (by omega)).2]
theorem kF_congr {a b a' b' : Nat → Int32} {c : Int32} : ∀ n, (∀ i, i < n → a i = a' i ∧ b i = b' i) → a n = a' n → kF a b c n = kF a' b' c n
  | 0, _, _ => rfl
  | n + 1, e, e' => by
    show kF a b c n + _ = kF a' b' c n + _
    rw [kF_congr n (fun i hi => e i (by omega)) (e n (by omega)).1, (e n (by omega)).1, (e n (by omega)).2, e']
/-- a state more that is not SAID, behind one that is not SAID: the counters stay -/
theorem vL_more {σ S : zSt} {f n : Nat} {t w : Int32} (hN : gN S 1 = gN σ 1) (hs : sz σ f = n) (hn1 : 1 ≤ n) (hn : n < 30)
    (a1326 : ∀ k, gI S 1326 0 k = if k = 30 * f + n then t else gI σ 1326 0 k) (a1328 : ∀ k, gI S 1328 0 k = if k = 30 * f + n then w else gI σ 1328 0 k) (a1329 : ∀ g, gI S 1329 0 g = if g = f then nI (n + 1) else gI σ 1329 0 g)
    (b1 : gI S 1217 = gI σ 1217) (b2 : gI S 1334 = gI σ 1334) (b3 : gI S 1335 = gI σ 1335) (b4 : gI S 1337 = gI σ 1337) (b5 : gI S 1338 = gI σ 1338) (b6 : gI S 1339 = gI σ 1339)
    (hl : sT σ f (n - 1) ≠ 2) (ht : t ≠ 2) (hz : ∀ g, g < gN σ 1 → 1 ≤ sz σ g ∧ sz σ g ≤ 30) (H : vL σ) : vL S := by
  have eT : ∀ g j, j < 30 → sT S g j = if g = f ∧ j = n then t else sT σ g j := fun g j hj => by
    unfold sT
    rw [a1326]
    by_cases e : g = f ∧ j = n
    · rw [if_pos e, if_pos (by omega)]
    · rw [if_neg e, if_neg (by omega)]
  have eC : ∀ g j, j < 30 → sC S g j = if g = f ∧ j = n then w else sC σ g j := fun g j hj => by
    unfold sC
    rw [a1328]
    by_cases e : g = f ∧ j = n
    · rw [if_pos e, if_pos (by omega)]
    · rw [if_neg e, if_neg (by omega)]
  have zf : sz S f = n + 1 := by
    unfold sz nT
    rw [a1329, if_pos rfl, nI_ti (by omega)]
    omega
  have zg : ∀ g, g ≠ f → sz S g = sz σ g := fun g e => by
    unfold sz
    rw [a1329, if_neg e]
  have old : ∀ g j, j < 30 → ¬ (g = f ∧ j = n) → sT S g j = sT σ g j ∧ sC S g j = sC σ g j := fun g j hj e => by
    rw [eT g j hj, eC g j hj, if_neg e, if_neg e]
    exact ⟨rfl, rfl⟩
  have kSe : ∀ c g, g < gN σ 1 → kS (sT S g) (sC S g) c (sz S g) = kS (sT σ g) (sC σ g) c (sz σ g) := fun c g hg => by
    by_cases e : g = f
    · subst e
      rw [zf, hs]
      show kS (sT S g) (sC S g) c n + (if sT S g n = 2 ∧ (c = -1 ∨ sC S g n = c) then 1 else 0) = _
      rw [if_neg (by rw [eT g n (by omega), if_pos ⟨rfl, rfl⟩]; exact fun h => ht h.1), kS_congr n fun i hi => old g i (by omega) (by omega)]
      exact Int32.add_zero _
    · rw [zg g e, kS_congr _ fun i hi => old g i (by have := hz g hg; omega) (fun h => e h.1)]
  have kFe : ∀ c g, g < gN σ 1 → kF (sT S g) (sC S g) c (sz S g - 1) = kF (sT σ g) (sC σ g) c (sz σ g - 1) := fun c g hg => by
    by_cases e : g = f
    · subst e
      rw [zf, hs, Nat.add_sub_cancel]
      obtain ⟨m, rfl⟩ : ∃ m, n = m + 1 := ⟨n - 1, by omega⟩
      rw [Nat.add_sub_cancel] at hl ⊢
      show kF (sT S g) (sC S g) c m + (if (sT S g m = 2 ∧ (c = -1 ∨ sC S g m = c)) ∧ sT S g (m + 1) = 0 then 1 else 0) = _
      rw [if_neg (by rw [(old g m (by omega) (by omega)).1]; exact fun h => hl h.1.1), kF_congr m (fun i hi => old g i (by omega) (by omega)) (old g m (by omega) (by omega)).1]
      exact Int32.add_zero _
    · have := hz g hg
      rw [zg g e, kF_congr _ (fun i hi => old g i (by omega) (fun h => e h.1)) (old g _ (by omega) (fun h => e h.1)).1]
  have pe : ∀ c g, g < gN σ 1 → pend (sT S g (sz S g - 1)) (sC S g (sz S g - 1)) c = pend (sT σ g (sz σ g - 1)) (sC σ g (sz σ g - 1)) c := fun c g hg => by
    by_cases e : g = f
    · subst e
      rw [zf, hs, Nat.add_sub_cancel]
      unfold pend
      rw [if_neg (by rw [eT g n (by omega), if_pos ⟨rfl, rfl⟩]; exact fun h => ht h.1), if_neg (fun h => hl h.1)]
    · have := hz g hg
      rw [zg g e, (old g (sz σ g - 1) (by omega) (fun h => e h.1)).1, (old g (sz σ g - 1) (by omega) (fun h => e h.1)).2]
  refine ⟨fun g hg => ?_, fun c hc => ?_⟩
  · rw [hN] at hg
    rw [b2, b3, kSe _ g hg, kFe _ g hg]
    exact H.1 g hg
  · rw [hN, b1, b4, b5, b6, zs_congr _ fun g hg => kSe (nI c) g hg, zs_congr _ fun g hg => kFe (nI c) g hg, zsz_congr _ fun g hg => pe c g hg]
    exact H.2 c hc
