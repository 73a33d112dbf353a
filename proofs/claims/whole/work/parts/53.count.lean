/-! counters when a state comes -/
theorem i_assoc (a b c : Int32) : a + b + c = a + (b + c) := Int32.add_assoc a b c
theorem i_comm (a b : Int32) : a + b = b + a := Int32.add_comm a b
theorem i_add0 (a : Int32) : a + 0 = a := Int32.add_zero a
theorem zs_upd {a b : Nat → Int32} {f : Nat} {x : Int32} (hx : a f = b f + x) : ∀ n, f < n → (∀ g, g < n → g ≠ f → a g = b g) → zs a n = zs b n + x
  | 0, h, _ => by omega
  | n + 1, h, e => by
    show zs a n + a n = zs b n + b n + x
    by_cases en : n = f
    · subst en
      rw [hx, zs_congr n fun i hi => e i (by omega) (by omega), i_assoc]
    · rw [zs_upd hx n (by omega) fun g hg hn => e g (by omega) hn, e n (by omega) en, i_assoc, i_assoc, i_comm x]
theorem zsz_upd {a b : Nat → Int} {f : Nat} {x : Int} (hx : a f = b f + x) : ∀ n, f < n → (∀ g, g < n → g ≠ f → a g = b g) → zsz a n = zsz b n + x
  | 0, h, _ => by omega
  | n + 1, h, e => by
    show zsz a n + a n = zsz b n + b n + x
    by_cases en : n = f
    · subst en
      rw [hx, zsz_congr n fun i hi => e i (by omega) (by omega)]
      omega
    · rw [zsz_upd hx n (by omega) fun g hg hn => e g (by omega) hn, e n (by omega) en]
      omega
theorem zs_in {a : Nat → Int32} {m : Nat} (hm : m ≤ 1000) : ∀ n, n ≤ 1000 → (∀ g, g < n → 0 ≤ (a g).toInt ∧ (a g).toInt ≤ m) → 0 ≤ (zs a n).toInt ∧ (zs a n).toInt ≤ m * n
  | 0, _, _ => by
    have : (zs a 0).toInt = 0 := rfl
    omega
  | n + 1, hn, e => by
    have h1 := zs_in hm n (by omega) fun g hg => e g (by omega)
    have h2 := e n (by omega)
    have h3 : (m : Int) * ((n + 1 : Nat) : Int) = m * n + m := by rw [Int.natCast_succ, Int.mul_add, Int.mul_one]
    have h4 : (m : Int) * n ≤ 1000 * 1000 := Int.mul_le_mul (by omega) (by omega) (by omega) (by omega)
    show 0 ≤ (zs a n + a n).toInt ∧ (zs a n + a n).toInt ≤ m * ((n + 1 : Nat) : Int)
    rw [i_addp (by omega), h3]
    omega
theorem zsz_pos {a : Nat → Int} : ∀ n, (∀ g, g < n → 0 ≤ a g) → 0 ≤ zsz a n
  | 0, _ => Int.le_refl 0
  | n + 1, e => by
    have h1 := zsz_pos n fun g hg => e g (by omega)
    have h2 := e n (by omega)
    show 0 ≤ zsz a n + a n
    omega
theorem kS_in {st cr : Nat → Int32} {c : Int32} : ∀ n, n ≤ 1000 → 0 ≤ (kS st cr c n).toInt ∧ (kS st cr c n).toInt ≤ n
  | 0, _ => by
    have : (kS st cr c 0).toInt = 0 := rfl
    omega
  | n + 1, h => by
    have h1 := kS_in (st := st) (cr := cr) (c := c) n (by omega)
    have e0 : kS st cr c (n + 1) = kS st cr c n + (if st n = 2 ∧ (c = -1 ∨ cr n = c) then 1 else 0) := rfl
    rw [e0]
    by_cases e : st n = 2 ∧ (c = -1 ∨ cr n = c)
    · rw [if_pos e, i_addp (by simp only [Int32.reduceToInt]; omega)]
      simp only [Int32.reduceToInt]
      omega
    · rw [if_neg e, i_add0]
      omega
theorem pend_in (t c : Int32) (n : Nat) : 0 ≤ pend t c n := by
  unfold pend
  split <;> omega
/-- a state more of one fault: what the counters' sums do -/
theorem k_more {σ S : zSt} {f n : Nat} {t w : Int32} (hs : sz σ f = n) (hn1 : 1 ≤ n) (hn : n < 30)
    (a1326 : ∀ k, gI S 1326 0 k = if k = 30 * f + n then t else gI σ 1326 0 k) (a1328 : ∀ k, gI S 1328 0 k = if k = 30 * f + n then w else gI σ 1328 0 k) (a1329 : ∀ g, gI S 1329 0 g = if g = f then nI (n + 1) else gI σ 1329 0 g) (hz : ∀ g, g < gN σ 1 → 1 ≤ sz σ g ∧ sz σ g ≤ 30) :
    (∀ c g, g < gN σ 1 → kS (sT S g) (sC S g) c (sz S g) = kS (sT σ g) (sC σ g) c (sz σ g) + (if g = f ∧ t = 2 ∧ (c = -1 ∨ w = c) then 1 else 0)) ∧
    (∀ c g, g < gN σ 1 → kF (sT S g) (sC S g) c (sz S g - 1) = kF (sT σ g) (sC σ g) c (sz σ g - 1) + (if g = f ∧ (sT σ f (n - 1) = 2 ∧ (c = -1 ∨ sC σ f (n - 1) = c)) ∧ t = 0 then 1 else 0)) ∧
    (∀ c g, g < gN σ 1 → g ≠ f → pend (sT S g (sz S g - 1)) (sC S g (sz S g - 1)) c = pend (sT σ g (sz σ g - 1)) (sC σ g (sz σ g - 1)) c) ∧ ∀ c, pend (sT S f (sz S f - 1)) (sC S f (sz S f - 1)) c = pend t w c := by
  have eT : ∀ g j, j < 30 → sT S g j = if g = f ∧ j = n then t else sT σ g j := fun g j hj => by
    unfold sT
    rw [a1326]
    by_cases e : g = f ∧ j = n
    · rw [if_pos e, if_pos (by omega)]
    · rw [if_neg e, if_neg (by omega)]
  have eC : ∀ g j, j < 30 → sC S g j = if g = f ∧ j = n then w else sC σ g j := fun g j hj => by
    unfold sC
    rw [a1328]
    by_cases e : g = f ∧ j = n
    · rw [if_pos e, if_pos (by omega)]
    · rw [if_neg e, if_neg (by omega)]
  have zf : sz S f = n + 1 := by
    unfold sz nT
    rw [a1329, if_pos rfl, nI_ti (by omega)]
    omega
  have zg : ∀ g, g ≠ f → sz S g = sz σ g := fun g e => by
    unfold sz
    rw [a1329, if_neg e]
  have old : ∀ g j, j < 30 → ¬ (g = f ∧ j = n) → sT S g j = sT σ g j ∧ sC S g j = sC σ g j := fun g j hj e => by
    rw [eT g j hj, eC g j hj, if_neg e, if_neg e]
    exact ⟨rfl, rfl⟩
  refine ⟨fun c g hg => ?_, fun c g hg => ?_, fun c g hg e => ?_, fun c => ?_⟩
  · by_cases e : g = f
    · subst e
      rw [zf, hs]
      show kS (sT S g) (sC S g) c n + (if sT S g n = 2 ∧ (c = -1 ∨ sC S g n = c) then 1 else 0) = _
      rw [eT g n (by omega), eC g n (by omega), if_pos (show g = g ∧ n = n from ⟨rfl, rfl⟩), if_pos (show g = g ∧ n = n from ⟨rfl, rfl⟩), kS_congr n fun i hi => old g i (by omega) (by omega)]
      congr 1
      by_cases e : t = 2 ∧ (c = -1 ∨ w = c)
      · rw [if_pos e, if_pos ⟨rfl, e⟩]
      · rw [if_neg e, if_neg fun h => e h.2]
    · rw [zg g e, if_neg (fun h => e h.1), i_add0, kS_congr _ fun i hi => old g i (by have := hz g hg; omega) (fun h => e h.1)]
  · by_cases e : g = f
    · subst e
      rw [zf, hs, Nat.add_sub_cancel]
      obtain ⟨m, rfl⟩ : ∃ m, n = m + 1 := ⟨n - 1, by omega⟩
      rw [Nat.add_sub_cancel]
      show kF (sT S g) (sC S g) c m + (if (sT S g m = 2 ∧ (c = -1 ∨ sC S g m = c)) ∧ sT S g (m + 1) = 0 then 1 else 0) = _
      rw [eT g (m + 1) (by omega), if_pos (show g = g ∧ m + 1 = m + 1 from ⟨rfl, rfl⟩), (old g m (by omega) (by omega)).1, (old g m (by omega) (by omega)).2, kF_congr m (fun i hi => old g i (by omega) (by omega)) (old g m (by omega) (by omega)).1]
      congr 1
      by_cases e : (sT σ g m = 2 ∧ (c = -1 ∨ sC σ g m = c)) ∧ t = 0
      · rw [if_pos e, if_pos ⟨rfl, e⟩]
      · rw [if_neg e, if_neg fun h => e h.2]
    · have := hz g hg
      rw [zg g e, if_neg (fun h => e h.1), i_add0, kF_congr _ (fun i hi => old g i (by omega) (fun h => e h.1)) (old g _ (by omega) (fun h => e h.1)).1]
  · have := hz g hg
    rw [zg g e, (old g (sz σ g - 1) (by omega) (fun h => e h.1)).1, (old g (sz σ g - 1) (by omega) (fun h => e h.1)).2]
  · rw [zf, Nat.add_sub_cancel, eT f n (by omega), eC f n (by omega), if_pos (show f = f ∧ n = n from ⟨rfl, rfl⟩), if_pos (show f = f ∧ n = n from ⟨rfl, rfl⟩)]
/-- what is charged in the counters beside the sums -/
theorem vL_any {σ S : zSt} {f n : Nat} {t w : Int32} (hf : f < gN σ 1) (hN1 : gN σ 1 ≤ 200) (hN : gN S 1 = gN σ 1) (hs : sz σ f = n) (hn1 : 1 ≤ n) (hn : n < 30)
    (a1326 : ∀ k, gI S 1326 0 k = if k = 30 * f + n then t else gI σ 1326 0 k) (a1328 : ∀ k, gI S 1328 0 k = if k = 30 * f + n then w else gI σ 1328 0 k) (a1329 : ∀ g, gI S 1329 0 g = if g = f then nI (n + 1) else gI σ 1329 0 g)
    (b2 : ∀ g, gI S 1334 0 g = gI σ 1334 0 g + (if g = f ∧ t = 2 then 1 else 0)) (b3 : ∀ g, gI S 1335 0 g = gI σ 1335 0 g + (if g = f ∧ sT σ f (n - 1) = 2 ∧ t = 0 then 1 else 0))
    (b1 : ∀ c, c < 10 → gI S 1217 0 c = gI σ 1217 0 c + (if sT σ f (n - 1) = 2 ∧ sC σ f (n - 1) = nI c then 1 else 0)) (b4 : ∀ c, c < 10 → gI S 1337 0 c = gI σ 1337 0 c + (if sT σ f (n - 1) = 2 ∧ sC σ f (n - 1) = nI c then 1 else 0))
    (b5 : ∀ c, c < 10 → gI S 1338 0 c = gI σ 1338 0 c + (if (sT σ f (n - 1) = 2 ∧ sC σ f (n - 1) = nI c) ∧ t = 0 then 1 else 0)) (b6 : ∀ c, c < 10 → gI S 1339 0 c = gI σ 1339 0 c + (if t = 2 ∧ w = nI c then 1 else 0))
    (hz : ∀ g, g < gN σ 1 → 1 ≤ sz σ g ∧ sz σ g ≤ 30) (hzS : ∀ g, g < gN σ 1 → sz S g ≤ 30) (H : vL σ) : vL S := by
  obtain ⟨k1, k2, k3, k4⟩ := k_more hs hn1 hn a1326 a1328 a1329 hz
  have hm1 : ∀ c, c < 10 → ¬ nI c = -1 := fun c hc e => by
    rw [i_eq, nI_ti (by omega), ti_m1] at e
    omega
  refine ⟨fun g hg => ?_, fun c hc => ?_⟩
  · rw [hN] at hg
    rw [b2, b3, (H.1 g hg).1, (H.1 g hg).2, k1 _ g hg, k2 _ g hg]
    constructor
    · congr 1
      by_cases e : g = f ∧ t = 2
      · rw [if_pos e, if_pos ⟨e.1, e.2, Or.inl rfl⟩]
      · rw [if_neg e, if_neg fun h => e ⟨h.1, h.2.1⟩]
    · congr 1
      by_cases e : g = f ∧ sT σ f (n - 1) = 2 ∧ t = 0
      · rw [if_pos e, if_pos ⟨e.1, ⟨e.2.1, Or.inl rfl⟩, e.2.2⟩]
      · rw [if_neg e, if_neg fun h => e ⟨h.1, h.2.1.1, h.2.2⟩]
  · obtain ⟨c1, c2, c3, c4, c5, c6, c7⟩ := H.2 c hc
    have d2 : gI S 1339 0 c = zs (fun g => kS (sT S g) (sC S g) (nI c) (sz S g)) (gN S 1) := by
      rw [hN, b6 c hc, c2]
      refine (zs_upd ?_ (gN σ 1) hf fun g hg hn => ?_).symm
      · rw [k1 _ f hf]
        congr 1
        by_cases e : t = 2 ∧ w = nI c
        · rw [if_pos e, if_pos ⟨rfl, e.1, Or.inr e.2⟩]
        · rw [if_neg e, if_neg fun h => e ⟨h.2.1, (h.2.2).resolve_left (hm1 c hc)⟩]
      · show kS (sT S g) (sC S g) (nI c) (sz S g) = _
        rw [k1 _ g hg, if_neg fun h => hn h.1, i_add0]
    have d3 : gI S 1338 0 c = zs (fun g => kF (sT S g) (sC S g) (nI c) (sz S g - 1)) (gN S 1) := by
      rw [hN, b5 c hc, c3]
      refine (zs_upd ?_ (gN σ 1) hf fun g hg hn => ?_).symm
      · rw [k2 _ f hf]
        congr 1
        by_cases e : (sT σ f (n - 1) = 2 ∧ sC σ f (n - 1) = nI c) ∧ t = 0
        · rw [if_pos e, if_pos ⟨rfl, ⟨e.1.1, Or.inr e.1.2⟩, e.2⟩]
        · rw [if_neg e, if_neg fun h => e ⟨⟨h.2.1.1, (h.2.1.2).resolve_left (hm1 c hc)⟩, h.2.2⟩]
      · show kF (sT S g) (sC S g) (nI c) (sz S g - 1) = _
        rw [k2 _ g hg, if_neg fun h => hn h.1, i_add0]
    have d6 := zs_in (a := fun g => kS (sT S g) (sC S g) (nI c) (sz S g)) (m := 30) (by omega) (gN S 1) (by omega) (fun g hg => by
      have h1 := kS_in (st := sT S g) (cr := sC S g) (c := nI c) (sz S g) (by have := hzS g (by omega); omega)
      have h2 := hzS g (by omega)
      omega)
    rw [← d2] at d6
    have hp : 0 ≤ zsz (fun g => pend (sT σ g (sz σ g - 1)) (sC σ g (sz σ g - 1)) c) (gN σ 1) := zsz_pos _ fun g hg => pend_in _ _ _
    have hpf : zsz (fun g => pend (sT S g (sz S g - 1)) (sC S g (sz S g - 1)) c) (gN S 1) = zsz (fun g => pend (sT σ g (sz σ g - 1)) (sC σ g (sz σ g - 1)) c) (gN σ 1) + (pend t w c - pend (sT σ f (n - 1)) (sC σ f (n - 1)) c) := by
      rw [hN]
      refine zsz_upd ?_ (gN σ 1) hf fun g hg hn => k3 c g hg hn
      rw [k4 c, hs]
      omega
    have c6' : (gI σ 1337 0 c).toInt ≤ 6000 := by omega
    have e4 : (gI S 1337 0 c).toInt = (gI σ 1337 0 c).toInt + pend (sT σ f (n - 1)) (sC σ f (n - 1)) c := by
      rw [b4 c hc]
      unfold pend
      by_cases e : sT σ f (n - 1) = 2 ∧ sC σ f (n - 1) = nI c
      · rw [if_pos e, if_pos e, i_addp (by simp only [Int32.reduceToInt]; omega)]; rfl
      · rw [if_neg e, if_neg e, i_add0]; omega
    have e6 : (gI S 1339 0 c).toInt = (gI σ 1339 0 c).toInt + pend t w c := by
      have h0 : 0 ≤ (gI σ 1339 0 c).toInt := by omega
      rw [b6 c hc]
      unfold pend
      by_cases e : t = 2 ∧ w = nI c
      · rw [if_pos e, if_pos e, i_addp (by simp only [Int32.reduceToInt]; omega)]; rfl
      · rw [if_neg e, if_neg e, i_add0]; omega
    have e5 : 0 ≤ (gI S 1338 0 c).toInt ∧ (gI S 1338 0 c).toInt ≤ (gI σ 1338 0 c).toInt + pend (sT σ f (n - 1)) (sC σ f (n - 1)) c := by
      rw [b5 c hc]
      unfold pend
      by_cases e : (sT σ f (n - 1) = 2 ∧ sC σ f (n - 1) = nI c) ∧ t = 0
      · rw [if_pos e, if_pos e.1, i_addp (by simp only [Int32.reduceToInt]; omega)]
        simp only [Int32.reduceToInt]
        omega
      · rw [if_neg e, i_add0]
        split <;> omega
    refine ⟨by rw [b1 c hc, b4 c hc, c1], d2, d3, e5.1, by omega, by omega, by rw [hpf]; omega⟩
