theorem ws1_b {a b n i : Nat} (hab : a + b ≤ 40) (hi : i ≤ n) : chN a i * chN b (n - i) < 2 ^ 42 := by
  have h := wsN_le (a := a) (b := b) (n := n) (i := i) (d := 1) (by omega)
  have h2 := chN_b (show a + b ≤ 41 by omega) n
  have e : wsN a b n i 1 = chN a i * chN b (n - i) + 0 := rfl
  omega
theorem ws_b {a b n i d : Nat} (hab : a + b ≤ 40) (hi : i + d ≤ n + 1) : wsN a b n i d < 2 ^ 42 := by
  have h := wsN_le (a := a) (b := b) (n := n) (i := i) (d := d) hi
  have h2 := chN_b (show a + b ≤ 41 by omega) n
  omega
theorem e_ways {A a n f t : Nat} (ha : a ≤ A) (hA : A ≤ 40) (hn : n ≤ 40) (ht : t ≤ n) (hf : f ≤ t + 1) (σ : zSt) : f8_ways (nI A) (nI a) (nI n) (nI f) (nI t) σ = some (zL (wsN a (A - a) n f (t + 1 - f))) := by
  unfold f8_ways
  have key : ∀ d j m, j + d = t + 1 - f → d < m → f8_ways_L6 (nI A) (nI a) (nI n) (nI t) σ m (zL (wsN a (A - a) n f j)) (nI (f + j)) = some (zL (wsN a (A - a) n f (t + 1 - f))) := by
    intro d
    induction d with
    | zero =>
      intro j m hj hm
      obtain ⟨m, rfl⟩ : ∃ q, m = q + 1 := ⟨m - 1, by omega⟩
      rw [f8_ways_L6, if_pos (show nI t < nI (f + j) by rw [i_lt, nI_ti (by omega), nI_ti (by omega)]; omega), show j = t + 1 - f by omega]
    | succ d ih =>
      intro j m hj hm
      obtain ⟨m, rfl⟩ : ∃ q, m = q + 1 := ⟨m - 1, by omega⟩
      have b1 := chN_b (show a ≤ 41 by omega) (f + j)
      have b2 := chN_b (show A - a ≤ 41 by omega) (n - (f + j))
      have b3 := ws1_b (a := a) (b := A - a) (n := n) (i := f + j) (by omega) (by omega)
      have b4 := ws_b (a := a) (b := A - a) (n := n) (i := f) (d := j) (by omega) (by omega)
      rw [← ih (j + 1) m (by omega) (by omega), f8_ways_L6, if_neg (show ¬ nI t < nI (f + j) by rw [i_lt, nI_ti (by omega), nI_ti (by omega)]; omega), e_choose (by omega) (by omega), zc1_s, nI_sub ha (by omega), nI_sub (show f + j ≤ n by omega) (by omega), e_choose (by omega) (by omega), zc1_s, zL_mul (by omega) (by omega) (by omega), zL_add (by omega), zlt_s, nI_suc (f + j) (by omega), zlt_s, wsN_end]
      rfl
  exact key (t + 1 - f) 0 zfuel (by omega) (zfuel_pos (by omega))
theorem m_ways15 {A a n f t : Nat} {x : Int32} {h3 h2 : Int32} (ha : a ≤ A) (hA : A ≤ 40) (hn : n ≤ 40) (ht : t ≤ n) (hf : f ≤ t + 1) (hh2 : h2 = nI n) (hx : (if x = 0 then h3 else h2) = nI t) (σ : zSt) : f12_ways_L15 (nI A) (nI a) h2 h3 x σ zfuel 0 (nI f) = some (zL (wsN a (A - a) n f (t + 1 - f))) := by
  have key : ∀ d j m, j + d = t + 1 - f → d < m → f12_ways_L15 (nI A) (nI a) h2 h3 x σ m (zL (wsN a (A - a) n f j)) (nI (f + j)) = some (zL (wsN a (A - a) n f (t + 1 - f))) := by
    intro d
    induction d with
    | zero =>
      intro j m hj hm
      obtain ⟨m, rfl⟩ : ∃ q, m = q + 1 := ⟨m - 1, by omega⟩
      rw [f12_ways_L15, hx, if_pos (show nI t < nI (f + j) by rw [i_lt, nI_ti (by omega), nI_ti (by omega)]; omega), show j = t + 1 - f by omega]
    | succ d ih =>
      intro j m hj hm
      obtain ⟨m, rfl⟩ : ∃ q, m = q + 1 := ⟨m - 1, by omega⟩
      have b1 := chN_b (show a ≤ 41 by omega) (f + j)
      have b2 := chN_b (show A - a ≤ 41 by omega) (n - (f + j))
      have b3 := ws1_b (a := a) (b := A - a) (n := n) (i := f + j) (by omega) (by omega)
      have b4 := ws_b (a := a) (b := A - a) (n := n) (i := f) (d := j) (by omega) (by omega)
      rw [← ih (j + 1) m (by omega) (by omega), f12_ways_L15, hx, if_neg (show ¬ nI t < nI (f + j) by rw [i_lt, nI_ti (by omega), nI_ti (by omega)]; omega), m_choose (by omega) (by omega), zc1_s, hh2, nI_sub ha (by omega), nI_sub (show f + j ≤ n by omega) (by omega), m_choose (by omega) (by omega), zc1_s, zL_mul (by omega) (by omega) (by omega), zL_add (by omega), zlt_s, nI_suc (f + j) (by omega), zlt_s, wsN_end]
      rfl
  exact key (t + 1 - f) 0 zfuel (by omega) (zfuel_pos (by omega))
theorem m_ways0 {A a n f : Nat} (ha : a ≤ A) (hA : A ≤ 40) (hn : n ≤ 40) (hf : f ≤ n) (σ : zSt) : f12_ways (nI A) (nI a) (nI n) (nI f) 0 σ = some (zL (wsN a (A - a) n 0 (f + 1))) := by
  unfold f12_ways
  rw [if_pos rfl, zlt_s]
  exact m_ways15 (f := 0) (t := f) ha hA hn hf (by omega) rfl (by rw [if_pos rfl]) σ
theorem m_ways1 {A a n f : Nat} (ha : a ≤ A) (hA : A ≤ 40) (hn : n ≤ 40) (hf : f ≤ n) (σ : zSt) : f12_ways (nI A) (nI a) (nI n) (nI f) 1 σ = some (zL (wsN a (A - a) n f (n + 1 - f))) := by
  unfold f12_ways
  rw [if_neg (by decide), zlt_s]
  exact m_ways15 ha hA hn (Nat.le_refl n) (by omega) rfl (by rw [if_neg (by decide)]) σ
theorem lg_le {x y : Nat} (hx : x < 2 ^ 62) (hy : y < 2 ^ 62) : (0 ≤ lg_cmp (zL x) (zL y)) = (y ≤ x) := by
  rw [lg_cmp_ge, Int64.le_iff_toInt_le, zL_ti (by omega), zL_ti (by omega)]
  apply propext
  omega
theorem least_both {A n f p : Nat} (hA : A ≤ 40) (hn : n ≤ A) (hf : f ≤ n) (hp : 1 ≤ p ∧ p ≤ 49) (σ s : zSt) : ∃ r, f8_leastFalse_L10 (nI A) (nI n) (nI f) (nI p) (zL (chN A n)) σ zfuel (nI f) = some r ∧ f12_bounds_L106 (nI p) 0 (nI A) (nI n) (nI f) (zL (chN A n)) s zfuel (nI f) = some r := by
  have cb := chN_b (show A ≤ 41 by omega) n
  have key : ∀ d F m1 m2, F + d = A - n + f → f ≤ F → d < m1 → d < m2 → ∃ r, f8_leastFalse_L10 (nI A) (nI n) (nI f) (nI p) (zL (chN A n)) σ m1 (nI F) = some r ∧ f12_bounds_L106 (nI p) 0 (nI A) (nI n) (nI f) (zL (chN A n)) s m2 (nI F) = some r := by
    intro d
    induction d with
    | zero =>
      intro F m1 m2 hF hfF h1 h2
      obtain ⟨m1, rfl⟩ : ∃ q, m1 = q + 1 := ⟨m1 - 1, by omega⟩
      obtain ⟨m2, rfl⟩ : ∃ q, m2 = q + 1 := ⟨m2 - 1, by omega⟩
      have w : wsN F (A - F) n f (n + 1 - f) = chN A n := by
        rw [show n + 1 - f = n - f + 1 by omega, ← wsN_lo (by omega) hf, vdm, show F + (A - F) = A by omega]
      refine ⟨nI F, ?_, ?_⟩
      · rw [f8_leastFalse_L10, nI_sub hn (by omega), nI_add' _ _ (by omega), if_pos (show nI (A - n + f) ≤ nI F by rw [i_le, nI_ti (by omega), nI_ti (by omega)]; omega)]
      · rw [f12_bounds_L106, if_pos rfl, m_ways1 (by omega) hA (by omega) hf, zc1_s, w, show (100 : Int64) = zL 100 from rfl, zL_i (show p < 2 ^ 31 by omega), zL_mul (by omega) (by omega) (by omega), zL_mul (by rw [Nat.mul_comm]; exact mul_b cb (by omega)) (by omega) (by omega), if_pos]
        rw [lg_le (by omega) (by rw [Nat.mul_comm]; exact mul_b cb (by omega)), Nat.mul_comm p]
        exact Nat.mul_le_mul_left _ (by omega)
    | succ d ih =>
      intro F m1 m2 hF hfF h1 h2
      obtain ⟨m1, rfl⟩ : ∃ q, m1 = q + 1 := ⟨m1 - 1, by omega⟩
      obtain ⟨m2, rfl⟩ : ∃ q, m2 = q + 1 := ⟨m2 - 1, by omega⟩
      rw [f8_leastFalse_L10, nI_sub hn (by omega), nI_add' _ _ (by omega), if_neg (show ¬ nI (A - n + f) ≤ nI F by rw [i_le, nI_ti (by omega), nI_ti (by omega)]; omega), e_ways (by omega) hA (by omega) (Nat.le_refl n) (by omega), zc1_s, f12_bounds_L106, if_pos rfl, m_ways1 (by omega) hA (by omega) hf, zc1_s]
      by_cases c : 0 ≤ lg_cmp (zL (wsN F (A - F) n f (n + 1 - f)) * 100) (Int32.toInt64 (nI p) * zL (chN A n))
      · rw [if_pos c, if_pos c]
        exact ⟨_, rfl, rfl⟩
      · rw [if_neg c, if_neg c, zlt_s, zlt_s, if_pos rfl, nI_suc F (by omega)]
        exact ih (F + 1) m1 m2 (by omega) (by omega) (by omega) (by omega)
  exact key (A - n) f zfuel zfuel (by omega) (Nat.le_refl _) (zfuel_pos (by omega)) (zfuel_pos (by omega))
theorem great_both {A n f p : Nat} (hA : A ≤ 40) (hn : n ≤ A) (hf : f ≤ n) (hp : 1 ≤ p ∧ p ≤ 49) (σ s : zSt) : ∃ r, f8_greatestFalse_L14 (nI A) (nI n) (nI f) (nI p) (zL (chN A n)) σ zfuel (nI (A - n + f)) = some r ∧ f12_bounds_L106 (nI p) 1 (nI A) (nI n) (nI f) (zL (chN A n)) s zfuel (nI (A - n + f)) = some r := by
  have cb := chN_b (show A ≤ 41 by omega) n
  have key : ∀ d m1 m2, f + d ≤ A → d < m1 → d < m2 → ∃ r, f8_greatestFalse_L14 (nI A) (nI n) (nI f) (nI p) (zL (chN A n)) σ m1 (nI (f + d)) = some r ∧ f12_bounds_L106 (nI p) 1 (nI A) (nI n) (nI f) (zL (chN A n)) s m2 (nI (f + d)) = some r := by
    intro d
    induction d with
    | zero =>
      intro m1 m2 hF h1 h2
      obtain ⟨m1, rfl⟩ : ∃ q, m1 = q + 1 := ⟨m1 - 1, by omega⟩
      obtain ⟨m2, rfl⟩ : ∃ q, m2 = q + 1 := ⟨m2 - 1, by omega⟩
      have w : wsN f (A - f) n 0 (f + 1) = chN A n := by
        have a := wsN_add f (A - f) n (f + 1) (n - f) 0
        rw [wsN_hi (n - f) (0 + (f + 1)) (by omega), show f + 1 + (n - f) = n + 1 by omega, vdm, show f + (A - f) = A by omega] at a
        omega
      refine ⟨nI f, ?_, ?_⟩
      · rw [f8_greatestFalse_L14, Nat.add_zero, if_pos (zn_rle _)]
      · rw [f12_bounds_L106, if_neg (by decide), Nat.add_zero, m_ways0 (by omega) hA (by omega) hf, zc1_s, w, show (100 : Int64) = zL 100 from rfl, zL_i (show p < 2 ^ 31 by omega), zL_mul (by omega) (by omega) (by omega), zL_mul (by rw [Nat.mul_comm]; exact mul_b cb (by omega)) (by omega) (by omega), if_pos]
        rw [lg_le (by omega) (by rw [Nat.mul_comm]; exact mul_b cb (by omega)), Nat.mul_comm p]
        exact Nat.mul_le_mul_left _ (by omega)
    | succ d ih =>
      intro m1 m2 hF h1 h2
      obtain ⟨m1, rfl⟩ : ∃ q, m1 = q + 1 := ⟨m1 - 1, by omega⟩
      obtain ⟨m2, rfl⟩ : ∃ q, m2 = q + 1 := ⟨m2 - 1, by omega⟩
      have ew : f8_ways (nI A) (nI (f + (d + 1))) (nI n) 0 (nI f) σ = some (zL (wsN (f + (d + 1)) (A - (f + (d + 1))) n 0 (f + 1 - 0))) := e_ways (f := 0) (by omega) hA (by omega) hf (by omega) σ
      rw [f8_greatestFalse_L14, if_neg (show ¬ nI (f + (d + 1)) ≤ nI f by rw [i_le, nI_ti (by omega), nI_ti (by omega)]; omega), ew, zc1_s, f12_bounds_L106, if_neg (show ¬ (1 : Int32) = 0 by decide), m_ways0 (by omega) hA (by omega) hf, zc1_s, Nat.sub_zero]
      by_cases c : 0 ≤ lg_cmp (zL (wsN (f + (d + 1)) (A - (f + (d + 1))) n 0 (f + 1)) * 100) (Int32.toInt64 (nI p) * zL (chN A n))
      · rw [if_pos c, if_pos c]
        exact ⟨_, rfl, rfl⟩
      · rw [if_neg c, if_neg c, zlt_s, zlt_s, if_neg (show ¬ (1 : Int32) = 0 by decide), nm1, show f + (d + 1) = f + d + 1 by omega, sub1 (f + d) (by omega)]
        exact ih m1 m2 (by omega) (by omega) (by omega)
  have := key (A - n) zfuel zfuel (by omega) (zfuel_pos (by omega)) (zfuel_pos (by omega))
  rw [show f + (A - n) = A - n + f by omega] at this
  exact this
theorem t_bounds {σ : zSt} (h : Inv σ) (v1 v2 v3 : Int32) : Ok1 (f11_bounds v1 v2 v3 σ) (f12_bounds v1 v2 v3 σ) := by
  have cin : ∀ x y, f11_isIn x y σ = some (if 0 ≤ x.toInt ∧ x.toInt < y.toInt then 1 else 0) := fun x y => e_isIn x y σ
  rcases zcase v1 10 (by decide) with ⟨c, hc, rfl, hv⟩ | hv
  · have ci : f11_isIn (nI c) 10 σ = some 1 := by rw [cin, if_pos (by simp only [Int32.reduceToInt]; omega)]
    have mi : f12_isCrew (nI c) σ = some 1 := by rw [m_isCrew, if_pos (by omega)]
    by_cases hp : 1 ≤ v2.toInt ∧ v2.toInt ≤ 49
    · have mp : f12_within v2 1 49 σ = some 1 := by rw [e_within, if_pos (by simp only [Int32.reduceToInt]; omega)]
      have p1 : ¬ v2 < 1 := by rw [i_lt]; simp only [Int32.reduceToInt]; omega
      have p2 : ¬ (49 : Int32) < v2 := by rw [i_lt]; simp only [Int32.reduceToInt]; omega
      obtain ⟨p, hpe, hp2⟩ : ∃ p, v2 = nI p ∧ (1 ≤ p ∧ p ≤ 49) := ⟨v2.toInt.toNat, i_ofNat (by omega), by omega⟩
      rcases zcase v3 2 (by decide) with ⟨w, hw, rfl, hv3⟩ | hv3
      · have ci3 : f11_isIn (nI w) 2 σ = some 1 := by rw [cin, if_pos (by simp only [Int32.reduceToInt]; omega)]
        have mi3 : f12_within (nI w) 0 1 σ = some 1 := by rw [e_within, if_pos (by simp only [Int32.reduceToInt]; omega)]
        obtain ⟨s1, s2⟩ := crew_sums h hc
        obtain ⟨l1, l2, l3, l4, l5, l6, l7⟩ := h.2.2.2.2.2.2.2.1.2 c hc
        have lp : 0 ≤ zsz (fun f => pend (sT σ f (sz σ f - 1)) (sC σ f (sz σ f - 1)) c) (gN σ 1) := zsz_pos _ fun g hg => pend_in _ _ _
        obtain ⟨A, hA, hA2⟩ : ∃ A, gI σ 1339 0 c = nI A ∧ (gI σ 1339 0 c).toInt = (A : Int) := ⟨_, i_ofNat (by omega), by omega⟩
        obtain ⟨n, hn, hn2⟩ : ∃ n, gI σ 1337 0 c = nI n ∧ (gI σ 1337 0 c).toInt = (n : Int) := ⟨_, i_ofNat (by omega), by omega⟩
        obtain ⟨f, hf, hf2⟩ : ∃ f, gI σ 1338 0 c = nI f ∧ (gI σ 1338 0 c).toInt = (f : Int) := ⟨_, i_ofNat l4, by omega⟩
        have hnA : n ≤ A := by omega
        have hfn : f ≤ n := by omega
        rw [hA] at s1
        rw [hf] at s2
        by_cases h40 : A ≤ 40
        · have c40 : nI A ≤ 40 := by rw [i_le, nI_ti (by omega)]; simp only [Int32.reduceToInt]; omega
          have cho : f8_choose (nI A) (nI n) σ = some (zL (chN A n)) := e_choose h40 (by omega) σ
          have mch : f12_choose (nI A) (nI n) σ = some (zL (chN A n)) := m_choose h40 (by omega) σ
          have eA : nI A - nI n + nI f = nI (A - n + f) := by rw [nI_sub hnA (by omega), nI_add' _ _ (by omega)]
          have hz : zfuel = 999999 + 1 := rfl
          rcases (by omega : w = 0 ∨ w = 1) with rfl | rfl
          · obtain ⟨r, r1, r2⟩ := least_both h40 hnA hfn hp2 σ σ
            have e1 : f11_bounds (nI c) v2 (nI 0) σ = some r := by
              unfold f11_bounds f8_leastFalse
              rw [ci, zc1_s, if_neg (by decide), if_neg p1, if_neg p2, ci3, zc1_s, if_neg (by decide), s1, zc1_s, if_pos c40, zix_s hc (by decide), zlt_s, s2, zc1_s, if_pos (show nI 0 = 0 from rfl), l1, hn, cho, zc1_s, hpe, r1, zc1_s]
            by_cases n0 : n = 0
            · have f0 : f = 0 := by omega
              have r0 : r = 0 := by
                rw [n0, f0, hz, f8_leastFalse_L10, nI_sub (by omega) (by omega), nI_add' _ _ (by omega)] at r1
                by_cases A0 : A = 0
                · rw [A0, if_pos (show nI (0 - 0 + 0) ≤ nI 0 from zn_rle 0)] at r1
                  exact (Option.some.inj r1).symm
                · have w1 : wsN 0 (A - 0) 0 0 (0 + 1 - 0) = 1 := by
                    show chN 0 0 * chN (A - 0) 0 + 0 = 1
                    rw [chN_0, chN_0]
                  rw [if_neg (show ¬ nI (A - 0 + 0) ≤ nI 0 by rw [i_le, nI_ti (by omega), nI_ti (by omega)]; omega), e_ways (by omega) h40 (by omega) (Nat.le_refl 0) (by omega), zc1_s, w1, chN_0, show (100 : Int64) = zL 100 from rfl, zL_i (show p < 2 ^ 31 by omega), zL_mul (by omega) (by omega) (by omega), zL_mul (by omega) (by omega) (by omega), if_pos (by rw [lg_le (by omega) (by omega)]; omega)] at r1
                  exact (Option.some.inj r1).symm
              refine ⟨r, e1, ?_⟩
              unfold f12_bounds
              rw [mi, zc1_s, if_neg (by decide), mp, zc1_s, if_neg (by decide), mi3, zc1_s, if_neg (by decide), zix_s hc (by decide), zlt_s, zix_s hc (by decide), zlt_s, zix_s hc (by decide), zlt_s, hA, hn, hf, if_pos c40, n0, if_pos (show nI 0 = 0 from rfl), if_pos (show nI 0 = 0 from rfl), r0]
            · refine ⟨r, e1, ?_⟩
              unfold f12_bounds
              rw [mi, zc1_s, if_neg (by decide), mp, zc1_s, if_neg (by decide), mi3, zc1_s, if_neg (by decide), zix_s hc (by decide), zlt_s, zix_s hc (by decide), zlt_s, zix_s hc (by decide), zlt_s, hA, hn, hf, if_pos c40, if_neg (show ¬ nI n = 0 by show ¬ nI n = nI 0; rw [nI_inj (by omega) (by omega)]; exact n0), mch, zc1_s, if_pos (show nI 0 = 0 from rfl), zlt_s, hpe]
              exact r2
          · obtain ⟨r, r1, r2⟩ := great_both h40 hnA hfn hp2 σ σ
            have e1 : f11_bounds (nI c) v2 (nI 1) σ = some r := by
              unfold f11_bounds f8_greatestFalse
              rw [ci, zc1_s, if_neg (by decide), if_neg p1, if_neg p2, ci3, zc1_s, if_neg (by decide), s1, zc1_s, if_pos c40, zix_s hc (by decide), zlt_s, s2, zc1_s, if_neg (show ¬ nI 1 = 0 by decide), l1, hn, cho, zc1_s, hpe, eA, zlt_s, r1, zc1_s]
            by_cases n0 : n = 0
            · have f0 : f = 0 := by omega
              have r0 : r = nI A := by
                rw [n0, f0, hz, f8_greatestFalse_L14, show A - 0 + 0 = A by omega] at r1
                by_cases A0 : A = 0
                · rw [A0, if_pos (show nI 0 ≤ nI 0 from zn_rle 0)] at r1
                  rw [A0]
                  exact (Option.some.inj r1).symm
                · have w1 : wsN A (A - A) 0 0 (0 + 1 - 0) = 1 := by
                    show chN A 0 * chN (A - A) 0 + 0 = 1
                    rw [chN_0, chN_0]
                  have ew : f8_ways (nI A) (nI A) (nI 0) 0 (nI 0) σ = some (zL (wsN A (A - A) 0 0 (0 + 1 - 0))) := e_ways (f := 0) (Nat.le_refl A) h40 (by omega) (Nat.le_refl 0) (by omega) σ
                  rw [if_neg (show ¬ nI A ≤ nI 0 by rw [i_le, nI_ti (by omega), nI_ti (by omega)]; omega), ew, zc1_s, w1, chN_0, show (100 : Int64) = zL 100 from rfl, zL_i (show p < 2 ^ 31 by omega), zL_mul (by omega) (by omega) (by omega), zL_mul (by omega) (by omega) (by omega), if_pos (by rw [lg_le (by omega) (by omega)]; omega)] at r1
                  exact (Option.some.inj r1).symm
              refine ⟨r, e1, ?_⟩
              unfold f12_bounds
              rw [mi, zc1_s, if_neg (by decide), mp, zc1_s, if_neg (by decide), mi3, zc1_s, if_neg (by decide), zix_s hc (by decide), zlt_s, zix_s hc (by decide), zlt_s, zix_s hc (by decide), zlt_s, hA, hn, hf, if_pos c40, n0, if_pos (show nI 0 = 0 from rfl), if_neg (show ¬ nI 1 = 0 by decide), r0]
            · refine ⟨r, e1, ?_⟩
              unfold f12_bounds
              rw [mi, zc1_s, if_neg (by decide), mp, zc1_s, if_neg (by decide), mi3, zc1_s, if_neg (by decide), zix_s hc (by decide), zlt_s, zix_s hc (by decide), zlt_s, zix_s hc (by decide), zlt_s, hA, hn, hf, if_pos c40, if_neg (show ¬ nI n = 0 by show ¬ nI n = nI 0; rw [nI_inj (by omega) (by omega)]; exact n0), mch, zc1_s, if_neg (show ¬ nI 1 = 0 by decide), eA, zlt_s, hpe]
              exact r2
        · have c40 : ¬ nI A ≤ 40 := by rw [i_le, nI_ti (by omega)]; simp only [Int32.reduceToInt]; omega
          refine ⟨-5, ?_, ?_⟩
          · unfold f11_bounds
            rw [ci, zc1_s, if_neg (by decide), if_neg p1, if_neg p2, ci3, zc1_s, if_neg (by decide), s1, zc1_s, if_neg c40]
          · unfold f12_bounds
            rw [mi, zc1_s, if_neg (by decide), mp, zc1_s, if_neg (by decide), mi3, zc1_s, if_neg (by decide), zix_s hc (by decide), zlt_s, zix_s hc (by decide), zlt_s, zix_s hc (by decide), zlt_s, hA, if_neg c40]
      · refine ⟨-1, ?_, ?_⟩
        · unfold f11_bounds
          rw [ci, zc1_s, if_neg (by decide), if_neg p1, if_neg p2, cin, zc1_s, if_pos (by rw [t01]; simp only [Int32.reduceToInt]; omega)]
        · unfold f12_bounds
          rw [mi, zc1_s, if_neg (by decide), mp, zc1_s, if_neg (by decide), e_within, zc1_s, if_pos (by rw [t01]; simp only [Int32.reduceToInt]; omega)]
    · refine ⟨-1, ?_, ?_⟩
      · unfold f11_bounds
        rw [ci, zc1_s, if_neg (by decide)]
        by_cases p1 : v2 < 1
        · rw [if_pos p1]
        · rw [if_neg p1, if_pos (by rw [i_lt] at p1 ⊢; simp only [Int32.reduceToInt] at p1 ⊢; omega)]
      · unfold f12_bounds
        rw [mi, zc1_s, if_neg (by decide), e_within, zc1_s, if_pos (by rw [t01]; simp only [Int32.reduceToInt]; omega)]
  · refine ⟨-1, ?_, ?_⟩
    · unfold f11_bounds
      rw [cin, zc1_s, if_pos (by rw [t01]; simp only [Int32.reduceToInt]; omega)]
    · unfold f12_bounds
      rw [m_isCrew, zc1_s, if_pos (by rw [t01]; omega)]
