/-! joined, chance, cause, rivals -/
theorem K20 {σ : zSt} (h : Inv σ) {k : Nat} (hk : k < mK σ) : k < 20 := Nat.lt_of_lt_of_le hk (N_k h).2.2
theorem m_isKY {s σ : zSt} (h : Inv s) (y : RY s σ) {k : Nat} (hk : k < mK σ) : f12_isKind (nI k) s = some 1 := by
  have := K20 h (k := k) (by rw [(RY_b y).2.2.2.2.2.2.2.2.1]; exact hk)
  rw [m_isK (RI_of h), (RY_b y).2.2.2.2.2.2.2.2.1, nI_ti (by omega), if_pos (by omega)]
theorem t_joined {σ : zSt} (h : Inv σ) (v1 v2 v3 v4 : Int32) : Ok2 (f11_joined v1 v2 v3 v4 σ) (f12_joined v1 v2 v3 v4) := by
  have hr := RI_of h
  rcases zcase v1 (mK σ) (by have := (N_k h).2.2; omega) with ⟨k, hk, rfl, hv⟩ | hv
  · by_cases hg : isg v2 = true
    · by_cases hd : 0 ≤ v3.toInt ∧ v3.toInt < 10000
      · by_cases hw : 0 ≤ v4.toInt ∧ v4.toInt < 3
        · obtain ⟨s1, q1, q2, q3, q4⟩ := e_mark h k v3
          obtain ⟨s2, p1, p2, p3, p4, p5⟩ := m_find q2 q3 (K20 h hk) v3
          have c1 : f11_joined (nI k) v2 v3 v4 σ = (if v4 = 0 then some (nI (cW σ k v3), s1) else if v4 = 1 then (zc1 (f11_sizeOfGroup k v2 1 s1) fun r9 => some (r9, s1)) else zc1 (f11_sizeOfGroup k v2 0 s1) fun r10 => some (r10, s1)) := by
            unfold f11_joined
            rw [e_kAt h hk, zc1_s, zoc_s, e_isGroup, zc1_s, hg, if_neg (by decide), e_isDay, if_pos hd, zc1_s, if_neg (by decide), e_isIn, if_pos (show 0 ≤ v4.toInt ∧ v4.toInt < (3 : Int32).toInt from hw), zc1_s, if_neg (by decide), q1, zc2_s]
            rfl
          have c2 : f12_joined (nI k) v2 v3 v4 s1 = (if v4 = 0 then some (nI (cW σ k v3), s2) else zc1 (f12_sizeOf v2 (nI k) (if v4 = 1 then 1 else 0) s2) fun r11 => some (r11, s2)) := by
            unfold f12_joined
            rw [m_isKY q2 q3 hk, zc1_s, if_neg (by decide), m_isGroup, zc1_s, hg, if_neg (by decide), m_isDay, if_pos hd, zc1_s, if_neg (by decide), e_within, if_pos (by simp only [Int32.reduceToInt]; omega), zc1_s, if_neg (by decide), p1, zc2_s, p4]
            rfl
          have z0 : f11_sizeOfGroup k v2 0 s1 = _ := e_sizeOf q2 q3 hk q4 v2 false
          have z1 : f11_sizeOfGroup k v2 1 s1 = _ := e_sizeOf q2 q3 hk q4 v2 true
          have w0 : f12_sizeOf v2 (nI k) 0 s2 = _ := m_sizeOf p2 p3 hk p5 v2 false
          have w1 : f12_sizeOf v2 (nI k) 1 s2 = _ := m_sizeOf p2 p3 hk p5 v2 true
          have k1 := c1
          by_cases e0 : v4 = 0
          · rw [if_pos e0] at k1 c2
            exact ⟨_, _, _, k1, q2.1, c2, p2⟩
          · rw [if_neg e0] at k1 c2
            by_cases e1 : v4 = 1
            · rw [if_pos e1, z1, zc1_s] at k1
              rw [if_pos e1, w1, zc1_s] at c2
              exact ⟨_, _, _, k1, q2.1, c2, p2⟩
            · rw [if_neg e1, z0, zc1_s] at k1
              rw [if_neg e1, w0, zc1_s] at c2
              exact ⟨_, _, _, k1, q2.1, c2, p2⟩
        · refine Ok2.same h (r := -1) ?_ ?_
          · unfold f11_joined
            rw [e_kAt h hk, zc1_s, zoc_s, e_isGroup, zc1_s, hg, if_neg (by decide), e_isDay, if_pos hd, zc1_s, if_neg (by decide), e_isIn, if_neg (show ¬ (0 ≤ v4.toInt ∧ v4.toInt < (3 : Int32).toInt) from hw), zc1_s, if_pos rfl]
          · unfold f12_joined
            rw [m_isKY h RY.rf hk, zc1_s, if_neg (by decide), m_isGroup, zc1_s, hg, if_neg (by decide), m_isDay, if_pos hd, zc1_s, if_neg (by decide), e_within, if_neg (by simp only [Int32.reduceToInt]; omega), zc1_s, if_pos rfl]
      · refine Ok2.same h (r := -1) ?_ ?_
        · unfold f11_joined
          rw [e_kAt h hk, zc1_s, zoc_s, e_isGroup, zc1_s, hg, if_neg (by decide), e_isDay, if_neg hd, zc1_s, if_pos rfl]
        · unfold f12_joined
          rw [m_isKY h RY.rf hk, zc1_s, if_neg (by decide), m_isGroup, zc1_s, hg, if_neg (by decide), m_isDay, if_neg hd, zc1_s, if_pos rfl]
    · have hg' : isg v2 = false := by cases e : isg v2 <;> simp_all
      refine Ok2.same h (r := -1) ?_ ?_
      · unfold f11_joined
        rw [e_kAt h hk, zc1_s, zoc_s, e_isGroup, zc1_s, hg', if_pos (show b01 false = 0 from rfl)]
      · unfold f12_joined
        rw [m_isKY h RY.rf hk, zc1_s, if_neg (by decide), m_isGroup, zc1_s, hg', if_pos (show b01 false = 0 from rfl)]
  · refine Ok2.same h (r := -1) ?_ ?_
    · unfold f11_joined
      rw [e_kAt_o h hv, zc1_s, zoc_n]
    · unfold f12_joined
      rw [m_isK hr, if_neg hv, zc1_s, if_pos rfl]
theorem t_chance {σ : zSt} (h : Inv σ) (v1 v2 v3 : Int32) : Ok2 (f11_chance v1 v2 v3 σ) (f12_chance v1 v2 v3) := by
  have hr := RI_of h
  rcases zcase v1 (mK σ) (by have := (N_k h).2.2; omega) with ⟨k, hk, rfl, hv⟩ | hv
  · by_cases hg : isg v2 = true
    · by_cases hd : 0 ≤ v3.toInt ∧ v3.toInt < 10000
      · obtain ⟨s1, q1, q2, q3, q4⟩ := e_mark h k v3
        obtain ⟨s2, p1, p2, p3, p4, p5⟩ := m_find q2 q3 (K20 h hk) v3
        refine ⟨chv σ k v3 v2, s1, s2, ?_, q2.1, ?_, p2⟩
        · unfold f11_chance
          rw [e_kAt h hk, zc1_s, zoc_s, e_isGroup, zc1_s, hg, if_neg (by decide), e_isDay, if_pos hd, zc1_s, if_neg (by decide), q1, zc2_s]
          show zc1 (f11_chanceOf k v2 (nI (cW σ k v3)) s1) _ = _
          rw [e_chanceOf q2 q3 hk q4, zc1_s]
        · unfold f12_chance
          rw [m_isKY q2 q3 hk, zc1_s, if_neg (by decide), m_isGroup, zc1_s, hg, if_neg (by decide), m_isDay, if_pos hd, zc1_s, if_neg (by decide), p1, zc2_s]
          show zc1 (f12_chanceOf v2 (nI k) s2) _ = _
          rw [m_chanceOf p2 p3 hk p4 p5, zc1_s]
      · refine Ok2.same h (r := -1) ?_ ?_
        · unfold f11_chance
          rw [e_kAt h hk, zc1_s, zoc_s, e_isGroup, zc1_s, hg, if_neg (by decide), e_isDay, if_neg hd, zc1_s, if_pos rfl]
        · unfold f12_chance
          rw [m_isKY h RY.rf hk, zc1_s, if_neg (by decide), m_isGroup, zc1_s, hg, if_neg (by decide), m_isDay, if_neg hd, zc1_s, if_pos rfl]
    · have hg' : isg v2 = false := by cases e : isg v2 <;> simp_all
      refine Ok2.same h (r := -1) ?_ ?_
      · unfold f11_chance
        rw [e_kAt h hk, zc1_s, zoc_s, e_isGroup, zc1_s, hg', if_pos (show b01 false = 0 from rfl)]
      · unfold f12_chance
        rw [m_isKY h RY.rf hk, zc1_s, if_neg (by decide), m_isGroup, zc1_s, hg', if_pos (show b01 false = 0 from rfl)]
  · refine Ok2.same h (r := -1) ?_ ?_
    · unfold f11_chance
      rw [e_kAt_o h hv, zc1_s, zoc_n]
    · unfold f12_chance
      rw [m_isK hr, if_neg hv, zc1_s, if_pos rfl]
theorem t_cause {σ : zSt} (h : Inv σ) (v1 v2 v3 : Int32) : Ok2 (f11_cause v1 v2 v3 σ) (f12_cause v1 v2 v3) := by
  have hr := RI_of h
  rcases zcase v1 (mK σ) (by have := (N_k h).2.2; omega) with ⟨k, hk, rfl, hv⟩ | hv
  · by_cases hd : 0 ≤ v2.toInt ∧ v2.toInt < 10000
    · by_cases hp : 1 ≤ v3.toInt ∧ v3.toInt ≤ 9999
      · obtain ⟨s1, q1, q2, q3, q4⟩ := e_mark h k v2
        obtain ⟨s2, p1, p2, p3, p4, p5⟩ := m_find q2 q3 (K20 h hk) v2
        have c1 : f11_cause (nI k) v2 v3 σ = some ((lkl σ k v2 v3 (-4) 31).1, s1) := by
          unfold f11_cause
          rw [e_kAt h hk, zc1_s, zoc_s, e_isDay, if_pos hd, zc1_s, if_neg (by decide), if_neg (by rw [i_lt]; simp only [Int32.reduceToInt]; omega), if_pos (by rw [i_le]; simp only [Int32.reduceToInt]; omega), q1, zc2_s]
          show zc1 (f11_likeliestGroup k (nI (cW σ k v2)) v3 s1) _ = _
          rw [e_likeliest q2 q3 hk q4, zc1_s]
        have c2 : f12_cause (nI k) v2 v3 s1 = if 0 ≤ (lkl σ k v2 v3 (-1) 31).1 then some ((lkl σ k v2 v3 (-1) 31).1, s2) else some (-4, s2) := by
          unfold f12_cause
          rw [m_isKY q2 q3 hk, zc1_s, if_neg (by decide), m_isDay, if_pos hd, zc1_s, if_neg (by decide), e_within, if_pos (by simp only [Int32.reduceToInt]; omega), zc1_s, if_neg (by decide), p1, zc2_s]
          show zc1 (f12_causeOf (nI k) v3 s2) _ = _
          rw [m_causeOf p2 p3 hk p4 p5, zc1_s]
        rcases lkl_x σ k v2 v3 31 (by omega) with ⟨e1, e2⟩ | ⟨g, hg, -, e1, e2⟩
        · rw [e1] at c1
          rw [e2, if_neg (show ¬ (0 : Int32) ≤ -1 by decide)] at c2
          exact ⟨_, _, _, c1, q2.1, c2, p2⟩
        · rw [e1] at c1
          rw [e2, e1, if_pos (show (0 : Int32) ≤ nI g by rw [i_le, nI_ti (by omega)]; simp only [Int32.reduceToInt]; omega)] at c2
          exact ⟨_, _, _, c1, q2.1, c2, p2⟩
      · refine Ok2.same h (r := -1) ?_ ?_
        · unfold f11_cause
          rw [e_kAt h hk, zc1_s, zoc_s, e_isDay, if_pos hd, zc1_s, if_neg (by decide)]
          by_cases c : v3 < 1
          · rw [if_pos c]
          · rw [if_neg c, if_neg (by rw [i_lt] at c; rw [i_le]; simp only [Int32.reduceToInt] at c ⊢; omega)]
        · unfold f12_cause
          rw [m_isKY h RY.rf hk, zc1_s, if_neg (by decide), m_isDay, if_pos hd, zc1_s, if_neg (by decide), e_within, if_neg (by simp only [Int32.reduceToInt]; omega), zc1_s, if_pos rfl]
    · refine Ok2.same h (r := -1) ?_ ?_
      · unfold f11_cause
        rw [e_kAt h hk, zc1_s, zoc_s, e_isDay, if_neg hd, zc1_s, if_pos rfl]
      · unfold f12_cause
        rw [m_isKY h RY.rf hk, zc1_s, if_neg (by decide), m_isDay, if_neg hd, zc1_s, if_pos rfl]
  · refine Ok2.same h (r := -1) ?_ ?_
    · unfold f11_cause
      rw [e_kAt_o h hv, zc1_s, zoc_n]
    · unfold f12_cause
      rw [m_isK hr, if_neg hv, zc1_s, if_pos rfl]
noncomputable def rvl (σ : zSt) (k : Nat) (d p : Int32) (c g : Nat) : Bool := isg (nI g) && (!decide (p ≤ chv σ k d (nI g)) && zan (dif σ k (nI g) (nI c)) (mH σ))
theorem dif_self (σ : zSt) (k : Nat) (g : Int32) (n : Nat) : zan (dif σ k g g) n = false := by
  cases e : zan (dif σ k g g) n
  · rfl
  · obtain ⟨i, _, hi⟩ := (zan_iff n).mp e
    unfold dif at hi
    simp at hi
theorem e_rivals {σ s : zSt} (h : Inv s) (y : RY s σ) {k : Nat} (hk : k < mK σ) {d : Int32} (hw : ∀ i, i < mH σ → gI s 1218 0 i = b01 (wth σ k d i)) (p : Int32) (c : Nat) : f11_rivals_L69 p k (nI (cW σ k d)) (nI c) s zfuel 0 0 = some (nI (cnt (rvl σ k d p c) 0 31), s) := by
  have key : ∀ dd g m, g + dd = 31 → dd < m → f11_rivals_L69 p k (nI (cW σ k d)) (nI c) s m (nI (cnt (rvl σ k d p c) 0 g)) (nI g) = some (nI (cnt (rvl σ k d p c) 0 31), s) := by
    intro dd
    induction dd with
    | zero =>
      intro g m hg hq
      obtain ⟨m, rfl⟩ : ∃ q, m = q + 1 := ⟨m - 1, by omega⟩
      obtain rfl : g = 31 := by omega
      rw [f11_rivals_L69, if_pos (by decide)]
    | succ dd ih =>
      intro g m hg hq
      obtain ⟨m, rfl⟩ : ∃ q, m = q + 1 := ⟨m - 1, by omega⟩
      have hc := cnt_le (rvl σ k d p c) g 0
      have ce : cnt (rvl σ k d p c) 0 (g + 1) = cnt (rvl σ k d p c) 0 g + (if rvl σ k d p c g then 1 else 0) := by rw [cnt_end, Nat.zero_add]
      have rz : rvl σ k d p c g = (isg (nI g) && (!decide (p ≤ chv σ k d (nI g)) && zan (dif σ k (nI g) (nI c)) (mH σ))) := rfl
      have n1 := nI_suc (cnt (rvl σ k d p c) 0 g) (by omega)
      rw [← ih (g + 1) m (by omega) (by omega), f11_rivals_L69, if_neg (show ¬ (30 : Int32) < nI g by rw [i_lt, nI_ti (by omega)]; simp only [Int32.reduceToInt]; omega), e_isGroup, zc1_s, e_chanceOf h y hk hw, e_areSame h y hk, ce, rz]
      simp only [zlt_s, zc1_s, b01_0, nI_suc g (show g + 1 < 2 ^ 31 by omega), n1]
      cases isg (nI g)
      · rfl
      · by_cases c2 : p ≤ chv σ k d (nI g)
        · rw [if_pos c2, decide_eq_true c2]; rfl
        · rw [if_neg c2, decide_eq_false c2]
          cases zan (dif σ k (nI g) (nI c)) (mH σ) <;> rfl
  exact key 31 0 zfuel (by omega) (zfuel_pos (by omega))
theorem m_rivals {σ s : zSt} (h : Inv s) (y : RY s σ) {k : Nat} (hk : k < mK σ) {d : Int32} (e58 : gI s 12 0 58 = nI (cW σ k d)) (hw : ∀ i, i < mH σ → gI s 1357 0 i = b01 (wth σ k d i)) (p : Int32) (c : Nat) (hc31 : c < 31) : f12_rivals_L56 (nI k) p (nI c) s zfuel 0 0 = some (nI (cnt (rvl σ k d p c) 0 31), s) := by
  have key : ∀ dd g m, g + dd = 31 → dd < m → f12_rivals_L56 (nI k) p (nI c) s m (nI (cnt (rvl σ k d p c) 0 g)) (nI g) = some (nI (cnt (rvl σ k d p c) 0 31), s) := by
    intro dd
    induction dd with
    | zero =>
      intro g m hg hq
      obtain ⟨m, rfl⟩ : ∃ q, m = q + 1 := ⟨m - 1, by omega⟩
      obtain rfl : g = 31 := by omega
      rw [f12_rivals_L56, if_pos (by decide)]
    | succ dd ih =>
      intro g m hg hq
      obtain ⟨m, rfl⟩ : ∃ q, m = q + 1 := ⟨m - 1, by omega⟩
      have hc := cnt_le (rvl σ k d p c) g 0
      have ce : cnt (rvl σ k d p c) 0 (g + 1) = cnt (rvl σ k d p c) 0 g + (if rvl σ k d p c g then 1 else 0) := by rw [cnt_end, Nat.zero_add]
      have rz : rvl σ k d p c g = (isg (nI g) && (!decide (p ≤ chv σ k d (nI g)) && zan (dif σ k (nI g) (nI c)) (mH σ))) := rfl
      have n1 := nI_suc (cnt (rvl σ k d p c) 0 g) (by omega)
      rw [← ih (g + 1) m (by omega) (by omega), f12_rivals_L56, if_neg (show ¬ (30 : Int32) < nI g by rw [i_lt, nI_ti (by omega)]; simp only [Int32.reduceToInt]; omega), m_isGroup, zc1_s, m_chanceOf h y hk e58 hw, m_areSame h y hk, ce, rz]
      simp only [zlt_s, zc1_s, b01_0, nI_suc g (show g + 1 < 2 ^ 31 by omega), n1, i_add0, nI_inj (show g < 2 ^ 31 by omega) (show c < 2 ^ 31 by omega)]
      cases isg (nI g)
      · rfl
      · by_cases c3 : g = c
        · rw [c3, dif_self]
          simp
        · rw [if_neg c3]
          by_cases c2 : p ≤ chv σ k d (nI g)
          · rw [if_pos c2, decide_eq_true c2]; rfl
          · rw [if_neg c2, decide_eq_false c2]
            cases zan (dif σ k (nI g) (nI c)) (mH σ) <;> rfl
  exact key 31 0 zfuel (by omega) (zfuel_pos (by omega))
theorem t_rivals {σ : zSt} (h : Inv σ) (v1 v2 v3 : Int32) : Ok2 (f11_rivals v1 v2 v3 σ) (f12_rivals v1 v2 v3) := by
  have hr := RI_of h
  rcases zcase v1 (mK σ) (by have := (N_k h).2.2; omega) with ⟨k, hk, rfl, hv⟩ | hv
  · by_cases hd : 0 ≤ v2.toInt ∧ v2.toInt < 10000
    · by_cases hp : 1 ≤ v3.toInt ∧ v3.toInt ≤ 9999
      · obtain ⟨s1, q1, q2, q3, q4⟩ := e_mark h k v2
        obtain ⟨s2, p1, p2, p3, p4, p5⟩ := m_find q2 q3 (K20 h hk) v2
        have c1 : f11_rivals (nI k) v2 v3 σ = if (lkl σ k v2 v3 (-4) 31).1 = -4 then some (-4, s1) else f11_rivals_L69 v3 k (nI (cW σ k v2)) (lkl σ k v2 v3 (-4) 31).1 s1 zfuel 0 0 := by
          unfold f11_rivals
          rw [e_kAt h hk, zc1_s, zoc_s, e_isDay, if_pos hd, zc1_s, if_neg (by decide), if_neg (by rw [i_lt]; simp only [Int32.reduceToInt]; omega), if_pos (by rw [i_le]; simp only [Int32.reduceToInt]; omega), q1, zc2_s]
          show zc1 (f11_likeliestGroup k (nI (cW σ k v2)) v3 s1) _ = _
          rw [e_likeliest q2 q3 hk q4, zc1_s]
          rfl
        have c2 : f12_rivals (nI k) v2 v3 s1 = if 0 ≤ (lkl σ k v2 v3 (-1) 31).1 then f12_rivals_L56 (nI k) v3 (lkl σ k v2 v3 (-1) 31).1 s2 zfuel 0 0 else some (-4, s2) := by
          unfold f12_rivals
          rw [m_isKY q2 q3 hk, zc1_s, if_neg (by decide), m_isDay, if_pos hd, zc1_s, if_neg (by decide), e_within, if_pos (by simp only [Int32.reduceToInt]; omega), zc1_s, if_neg (by decide), p1, zc2_s]
          show zc1 (f12_causeOf (nI k) v3 s2) _ = _
          rw [m_causeOf p2 p3 hk p4 p5, zc1_s]
        rcases lkl_x σ k v2 v3 31 (by omega) with ⟨e1, e2⟩ | ⟨g, hg, -, e1, e2⟩
        · rw [if_pos e1] at c1
          rw [e2, if_neg (show ¬ (0 : Int32) ≤ -1 by decide)] at c2
          exact ⟨_, _, _, c1, q2.1, c2, p2⟩
        · rw [e1, if_neg (show ¬ nI g = -4 by rw [i_eq, nI_ti (by omega)]; have h4 : (-4 : Int32).toInt = -4 := (by decide); omega), e_rivals q2 q3 hk q4] at c1
          rw [e2, e1, if_pos (show (0 : Int32) ≤ nI g by rw [i_le, nI_ti (by omega)]; simp only [Int32.reduceToInt]; omega), m_rivals p2 p3 hk p4 p5 v3 g hg] at c2
          exact ⟨_, _, _, c1, q2.1, c2, p2⟩
      · refine Ok2.same h (r := -1) ?_ ?_
        · unfold f11_rivals
          rw [e_kAt h hk, zc1_s, zoc_s, e_isDay, if_pos hd, zc1_s, if_neg (by decide)]
          by_cases c : v3 < 1
          · rw [if_pos c]
          · rw [if_neg c, if_neg (by rw [i_lt] at c; rw [i_le]; simp only [Int32.reduceToInt] at c ⊢; omega)]
        · unfold f12_rivals
          rw [m_isKY h RY.rf hk, zc1_s, if_neg (by decide), m_isDay, if_pos hd, zc1_s, if_neg (by decide), e_within, if_neg (by simp only [Int32.reduceToInt]; omega), zc1_s, if_pos rfl]
    · refine Ok2.same h (r := -1) ?_ ?_
      · unfold f11_rivals
        rw [e_kAt h hk, zc1_s, zoc_s, e_isDay, if_neg hd, zc1_s, if_pos rfl]
      · unfold f12_rivals
        rw [m_isKY h RY.rf hk, zc1_s, if_neg (by decide), m_isDay, if_neg hd, zc1_s, if_pos rfl]
  · refine Ok2.same h (r := -1) ?_ ?_
    · unfold f11_rivals
      rw [e_kAt_o h hv, zc1_s, zoc_n]
    · unfold f12_rivals
      rw [m_isK hr, if_neg hv, zc1_s, if_pos rfl]
