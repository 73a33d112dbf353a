/-- the state on a day: the last one that began by then -/
def zon (D T : Nat → Int32) (d x : Int32) : Nat → Int32
  | 0 => x
  | n + 1 => if d < D n then zon D T d x n else T n
theorem zon_stop {D T : Nat → Int32} {d x : Int32} {j : Nat} : ∀ n, j ≤ n → (∀ i, j ≤ i → i < n → d < D i) → zon D T d x n = zon D T d x j
  | 0, h, _ => by rw [show j = 0 by omega]
  | n + 1, h, hd => by
    by_cases e : j = n + 1
    · rw [e]
    · show (if d < D n then zon D T d x n else T n) = _
      rw [if_pos (hd n (by omega) (by omega))]
      exact zon_stop n (by omega) fun i h1 h2 => hd i h1 (by omega)
theorem zon_x {D T : Nat → Int32} {d x y : Int32} : ∀ n, ¬ d < D 0 → (∀ i j, i ≤ j → j < n + 1 → (D i).toInt ≤ (D j).toInt) → zon D T d x (n + 1) = zon D T d y (n + 1)
  | 0, h, _ => by
    show (if d < D 0 then _ else _) = (if d < D 0 then _ else _)
    rw [if_neg h, if_neg h]
  | n + 1, h, hs => by
    have := zon_x (D := D) (T := T) (d := d) (x := x) (y := y) n h fun i j a b => hs i j a (by omega)
    show (if d < D (n + 1) then _ else _) = (if d < D (n + 1) then _ else _)
    rw [this]
theorem zon_in {D T : Nat → Int32} {d x : Int32} {n : Nat} (h : ∀ j, j < n → btw 0 (T j) 4) : zon D T d x n = x ∨ btw 0 (zon D T d x n) 4 := by
  induction n with
  | zero => exact Or.inl rfl
  | succ n ih =>
    show (if d < D n then zon D T d x n else T n) = x ∨ btw 0 (if d < D n then zon D T d x n else T n) 4
    by_cases e : d < D n
    · rw [if_pos e]; exact ih fun j hj => h j (by omega)
    · rw [if_neg e]; exact Or.inr (h n (by omega))
theorem l_onDay {σ : zSt} {f : Nat} {d : Int32} (H : vS1 σ f) : ∀ m j n, j + m = sz σ f → m < n → f4_onDay_L5 f d σ n (zon (sD σ f) (sT σ f) d (-4) j) (nI j) = some (zon (sD σ f) (sT σ f) d (-4) (sz σ f)) := by
  obtain ⟨s1, s2, s3, s4, s5, s6, s7, s8, s9⟩ := H
  intro m
  induction m with
  | zero =>
    intro j n hj hn
    obtain ⟨n, rfl⟩ : ∃ q, n = q + 1 := ⟨n - 1, by omega⟩
    rw [f4_onDay_L5, s2, if_pos (by rw [i_le, show j = sz σ f by omega]; omega), show j = sz σ f by omega]
  | succ m ih =>
    intro j n hj hn
    obtain ⟨n, rfl⟩ : ∃ q, n = q + 1 := ⟨n - 1, by omega⟩
    obtain ⟨t1, t2, t3, t4, t5, t6⟩ := s5 j (by omega)
    rw [f4_onDay_L5, s2, if_neg (by rw [i_le, nI_ti (show j < 2 ^ 31 by omega), nI_ti (show sz σ f < 2 ^ 31 by omega)]; omega), zix_s (by omega) (by decide), t1]
    by_cases e : d < sD σ f j
    · rw [if_pos e, zon_stop (j := j) (sz σ f) (by omega) fun i h1 h2 => by
        have := s6 j i h1 h2
        rw [i_lt] at e ⊢
        omega]
    · rw [if_neg e, zix_s (by omega) (by decide), zlt_s, zlt_s, t2, nI_suc j (by omega)]
      have := ih (j + 1) n (by omega) (by omega)
      rw [show zon (sD σ f) (sT σ f) d (-4) (j + 1) = sT σ f j from if_neg e] at this
      exact this
theorem e_onDay {σ : zSt} {f : Nat} (d : Int32) (H : vS1 σ f) : f4_onDay f d σ = some (zon (sD σ f) (sT σ f) d (-4) (sz σ f)) :=
  l_onDay H (sz σ f) 0 zfuel (by omega) (zfuel_pos (by have := H.2.2.2.1; omega))
theorem l_stateOn {σ : zSt} {f : Nat} {d : Int32} (hf : f < 200) (H : vS1 σ f) : ∀ m j n, j + m = sz σ f → m < n → f12_stateOn_L8 (nI f) d σ n (zon (sD σ f) (sT σ f) d (-1) j) (nI (30 * f + j)) = some (zon (sD σ f) (sT σ f) d (-1) (sz σ f)) := by
  obtain ⟨s1, s2, s3, s4, s5, s6, s7, s8, s9⟩ := H
  intro m
  induction m with
  | zero =>
    intro j n hj hn
    obtain ⟨n, rfl⟩ : ∃ q, n = q + 1 := ⟨n - 1, by omega⟩
    rw [f12_stateOn_L8, zix_s hf (by decide), s1, nI_row30 f _ (by omega), if_pos (by rw [i_le, show j = sz σ f by omega]; omega), show j = sz σ f by omega]
  | succ m ih =>
    intro j n hj hn
    obtain ⟨n, rfl⟩ : ∃ q, n = q + 1 := ⟨n - 1, by omega⟩
    rw [f12_stateOn_L8, zix_s hf (by decide), s1, nI_row30 f _ (by omega), if_neg (by rw [i_le, nI_ti (show 30 * f + j < 2 ^ 31 by omega), nI_ti (show 30 * f + sz σ f < 2 ^ 31 by omega)]; omega), zix_s (by omega) (by decide), zlt_s]
    have := ih (j + 1) n (by omega) (by omega)
    by_cases e : d < sD σ f j
    · rw [if_pos (show d < gI σ 1327 0 (30 * f + j) from e)]
      show f12_stateOn_L8 (nI f) d σ n _ (nI (30 * f + j) + 1) = _
      rw [nI_suc (30 * f + j) (by omega)]
      rw [show zon (sD σ f) (sT σ f) d (-1) (j + 1) = zon (sD σ f) (sT σ f) d (-1) j from if_pos e] at this
      exact this
    · rw [if_neg (show ¬ d < gI σ 1327 0 (30 * f + j) from e), zix_s (by omega) (by decide)]
      show f12_stateOn_L8 (nI f) d σ n _ (nI (30 * f + j) + 1) = _
      rw [nI_suc (30 * f + j) (by omega)]
      rw [show zon (sD σ f) (sT σ f) d (-1) (j + 1) = sT σ f j from if_neg e] at this
      exact this
theorem m_stateOn {σ : zSt} {f : Nat} (d : Int32) (hf : f < 200) (H : vS1 σ f) : f12_stateOn (nI f) d σ = some (zon (sD σ f) (sT σ f) d (-1) (sz σ f)) := by
  unfold f12_stateOn
  rw [zlt_s, show (30 : Int32) = nI 30 from rfl, nI_mul' 30 f (by omega) (by omega) (by omega)]
  exact l_stateOn hf H (sz σ f) 0 zfuel (by omega) (zfuel_pos (by have := H.2.2.2.1; omega))
theorem t_state {σ : zSt} (h : Inv σ) (v1 v2 : Int32) : Ok1 (f11_state v1 v2 σ) (f12_state v1 v2 σ) := by
  obtain ⟨hO, hC, hN, hH, hK, hF, hS, hL, hG, hD, hT, hX, hZ⟩ := h
  obtain ⟨n1, n2, n3, n4, n5, n6, n7, n8, n9, n10, n11, n12⟩ := hN
  rcases zcase v1 (gN σ 1) (by omega) with ⟨f, hf, rfl, hv⟩ | hv
  · have hR := (hF f hf).1
    have H := hS f hf
    have H' := H
    obtain ⟨s1, s2, s3, s4, s5, s6, s7, s8, s9⟩ := H'
    by_cases hd : 0 ≤ v2.toInt ∧ v2.toInt < 10000
    · obtain ⟨n, hn⟩ : ∃ n, sz σ f = n + 1 := ⟨sz σ f - 1, by omega⟩
      have hin := fun x => zon_in (D := sD σ f) (T := sT σ f) (d := v2) (x := x) (n := sz σ f) fun j hj => (s5 j hj).2.2.2.1
      refine ⟨zon (sD σ f) (sT σ f) v2 (-4) (sz σ f), ?_, ?_⟩
      · unfold f11_state
        rw [e_faultAt n7 n9 hR hf, zc1_s, zoc_s, e_isDay, zc1_s, if_neg (by rw [t01]; omega), e_onDay v2 H, zc1_s]
      · unfold f12_state
        rw [m_isFault (n := gN σ 1) n8 n9, zc1_s, if_neg (by rw [t01]; omega), m_isDay, zc1_s, if_neg (by rw [t01]; omega), m_stateOn v2 (by omega) H, zc1_s]
        by_cases e : v2 < sD σ f 0
        · have z : ∀ x, zon (sD σ f) (sT σ f) v2 x (sz σ f) = x := fun x => zon_stop (j := 0) (sz σ f) (by omega) fun i _ h2 => by
            have := s6 0 i (by omega) h2
            rw [i_lt] at e ⊢
            omega
          rw [z, z, if_neg (by decide)]
        · have e1 : zon (sD σ f) (sT σ f) v2 (-1) (sz σ f) = zon (sD σ f) (sT σ f) v2 (-4) (sz σ f) := by
            rw [hn]
            exact zon_x n e fun i j a b => s6 i j a (by omega)
          rcases hin (-1) with q | q
          · rcases hin (-4) with q2 | q2
            · rw [e1, q2] at q
              exact absurd q (by decide)
            · rw [← e1, q] at q2
              exact absurd q2 (by unfold btw; decide)
          · rw [if_pos (by rw [i_le]; exact q.1), e1]
    · refine ⟨-1, ?_, ?_⟩
      · unfold f11_state
        rw [e_faultAt n7 n9 hR hf, zc1_s, zoc_s, e_isDay, zc1_s, if_pos (by rw [t01]; omega)]
      · unfold f12_state
        rw [m_isFault (n := gN σ 1) n8 n9, zc1_s, if_neg (by rw [t01]; omega), m_isDay, zc1_s, if_pos (by rw [t01]; omega)]
  · refine ⟨-1, ?_, ?_⟩
    · unfold f11_state
      rw [e_faultAt_o n7 n9 hv, zc1_s, zoc_n]
    · unfold f12_state
      rw [m_isFault (n := gN σ 1) n8 n9, zc1_s, if_pos (by rw [t01]; exact hv)]
