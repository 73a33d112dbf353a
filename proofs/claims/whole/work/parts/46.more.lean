/-- a state more of one fault: the states stay right -/
theorem vS_more {σ S : zSt} {f n : Nat} {t q w : Int32} (hN : gN S 1 = gN σ 1) (hs : sz σ f = n) (hn : n < 30)
    (a500 : ∀ g j, gI S 500 g j = if g = f ∧ j = n then q else gI σ 500 g j) (a501 : ∀ g j, gI S 501 g j = if g = f ∧ j = n then t else gI σ 501 g j) (a502 : ∀ g j, gI S 502 g j = if g = f ∧ j = n then w else gI σ 502 g j) (a4 : ∀ g, gI S 4 g 3 = if g = f then nI (n + 1) else gI σ 4 g 3)
    (a1326 : ∀ k, gI S 1326 0 k = if k = 30 * f + n then t else gI σ 1326 0 k) (a1327 : ∀ k, gI S 1327 0 k = if k = 30 * f + n then q else gI σ 1327 0 k) (a1328 : ∀ k, gI S 1328 0 k = if k = 30 * f + n then w else gI σ 1328 0 k) (a1329 : ∀ g, gI S 1329 0 g = if g = f then nI (n + 1) else gI σ 1329 0 g)
    (a1330 : ∀ g, g ≠ f → gI S 1330 0 g = gI σ 1330 0 g) (a1322 : gI S 1322 = gI σ 1322) (aq : qday S = qday σ) (hq : q = qday σ) (ht : btw 0 t 4) (hw : t = 2 → btw 0 w 9) (h1 : t = 1 → gI S 1330 0 f = 1) (H : vS σ) : vS S := by
  have eT : ∀ g j, j < 30 → sT S g j = if g = f ∧ j = n then t else sT σ g j := fun g j hj => by
    unfold sT
    rw [a1326]
    by_cases e : g = f ∧ j = n
    · rw [if_pos e, if_pos (by omega)]
    · rw [if_neg e, if_neg (by omega)]
  have eD : ∀ g j, j < 30 → sD S g j = if g = f ∧ j = n then q else sD σ g j := fun g j hj => by
    unfold sD
    rw [a1327]
    by_cases e : g = f ∧ j = n
    · rw [if_pos e, if_pos (by omega)]
    · rw [if_neg e, if_neg (by omega)]
  have eC : ∀ g j, j < 30 → sC S g j = if g = f ∧ j = n then w else sC σ g j := fun g j hj => by
    unfold sC
    rw [a1328]
    by_cases e : g = f ∧ j = n
    · rw [if_pos e, if_pos (by omega)]
    · rw [if_neg e, if_neg (by omega)]
  intro g hg
  rw [hN] at hg
  obtain ⟨s1, s2, s3, s4, s5, s6, s7, s8, s9⟩ := H g hg
  by_cases e : g = f
  · subst e
    have z : sz S g = n + 1 := by
      unfold sz nT
      rw [a1329, if_pos rfl, nI_ti (by omega)]
      omega
    rw [hs] at s1 s2 s3 s4 s5 s6 s9
    have o : ∀ j, j < n → ¬ (g = g ∧ j = n) := fun j hj => by omega
    have y : g = g ∧ n = n := ⟨rfl, rfl⟩
    unfold vS1
    rw [z]
    refine ⟨by rw [a1329, if_pos rfl], by rw [a4, if_pos rfl], by omega, by omega, fun j hj => ?_, fun i j hij hj => ?_, ?_, ?_, fun h => ?_⟩
    · rw [a500, a501, a502, eT g j (by omega), eD g j (by omega), eC g j (by omega), a1322, aq]
      by_cases e : j = n
      · subst e
        rw [if_pos y, if_pos y, if_pos y, if_pos y, if_pos y, if_pos y]
        have h0 := (s5 0 (by omega)).2.2.2.2.2
        rw [← hq] at h0 ⊢
        exact ⟨rfl, rfl, rfl, ht, hw, by omega, by omega⟩
      · have o' := o j (by omega)
        rw [if_neg o', if_neg o', if_neg o', if_neg o', if_neg o', if_neg o']
        exact s5 j (by omega)
    · rw [eD g i (by omega), eD g j (by omega)]
      by_cases e : j = n
      · subst e
        rw [if_pos y]
        by_cases e : i = j
        · rw [if_pos ⟨rfl, e⟩]; omega
        · rw [if_neg (o i (by omega)), hq]
          exact (s5 i (by omega)).2.2.2.2.2.2
      · rw [if_neg (o i (by omega)), if_neg (o j (by omega))]
        exact s6 i j hij (by omega)
    · rw [eT g 0 (by omega), if_neg (o 0 (by omega))]
      exact s7
    · rw [eD g 0 (by omega), if_neg (o 0 (by omega)), a1322]
      exact s8
    · rw [Nat.add_sub_cancel, eT g n (by omega), if_pos y] at h
      exact h1 h
  · have z : sz S g = sz σ g := by
      unfold sz
      rw [a1329, if_neg e]
    have o : ∀ j, ¬ (g = f ∧ j = n) := fun j h => e h.1
    unfold vS1
    rw [z]
    refine ⟨by rw [a1329, if_neg e]; exact s1, by rw [a4, if_neg e]; exact s2, s3, s4, fun j hj => ?_, fun i j hij hj => ?_, ?_, ?_, fun h => ?_⟩
    · rw [a500, a501, a502, eT g j (by omega), eD g j (by omega), eC g j (by omega), a1322, aq, if_neg (o j), if_neg (o j), if_neg (o j), if_neg (o j), if_neg (o j), if_neg (o j)]
      exact s5 j hj
    · rw [eD g i (by omega), eD g j (by omega), if_neg (o i), if_neg (o j)]
      exact s6 i j hij hj
    · rw [eT g 0 (by omega), if_neg (o 0)]
      exact s7
    · rw [eD g 0 (by omega), if_neg (o 0), a1322]
      exact s8
    · rw [eT g _ (by omega), if_neg (o _)] at h
      rw [a1330 g e]
      exact s9 h
