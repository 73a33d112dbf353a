/-! told before? -/
def stl (σ : zSt) (g : Nat) : Int32 := sT σ g (sz σ g - 1)
def old (σ : zSt) (h : Nat) (rm kv : Int32) (g : Nat) : Bool := decide (hm σ g = h ∧ gI σ 1319 0 g = rm ∧ gI σ 1320 0 g = kv) && (!decide (stl σ g = 4) && (!decide (gI σ 1324 0 g = 0) || !decide (stl σ g = 3)))
theorem e_isToldBefore {σ s : zSt} (h : Inv σ) {hh kd : Nat} {rm kv sv ey : Int32} {cr : Bool} (hN : gN σ 1 = mF σ) (H : NF σ (mF σ) hh kd rm kv sv ey cr s) : f11_isToldBefore (mF σ) s = some (b01 (zan (old σ hh rm kv) (mF σ))) := by
  obtain ⟨n1, n2, n3⟩ := N_f h
  have hr := RI_of h
  obtain ⟨i1, i4, i3, i3', ii, r1, r4, r3, r3', rr, nn, -⟩ := H
  have e11 : gI s 11 0 5 = nI (mF σ) := by rw [ii 11 (by decide)]; exact n1
  unfold f11_isToldBefore
  rw [zan_first, lfirst (f11_isToldBefore_L2 (mF σ) s) (some 0) (old σ hh rm kv) (fun _ => some 1) (mF σ) (by omega) (fun n g hg => ?_) (fun n => ?_) (zfuel_pos (by omega))]
  · cases zfirst (old σ hh rm kv) 0 (mF σ) <;> rfl
  · have hl := F_lt hr hg
    obtain ⟨p1, p2, p3, p4⟩ := F_R h hg
    obtain ⟨j1, j2, j3, j4, j5, j6, -⟩ := F_I h hg
    obtain ⟨s1, s2, s3, s4, s5, -⟩ := (A_F h hg).2.1
    have ne : ¬ g = mF σ := by omega
    have g4 : gI s 4 g 3 = nI (sz σ g) := by rw [i4 4 g 3 (Or.inl rfl), if_neg ne]; exact s2
    have gn : f4_now g s = some (stl σ g) := by
      rw [e_now g4 ⟨s3, s4⟩, i4 501 _ _ (by decide), if_neg ne, (s5 (sz σ g - 1) (by omega)).2.1]
      rfl
    have same : f1_isSameThing g (mF σ) s = some (if hm σ g = hh ∧ gI σ 1319 0 g = rm ∧ gI σ 1320 0 g = kv then 1 else 0) := by
      unfold f1_isSameThing
      rw [r1, r1, if_neg ne, if_pos rfl, p3, zlt_s, zlt_s, zlt_s, i1, i1, i1, i1, if_neg ne, if_neg ne, if_pos rfl, if_pos rfl, j1, j2]
      show (if some (hm σ g) = some hh then (if gI σ 1319 0 g = rm then (if gI σ 1320 0 g = kv then some 1 else some 0) else some 0) else some 0) = _
      by_cases c1 : hm σ g = hh
      · rw [if_pos (by rw [c1])]
        by_cases c2 : gI σ 1319 0 g = rm
        · rw [if_pos c2]
          by_cases c3 : gI σ 1320 0 g = kv
          · rw [if_pos c3, if_pos ⟨c1, c2, c3⟩]
          · rw [if_neg c3, if_neg (fun q => c3 q.2.2)]
        · rw [if_neg c2, if_neg (fun q => c2 q.2.1)]
      · rw [if_neg (by rw [some_eq]; exact c1), if_neg (fun q => c1 q.1)]
    have g10 : gI s 1 g 10 = gI σ 1324 0 g := by rw [i1, if_neg ne, j6]
    rw [f11_isToldBefore_L2, e11, if_neg (zn_nle hg (by omega)), zix_s hl (by decide), zlt_s, rr 1204 (by decide), p1, zoc_s, same, zc1_s, zlt_s, gn, zc1_s, g10]
    unfold old
    by_cases c : hm σ g = hh ∧ gI σ 1319 0 g = rm ∧ gI σ 1320 0 g = kv
    · rw [if_pos c, decide_eq_true c, if_neg (by decide)]
      show zlt (zlt (nI g + 1) fun x10 => f11_isToldBefore_L2 (mF σ) s n x10) (fun j8 => if stl σ g = 4 then (j8) else if gI σ 1324 0 g = 0 then (if stl σ g = 3 then (j8) else some 1) else some 1) = _
      rw [zlt_s, zlt_s]
      by_cases c4 : stl σ g = 4
      · rw [if_pos c4, decide_eq_true c4]; rfl
      · rw [if_neg c4, decide_eq_false c4]
        by_cases c0 : gI σ 1324 0 g = 0
        · rw [if_pos c0, decide_eq_true c0]
          by_cases c3 : stl σ g = 3
          · rw [if_pos c3, decide_eq_true c3]; rfl
          · rw [if_neg c3, decide_eq_false c3]; rfl
        · rw [if_neg c0, decide_eq_false c0]; rfl
    · rw [if_neg c, decide_eq_false c, if_pos rfl]; rfl
  · rw [f11_isToldBefore_L2, e11, if_pos (zn_rle _)]
/-- the reference's loop -/
theorem m_old {σ s : zSt} (h : RI σ) {hh : Nat} {rm kv : Int32} {h40 : hh < 40} (y : ∀ a, a ≠ 1318 ∧ a ≠ 1319 ∧ a ≠ 1320 ∧ a ≠ 1321 ∧ a ≠ 1322 ∧ a ≠ 1323 ∧ a ≠ 1324 → 1300 ≤ a → a ≤ 1354 → gI s a = gI σ a)
    (y1 : ∀ g, g < mF σ → gI s 1318 0 g = gI σ 1318 0 g ∧ gI s 1319 0 g = gI σ 1319 0 g ∧ gI s 1320 0 g = gI σ 1320 0 g ∧ gI s 1324 0 g = gI σ 1324 0 g) (hrm : gI s 1319 0 (mF σ) = rm) (hN2 : mF σ < 200) (a : Bool) (K : Int32 → Option (Int32 × zSt)) :
    f12_fault_L175 kv (nI (mF σ)) (nI hh) s K zfuel (b01 a) 0 = K (b01 (a || zan (old σ hh rm kv) (mF σ))) := by
  have key : ∀ d g m, g + d = mF σ → d < m → f12_fault_L175 kv (nI (mF σ)) (nI hh) s K m (b01 (a || zan (old σ hh rm kv) g)) (nI g) = K (b01 (a || zan (old σ hh rm kv) (mF σ))) := by
    intro d
    induction d with
    | zero =>
      intro g m hi hq
      obtain ⟨m, rfl⟩ : ∃ q, m = q + 1 := ⟨m - 1, by omega⟩
      obtain rfl : g = mF σ := by omega
      rw [f12_fault_L175, if_pos (zn_rle _)]
    | succ d ih =>
      intro g m hi hq
      obtain ⟨m, rfl⟩ : ∃ q, m = q + 1 := ⟨m - 1, by omega⟩
      have hg : g < mF σ := by omega
      have hl := F_lt h hg
      obtain ⟨z1, z2, z3, z4⟩ := y1 g hg
      have hS := F_RS h hg
      have gn : f12_stateNow (nI g) s = some (stl σ g) := by
        have e1 : gI s 1329 0 g = nI (sz σ g) := by rw [y 1329 (by decide) (by decide) (by decide)]; exact hS.1
        rw [m_stateNow hl e1 ⟨hS.2.1, hS.2.2.1⟩, y 1326 (by decide) (by decide) (by decide)]
        rfl
      rw [← ih (g + 1) m (by omega) (by omega), f12_fault_L175, if_neg (zn_nle hg (by omega)), zix_s hl (by decide), zlt_s, zlt_s, z1, zix_s hl (by decide), zix_s hN2 (by decide), z2, hrm, zix_s hl (by decide), z3, gn, zc1_s]
      rw [show gI σ 1318 0 g = nI (hm σ g) from (F_hm h hg).1]
      have hh40 := (F_hm h hg).2.2
      simp only [nI_inj (show hm σ g < 2 ^ 31 by omega) (show hh < 2 ^ 31 by omega)]
      have J : ∀ a28 : Bool, a28 = (decide (hm σ g = hh ∧ gI σ 1319 0 g = rm ∧ gI σ 1320 0 g = kv) && !decide (stl σ g = 4)) → (zlt (fun (a31 : Int32) => zlt (nI g + 1 : Int32) fun x34 => f12_fault_L175 kv (nI (mF σ)) (nI hh) s K m a31 x34) fun j32 => zlt (j32 1) fun j36 => if b01 (a || zan (old σ hh rm kv) g) = 0 then (zlt (j32 0) fun j38 => if b01 a28 = 0 then (j38) else zix (nI g) 200 fun m40 => if gI s 1324 0 m40 = 0 then (if stl σ g = 3 then (j38) else j36) else j36) else j36) = f12_fault_L175 kv (nI (mF σ)) (nI hh) s K m (b01 (a || zan (old σ hh rm kv) (g + 1))) (nI (g + 1)) := fun a28 ha => by
        rw [zlt_s, zlt_s, zlt_s, zix_s hl (by decide), z4]
        show _ = f12_fault_L175 kv (nI (mF σ)) (nI hh) s K m (b01 (a || (zan (old σ hh rm kv) g || old σ hh rm kv g))) (nI (g + 1))
        rw [← Bool.or_assoc, ← nI_suc g (by omega)]
        cases (a || zan (old σ hh rm kv) g)
        · rw [if_pos (show b01 false = 0 from rfl), Bool.false_or]
          unfold old
          rw [← Bool.and_assoc, ← ha]
          cases a28
          · rfl
          · rw [if_neg (show ¬ b01 true = 0 by decide)]
            by_cases c0 : gI σ 1324 0 g = 0
            · rw [if_pos c0, decide_eq_true c0]
              by_cases c3 : stl σ g = 3
              · rw [if_pos c3, decide_eq_true c3]; rfl
              · rw [if_neg c3, decide_eq_false c3]; rfl
            · rw [if_neg c0, decide_eq_false c0]; rfl
        · rfl
      by_cases c1 : hm σ g = hh
      · rw [if_pos c1]
        by_cases c2 : gI σ 1319 0 g = rm
        · rw [if_pos c2]
          by_cases c3 : gI σ 1320 0 g = kv
          · rw [if_pos c3]
            by_cases c4 : stl σ g = 4
            · rw [if_pos c4]
              exact J false (by rw [decide_eq_true c4]; simp)
            · rw [if_neg c4]
              exact J true (by rw [decide_eq_false c4, decide_eq_true ⟨c1, c2, c3⟩]; rfl)
          · rw [if_neg c3]
            exact J false (by rw [decide_eq_false fun q => c3 q.2.2]; rfl)
        · rw [if_neg c2]
          exact J false (by rw [decide_eq_false fun q => c2 q.2.1]; rfl)
      · rw [if_neg c1]
        exact J false (by rw [decide_eq_false fun q => c1 q.1]; rfl)
  have := key (mF σ) 0 zfuel (by omega) (zfuel_pos (by omega))
  rw [show (a || zan (old σ hh rm kv) 0) = a from Bool.or_false a] at this
  exact this
