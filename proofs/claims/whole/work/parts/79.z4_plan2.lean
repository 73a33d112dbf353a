/-! plans: both, the row -/
theorem zmin_s {a b : Nat} (ha : a < 2 ^ 31) (hb : b < 2 ^ 31) : zmin (nI a) (nI b) = nI (min a b) := by
  unfold zmin
  by_cases c : b < a
  · rw [if_pos (by rw [i_lt, nI_ti ha, nI_ti hb]; omega), Nat.min_eq_right (by omega)]
  · rw [if_neg (by rw [i_lt, nI_ti ha, nI_ti hb]; omega), Nat.min_eq_left (by omega)]
theorem pck_inj {sv : Nat → Nat} {lt : Nat → Nat → Bool} {x y : Nat → Nat} {J : Nat} (J7 : J ≤ 7) (hx : ∀ k, k < J → x k ≤ 14) (hy : ∀ k, k < J → y k ≤ 14) (e : pck sv lt x J = pck sv lt y J) : qW sv lt x J = qW sv lt y J ∧ ∀ i, i < J → x i = y i := by
  constructor
  · rw [← pck_W J7 hx, ← pck_W J7 hy, e]
  · intro i hi
    rw [← pck_dig (sv := sv) (lt := lt) J7 hx hi, ← pck_dig (sv := sv) (lt := lt) J7 hy hi, e]
theorem t_plan {σ : zSt} (h : Inv σ) (v1 : Int32) : Ok2 (f11_plan v1 σ) (f12_plan v1) := by
  have hr := RI_of h
  have hD := h.2.2.2.2.2.2.2.2.2.1
  have hN := h.2.2.1
  obtain ⟨d1, d2, d3, d4, d5, d6, d7, d8, d9, d10⟩ := hD
  have e6 : gI σ 11 0 6 = qday σ := hN.2.2.2.2.2.2.2.2.2.1
  have bq : btw 0 (qday σ) 9999 := hN.2.2.2.2.2.2.2.2.2.2.1
  obtain ⟨q, hq⟩ : ∃ q, q = nT (qday σ) := ⟨_, rfl⟩
  have eq : qday σ = nI q := by rw [hq]; exact i_ofNat bq.1
  have q9 : q ≤ 9999 := by
    have h1 := bq.1
    have h2 := bq.2
    rw [hq]
    unfold nT
    omega
  obtain ⟨J, hJ⟩ : ∃ J, J = jbn σ := ⟨_, rfl⟩
  rw [← hJ] at d2 d3 d4 d5 d6
  unfold f11_plan
  by_cases c1 : v1 < 1
  · have t1 : ¬ ((1 : Int32).toInt ≤ v1.toInt ∧ v1.toInt ≤ (14 : Int32).toInt) := fun hh => by
      rw [i_lt] at c1
      omega
    refine Ok2.same (r := -1) h (by rw [if_pos c1]) ?_
    unfold f12_plan
    rw [e_within, if_neg t1, zc1_s, if_pos rfl]
  rw [if_neg c1]
  by_cases c2 : ¬ v1 ≤ 14
  · have t1 : ¬ ((1 : Int32).toInt ≤ v1.toInt ∧ v1.toInt ≤ (14 : Int32).toInt) := fun hh => by
      rw [i_le] at c2
      omega
    refine Ok2.same (r := -1) h (by rw [if_neg c2]) ?_
    unfold f12_plan
    rw [e_within, if_neg t1, zc1_s, if_pos rfl]
  have c2 : v1 ≤ 14 := Decidable.not_not.mp c2
  rw [if_pos c2]
  have t1 : ((1 : Int32).toInt ≤ v1.toInt ∧ v1.toInt ≤ (14 : Int32).toInt) := by
    rw [i_lt] at c1
    rw [i_le] at c2
    omega
  have t2 := t1
  simp only [Int32.reduceToInt] at t2
  have ev : v1 = nI (nT v1) := i_ofNat (by omega)
  obtain ⟨d, hd⟩ : ∃ d, d = nT v1 := ⟨_, rfl⟩
  have dl : 1 ≤ d ∧ d ≤ 14 := by
    rw [hd]
    unfold nT
    omega
  rw [← hd] at ev
  subst ev
  by_cases cJ : J = 0
  · refine Ok2.same (r := -3) h (by rw [d3, cJ, if_pos (show nI 0 = 0 from rfl)]) ?_
    unfold f12_plan
    rw [e_within, if_pos t1, zc1_s, if_neg (by decide), d2, cJ, if_pos (show nI 0 = 0 from rfl)]
  have nJ : ¬ nI J = 0 := fun e => cJ ((nI_inj (show J < 2 ^ 31 by omega) (show 0 < 2 ^ 31 by decide)).mp e)
  obtain ⟨D, hDe⟩ : ∃ D, D = min d (10000 - q) := ⟨_, rfl⟩
  have D1 : 1 ≤ D ∧ D ≤ 14 ∧ q + D ≤ 10000 := by omega
  rw [d3, if_neg nJ, e6, eq, show (9999 : Int32) = nI 9999 from rfl, nI_sub q9 (by omega), nI_suc _ (by omega), zmin_s (by omega) (by omega), show min d (9999 - q + 1) = D by omega]
  -- the reference, from any state that is the same to it
  have PL : ∀ u, RY u σ → gI u 12 0 47 = nI J → gI u 12 0 59 = nI d → PLC u J D q := fun u x h47 h59 => by
    obtain ⟨z1, z2, z3, z4, z5, z6⟩ := RY_j x
    have x0 : gI u 12 0 0 = nI q := (x.2 0 (by omega)).trans eq
    refine ⟨h47, d4, x0, D1, ?_, fun i hi => ?_, fun t ht => ?_⟩
    · rw [x0, h59, nI_add' _ _ (by omega), sub1' _ (by omega), show (9999 : Int32) = nI 9999 from rfl]
      by_cases c : 9999 ≤ q + d - 1
      · rw [if_pos (by rw [i_le, nI_ti (by omega), nI_ti (by omega)]; omega), show q + D - 1 = 9999 by omega]
      · rw [if_neg (by rw [i_le, nI_ti (by omega), nI_ti (by omega)]; omega), show q + D - 1 = q + d - 1 by omega]
    · obtain ⟨f, f1, f2, f3, f4⟩ := d5 i hi
      have mf : mF u = mF σ := (RY_b x).2.2.2.2.2.2.1
      have jf : jb σ i = f := by
        unfold jb nT
        rw [f2, nI_ti (by have := hr.2.2.1.2; rw [mF_e h] at this; omega)]
        rfl
      rw [z1, mf, x.1 1346 (by omega) (by omega), jf, mF_e h]
      exact ⟨f2, f1⟩
    · rw [x.1 1345 (by omega) (by omega)]
      exact (d1 t ht).2
  -- the jobs on both sides
  have C : JCL σ J := by
    have x : RY (pI (pI σ 12 0 59 (nI d)) 12 0 63 (-1)) σ := (RY.rf.I (by omega)).I (by omega)
    have P := PL _ x (by rw [gI_nk (by decide), gI_nk (by decide), d2]) (by rw [gI_nk (by decide), gI_at])
    obtain ⟨z1, z2, z3, z4, z5, z6⟩ := RY_j x
    obtain ⟨b1, b2, b3, b4, b5, b6, b7, -⟩ := RY_b x
    refine ⟨d3, d4, fun i hi => ?_⟩
    obtain ⟨a1, a2, a3, a4, a5, a6, a7, a8, a9, a10, a11, a12, a13, a14⟩ := j_st (RI_Y x hr) P hi
    rw [z1, b7] at a2
    rw [z1, b6, z2, x.1 1314 (by omega) (by omega)] at a8
    rw [z2] at a9
    rw [z2, z3, x.1 1345 (by omega) (by omega)] at a10
    rw [z2, z3] at a11
    rw [z1, z4, x.1 1321 (by omega) (by omega)] at a12
    rw [z4] at a14
    obtain ⟨f, f1, f2, f3, f4⟩ := d5 i hi
    have jf : jb σ i = f := by
      unfold jb nT
      rw [f2, nI_ti (by have := hr.2.2.1.2; rw [mF_e h] at this; omega)]
      rfl
    obtain ⟨r1, r2, r3, r4⟩ := F_R h a2
    have k2 := (F_kd hr a2).2.1
    have h2 := (F_hm hr a2).2.1
    refine ⟨by rw [f3, jf], r4, (A_K h k2).2.1.trans a8, a9, (d1 _ a9).1.trans a10, a11, by rw [jf]; exact f4, (F_I h a2).2.2.1.trans a12, a14, r3, (A_H h h2).2.2.2.2.2.2.1⟩
  obtain ⟨s1, y, p1, p2, p3, p4, p5, p6, p7, p8, p9, p10, p11⟩ := e_settle C D1.2.2 ⟨D1.1, D1.2.1⟩
  have x1 : RY s1 σ := ⟨fun a _ _ => p4 a (by omega) (by omega) (by omega), fun c _ => by rw [p4 12 (by decide) (by decide) (by decide)]⟩
  have x : RY (pI (pI s1 12 0 59 (nI d)) 12 0 63 (-1)) σ := (x1.I (by omega)).I (by omega)
  obtain ⟨u, hu⟩ : ∃ u, u = pI (pI s1 12 0 59 (nI d)) 12 0 63 (-1) := ⟨_, rfl⟩
  rw [← hu] at x
  have s47 : gI s1 12 0 47 = nI J := by rw [p4 12 (by decide) (by decide) (by decide), d2]
  have u47 : gI u 12 0 47 = nI J := by rw [hu, gI_nk (by decide), gI_nk (by decide), s47]
  have P := PL u x u47 (by rw [hu, gI_nk (by decide), gI_at])
  obtain ⟨z1, z2, z3, z4, z5, z6⟩ := RY_j x
  obtain ⟨s5, g1, g2, g3, β, g4, g5, g6, g7, g8⟩ := m_go (RI_Y x hr) P J 0 10 (fun _ => 0) u none (by omega) (by omega) GO.rf (fun k hk => absurd hk (Nat.not_lt_zero _)) (fun k hk => absurd hk (Nat.not_lt_zero _)) (by show gI u 12 0 63 = -1; rw [hu, gI_at]) (fun β e => by cases e)
  obtain ⟨g41, g42, g43, g44⟩ := g4
  have fe : ∀ w, Fe u J D q w ↔ Fe σ J D q w := fun w => by
    unfold Fe
    rw [z2, z3, z5]
  have pe : ∀ w, pkk u J q w = pkk σ J q w := fun w => by
    unfold pkk
    rw [z4, z6]
  have ee : pkk σ J q y = pkk σ J q β := Nat.le_antisymm (p3 β ((fe β).mp g5)) (by
    have := g7 y ((fe y).mpr p2) (fun k hk => absurd hk (Nat.not_lt_zero _))
    rw [pe, pe] at this
    exact this)
  obtain ⟨w1, w2⟩ := pck_inj d4 (fun k hk => (p2 k hk).1) (fun k hk => (g5 k hk).1) ee
  have s57 : gI s5 12 0 47 = nI J := by rw [g2.2.1 47 (by omega), u47]
  refine ⟨nI (qW (jsv σ) (jlt σ q) y J), s1, pI (pI s5 12 0 62 (nI J)) 12 0 47 0, by rw [p1, zc2_s], ?_, ?_, ?_⟩
  · intro t i k j i1 i2
    by_cases c : t = 101
    · subst c
      cases i2
    · rw [p9 t c]
      rw [p10] at i1
      exact h.1 t i k j i1 i2
  · unfold f12_plan
    have g1' : f12_go 0 0 0 0 u = some ((), s5) := g1
    rw [e_within, if_pos t1, zc1_s, if_neg (by decide), s47, if_neg nJ, zlt_s, zlt_s, ← hu, g1', zc2_s, s57, zlt_s, zlt_s, gI_nk (by decide), gI_nk (by decide), g41, z4, z6, ← w1]
  · have t12 : ∀ t, t ≠ 0 → t ≠ 103 → t ≠ 107 → t ≠ 12 → t ≠ 1360 → t ≠ 1361 → gI (pI (pI s5 12 0 62 (nI J)) 12 0 47 0) t = gI σ t := fun t k1 k2 k3 k4 k5 k6 => by
      rw [gI_ne k4, gI_ne k4, g2.1 t k4 k5 k6, hu, gI_ne k4, gI_ne k4, p4 t k1 k2 k3]
    have s5R : gR s5 = gR s1 := by rw [g2.2.2.1, hu]; rfl
    have s5N : gN s5 = gN s1 := by rw [g2.2.2.2.1, hu]; rfl
    have s5Z : gZ s5 = gZ s1 := by rw [g2.2.2.2.2, hu]; rfl
    refine Inv_pl (fun t k1 k2 k3 k4 => ?_) (fun k k1 k2 => ?_) (fun k k1 k2 i => ?_) (fun t k1 => ?_) (s5N.trans p10) (s5Z.trans p11) ?_ h
    · by_cases c : t = 12
      · subst c; cases k1
      by_cases c2 : t = 107
      · subst c2; cases k1
      by_cases c3 : t = 1360
      · subst c3; cases k1
      exact t12 t k4 k2 c2 c c3 k3
    · rw [gI_nk (by omega), gI_nk (by omega), g2.2.1 k (by omega), hu, gI_nk (by omega), gI_nk (by omega), p4 12 (by decide) (by decide) (by decide)]
    · rw [gI_ne (by decide), gI_ne (by decide), g2.1 0 (by decide) (by decide) (by decide), hu, gI_ne (by decide), gI_ne (by decide), p5 k k1 k2 i]
    · show gR s5 t = gR σ t
      rw [s5R, p9 t k1]
    · obtain ⟨S, hS⟩ : ∃ S, S = pI (pI s5 12 0 62 (nI J)) 12 0 47 0 := ⟨_, rfl⟩
      rw [← hS] at t12 ⊢
      have e47 : gI S 12 0 47 = 0 := by rw [hS, gI_at]
      have e62 : gI S 12 0 62 = nI J := by rw [hS, gI_nk (by decide), gI_at]
      have j0 : jbn S = 0 := by
        unfold jbn
        rw [e47]
        rfl
      have l0 : pln S = J := by
        unfold pln nT
        rw [e62, nI_ti (by omega)]
        rfl
      have S0 : gI S 0 = gI s1 0 := by rw [hS, gI_ne (by decide), gI_ne (by decide), g2.1 0 (by decide) (by decide) (by decide), hu, gI_ne (by decide), gI_ne (by decide)]
      have S103 : gI S 103 = gI s1 103 := by rw [hS, gI_ne (by decide), gI_ne (by decide), g2.1 103 (by decide) (by decide) (by decide), hu, gI_ne (by decide), gI_ne (by decide)]
      have S1361 : gI S 1361 = gI s5 1361 := by rw [hS, gI_ne (by decide), gI_ne (by decide)]
      unfold vD
      rw [j0, l0]
      refine ⟨fun t ht => ?_, e47, by rw [S0, p8]; rfl, by decide, fun i hi => absurd hi (Nat.not_lt_zero _), fun i j f hi => absurd hi (Nat.not_lt_zero _), e62, by rw [S0, p7], d4, fun i hi => ?_⟩
      · rw [t12 100 (by decide) (by decide) (by decide) (by decide) (by decide) (by decide), t12 1345 (by decide) (by decide) (by decide) (by decide) (by decide) (by decide)]
        exact d1 t ht
      · rw [S103, S1361, p6 i hi, g44 i hi, w2 i hi]
