/-! plans: the reference's search, step by step -/
noncomputable def goBd (go : Int32 → Int32 → Int32 → Int32 → zSt → Option (Unit × zSt)) (v1 v2 v3 v4 : Int32) (σ : zSt) : Option (Unit × zSt) :=
  if v1 = (gI σ 12 0 47) then (zc1 (f12_isLess v2 v3 v4 σ) fun r30 =>
  if r30 = 0 then (some ((), σ)) else
  zlt (pI σ 12 0 63 v2) fun s31 =>
  zlt (pI s31 12 0 64 v3) fun s32 =>
  zlt (pI s32 12 0 65 v4) fun s33 =>
  b12_go_L206 go zfuel 0 s33) else
  zix v1 7 fun m39 =>
  zlt (gI σ 1346 0 m39 : Int32) fun x40 =>
  zix x40 200 fun m41 =>
  zix (gI σ 1320 0 m41) 20 fun m42 =>
  zlt (gI σ 1314 0 m42 : Int32) fun x43 =>
  zlt (gI σ 12 0 0 : Int32) fun x44 =>
  b12_go_L264 go v1 v2 v3 v4 x40 x43 (fun (s63 : zSt) =>
  zix v1 7 fun m64 =>
  zlt (pI s63 1360 0 m64 (-1)) fun s65 =>
  zix x40 200 fun m66 =>
  zc2 (go (v1 + 1) (v2 + (gI s65 1321 0 m66)) (v3 + 1) v4 s65) fun _ s68 =>
  some ((), s68)) zfuel x44 σ
theorem go_eq (go : Int32 → Int32 → Int32 → Int32 → zSt → Option (Unit × zSt)) (v1 v2 v3 v4 : Int32) (σ : zSt) : b12_go go v1 v2 v3 v4 σ = b12_go_L13 go v1 v2 v3 v4 σ (fun a25 a26 a27 => if (gI σ 12 0 63) < 0 then goBd go v1 v2 v3 v4 σ else if (gI σ 12 0 63) < a25 then (some ((), σ)) else if a25 = (gI σ 12 0 63) then (if (gI σ 12 0 64) < a26 then (some ((), σ)) else if a26 = (gI σ 12 0 64) then (if a27 < (gI σ 12 0 65) then goBd go v1 v2 v3 v4 σ else some ((), σ)) else goBd go v1 v2 v3 v4 σ) else goBd go v1 v2 v3 v4 σ) zfuel v2 v3 v4 v1 := by
  unfold b12_go
  rfl
theorem Bst_T {σ s : zSt} {J q : Nat} {B : Option (Nat → Nat)} (hB : Bst σ s J q B) {k : Nat} {v : Int32} : Bst σ (pI s 1360 0 k v) J q B := by
  cases B with
  | none =>
    show gI (pI s 1360 0 k v) 12 0 63 = -1
    rw [gI_ne (by decide)]
    exact hB
  | some β =>
    obtain ⟨v1, v2, v3, v4⟩ := hB
    exact ⟨by rw [gI_ne (by decide)]; exact v1, by rw [gI_ne (by decide)]; exact v2, by rw [gI_ne (by decide)]; exact v3, fun k hk => by rw [gI_ne (by decide)]; exact v4 k hk⟩
theorem m_206 {σ s : zSt} {J q : Nat} {x : Nat → Nat} (go : Int32 → Int32 → Int32 → Int32 → zSt → Option (Unit × zSt)) (J7 : J ≤ 7) (g : GO s σ) (h47 : gI σ 12 0 47 = nI J) (T : Tr s q x J) : ∃ s', b12_go_L206 go zfuel 0 s = some ((), s') ∧ GO s' σ ∧ Tr s' q x J ∧ gI s' 12 = gI s 12 ∧ ∀ k, k < J → gI s' 1361 0 k = enc q (x k) := by
  have key : ∀ e k m s, k + e = J → e < m → GO s σ → Tr s q x J → (∀ j, j < k → gI s 1361 0 j = enc q (x j)) → ∃ s', b12_go_L206 go m (nI k) s = some ((), s') ∧ GO s' σ ∧ Tr s' q x J ∧ gI s' 12 = gI s 12 ∧ ∀ k, k < J → gI s' 1361 0 k = enc q (x k) := by
    intro e
    induction e with
    | zero =>
      intro k m s hk hm g T hp
      obtain ⟨m, rfl⟩ : ∃ r, m = r + 1 := ⟨m - 1, by omega⟩
      obtain rfl : k = J := by omega
      refine ⟨s, ?_, g, T, rfl, hp⟩
      rw [b12_go_L206, g.2.1 47 (by omega), h47, if_pos (zn_rle _)]
    | succ e ih =>
      intro k m s hk hm g T hp
      obtain ⟨m, rfl⟩ : ∃ r, m = r + 1 := ⟨m - 1, by omega⟩
      obtain ⟨s', q1, q2, q3, q4, q5⟩ := ih (k + 1) m (pI s 1361 0 k (gI s 1360 0 k)) (by omega) (by omega) g.P (fun j hj => by rw [gI_ne (by decide)]; exact T j hj) (fun j hj => by
        rw [gI_pI]
        by_cases c : j = k
        · rw [if_pos ⟨rfl, rfl, c⟩, c, T k (by omega)]
        · rw [if_neg (fun hh => c hh.2.2)]
          exact hp j (by omega))
      refine ⟨s', ?_, q2, q3, by rw [q4, gI_ne (by decide)], q5⟩
      rw [b12_go_L206, g.2.1 47 (by omega), h47, if_neg (zn_nle (show k < J by omega) (by omega)), zix_s (show k < 7 by omega) (by decide), zix_s (show k < 7 by omega) (by decide), zlt_s, nI_suc k (by omega), zlt_s, q1]
  exact key J 0 zfuel s (by omega) (zfuel_pos (by omega)) g T (fun j hj => absurd hj (Nat.not_lt_zero _))
theorem qG_lo {J i : Nat} {x y : Nat → Nat} (hi : i ≤ J) (J7 : J ≤ 7) (hy : ∀ k, k < J → y k ≤ 14) (e : ∀ k, k < i → y k = x k) : qG x i ≤ qG y J := by
  have h1 := (qG_tail (x := y) (i := i) (J - i) (by omega) (fun k hk => hy k (by omega))).1
  rw [show i + (J - i) = J by omega] at h1
  have h2 : qG y i = qG x i := nsu_cg i fun k hk => by rw [e k hk]
  omega
theorem nI_lt' {a b : Nat} (ha : a < 2 ^ 31) (hb : b < 2 ^ 31) : (nI a < nI b) = (a < b) := by
  rw [i_lt, nI_ti ha, nI_ti hb]
  apply propext
  omega
/-- all jobs have been tried -/
theorem goBd_J {σ s : zSt} {J D q : Nat} (h : RI σ) (P : PLC σ J D q) (g : GO s σ) (go : Int32 → Int32 → Int32 → Int32 → zSt → Option (Unit × zSt)) {x : Nat → Nat} {B : Option (Nat → Nat)} (T : Tr s q x J) (I : Inc D (jav σ q) (jtr σ) (jmn σ) x J) (hB : Bst σ s J q B) (hF : ∀ β, B = some β → Fe σ J D q β ∧ qG β J < qG x J) : ∃ s', goBd go (nI J) (nI (qW (jsv σ) (jlt σ q) x J)) (nI (qL x J)) (nI (qA q x J)) s = some ((), s') ∧ GoR σ J D q J x B (qG x J + dgp J) s' := by
  have J7 := P.2.1
  have fx := Inc_Fea J D _ _ _ I
  have dp := dgp_p J
  obtain ⟨u1, u2, u3⟩ := qb h P (x := x) (Nat.le_refl J) (fun k hk => (I k hk).1)
  have upd : ∀ c : Prop, (∀ β, B = some β → pkk σ J q x ≤ pkk σ J q β) → ∃ s', b12_go_L206 go zfuel 0 (pI (pI (pI s 12 0 63 (nI (qW (jsv σ) (jlt σ q) x J))) 12 0 64 (nI (qL x J))) 12 0 65 (nI (qA q x J))) = some ((), s') ∧ GoR σ J D q J x B (qG x J + dgp J) s' := fun _ hle => by
    obtain ⟨s', q1, q2, q3, q4, q5⟩ := m_206 (x := x) go J7 (((g.B (k := 63) (v := nI (qW (jsv σ) (jlt σ q) x J)) (by omega)).B (k := 64) (v := nI (qL x J)) (by omega)).B (k := 65) (v := nI (qA q x J)) (by omega)) P.1 (fun k hk => by rw [gI_ne (by decide), gI_ne (by decide), gI_ne (by decide)]; exact T k hk)
    refine ⟨s', q1, q2, q3, x, ⟨?_, ?_, ?_, q5⟩, fx, by omega, fun y hy e => ?_, hle⟩
    · rw [q4, gI_nk (by decide), gI_nk (by decide), gI_at]
    · rw [q4, gI_nk (by decide), gI_at]
    · rw [q4, gI_at]
    · exact Nat.le_of_eq (nsu_cg J fun k hk => by rw [e k hk])
  unfold goBd
  rw [g.2.1 47 (by omega), P.1, if_pos rfl]
  unfold f12_isLess
  cases B with
  | none =>
    have hB : gI s 12 0 63 = -1 := hB
    obtain ⟨s', q1, q2⟩ := upd True (fun β e => by cases e)
    refine ⟨s', ?_, q2⟩
    rw [hB, zlt_s, if_pos (by decide), zc1_s, if_neg (by decide), zlt_s, zlt_s, zlt_s, q1]
  | some β =>
    obtain ⟨b1, b2, b3, b4⟩ := hB
    obtain ⟨f1, f2⟩ := hF β rfl
    obtain ⟨w1, w2, w3⟩ := qb h P (x := β) (Nat.le_refl J) (fun k hk => (f1 k hk).1)
    obtain ⟨c1, c2, c3, c4⟩ := pck_lt (jsv σ) (jlt σ q) (q := q) (x := x) (y := β) J7 (fun k hk => (I k hk).1) (fun k hk => (f1 k hk).1)
    obtain ⟨d1, d2, d3, d4⟩ := pck_lt (jsv σ) (jlt σ q) (q := q) (x := β) (y := x) J7 (fun k hk => (f1 k hk).1) (fun k hk => (I k hk).1)
    have keep : pkk σ J q β ≤ pkk σ J q x → ∃ s', some ((), s) = some ((), s') ∧ GoR σ J D q J x (some β) (qG x J + dgp J) s' := fun hle => by
      refine ⟨s, rfl, g, T, β, ⟨b1, b2, b3, b4⟩, f1, by omega, fun y hy e => ?_, fun β0 e => by cases e; exact Nat.le_refl _⟩
      have : pkk σ J q y = pkk σ J q x := nsu_cg J fun k hk => by rw [e k hk]
      omega
    have up : pkk σ J q x ≤ pkk σ J q β → _ := fun hle => upd True (fun β' e => by cases e; exact hle)
    rw [b1, b2, b3, zlt_s, if_neg (nn0 (by omega)), zlt_s]
    simp only [nI_lt' (show qW (jsv σ) (jlt σ q) x J < 2 ^ 31 by omega) (show qW (jsv σ) (jlt σ q) β J < 2 ^ 31 by omega), nI_inj (show qW (jsv σ) (jlt σ q) x J < 2 ^ 31 by omega) (show qW (jsv σ) (jlt σ q) β J < 2 ^ 31 by omega), nI_lt' (show qL x J < 2 ^ 31 by omega) (show qL β J < 2 ^ 31 by omega), nI_inj (show qL x J < 2 ^ 31 by omega) (show qL β J < 2 ^ 31 by omega), i_le, nI_ti (show qA q x J < 2 ^ 31 by omega), nI_ti (show qA q β J < 2 ^ 31 by omega)]
    by_cases e1 : qW (jsv σ) (jlt σ q) x J < qW (jsv σ) (jlt σ q) β J
    · obtain ⟨s', q1, q2⟩ := up (Nat.le_of_lt (c1 e1))
      refine ⟨s', ?_, q2⟩
      rw [if_pos e1, zc1_s, if_neg (by decide), zlt_s, zlt_s, zlt_s, q1]
    · rw [if_neg e1]
      by_cases e2 : qW (jsv σ) (jlt σ q) x J = qW (jsv σ) (jlt σ q) β J
      · rw [if_pos e2]
        by_cases e3 : qL x J < qL β J
        · obtain ⟨s', q1, q2⟩ := up (Nat.le_of_lt (c2 e2 e3))
          refine ⟨s', ?_, q2⟩
          rw [if_pos e3, zc1_s, if_neg (by decide), zlt_s, zlt_s, zlt_s, q1]
        · rw [if_neg e3]
          by_cases e4 : qL x J = qL β J
          · rw [if_pos e4]
            by_cases e5 : (qA q β J : Int) ≤ qA q x J
            · rw [if_pos e5, zc1_s, if_pos rfl]
              refine keep ?_
              by_cases e6 : qA q β J = qA q x J
              · exact Nat.le_of_lt ((d4 e2.symm e4.symm e6).mpr f2)
              · exact Nat.le_of_lt (d3 e2.symm e4.symm (by omega))
            · obtain ⟨s', q1, q2⟩ := up (Nat.le_of_lt (c3 e2 e4 (by omega)))
              refine ⟨s', ?_, q2⟩
              rw [if_neg e5, zc1_s, if_neg (by decide), zlt_s, zlt_s, zlt_s, q1]
          · rw [if_neg e4, zc1_s, if_pos rfl]
            exact keep (Nat.le_of_lt (d2 e2.symm (by omega)))
      · rw [if_neg e2, zc1_s, if_pos rfl]
        exact keep (Nat.le_of_lt (d1 (by omega)))
/-- the days of one job -/
theorem goBd_lt {σ s : zSt} {J D q : Nat} (h : RI σ) (P : PLC σ J D q) (g : GO s σ) (go : Int32 → Int32 → Int32 → Int32 → zSt → Option (Unit × zSt)) {i : Nat} (hi : i < J) {x : Nat → Nat} {B : Option (Nat → Nat)} (T : Tr s q x i) (I : Inc D (jav σ q) (jtr σ) (jmn σ) x i) (hB : Bst σ s J q B) (hF : ∀ β, B = some β → Fe σ J D q β ∧ qG β J < qG x i)
    (rec : ∀ (x : Nat → Nat) (s : zSt) (B : Option (Nat → Nat)), GO s σ → Tr s q x (i + 1) → Inc D (jav σ q) (jtr σ) (jmn σ) x (i + 1) → Bst σ s J q B → (∀ β, B = some β → Fe σ J D q β ∧ qG β J < qG x (i + 1)) → ∃ s', go (nI (i + 1)) (nI (qW (jsv σ) (jlt σ q) x (i + 1))) (nI (qL x (i + 1))) (nI (qA q x (i + 1))) s = some ((), s') ∧ GoR σ J D q (i + 1) x B (qG x (i + 1) + dgp (i + 1)) s') :
    ∃ s', goBd go (nI i) (nI (qW (jsv σ) (jlt σ q) x i)) (nI (qL x i)) (nI (qA q x i)) s = some ((), s') ∧ GoR σ J D q i x B (qG x i + dgp i) s' := by
  have J7 := P.2.1
  obtain ⟨b1, b2, b3⟩ := P.2.2.2.1
  obtain ⟨a1, a2, a3, a4, a5, a6, a7, a8, a9, a10, a11, a12, a13, a14⟩ := j_st h P hi
  obtain ⟨u1, u2, u3⟩ := qb h P (x := x) (n := i) (by omega) (fun k hk => (I k hk).1)
  have x14 : ∀ k, k < i → x k ≤ 14 := fun k hk => (I k hk).1
  have s15 := dgp_s (i := i) (by omega)
  have s15' := dgp_s' (i := i) (by omega)
  -- the last one: without a day
  have last : ∀ s Bd, GO s σ → Tr s q x i → Bst σ s J q Bd → (∀ β, Bd = some β → Fe σ J D q β ∧ qG β J < qG x i + D * dgt i) → (∀ y, Fe σ J D q y → (∀ k, k < i → y k = x k) → y i < D → domB σ J q Bd y) → (∀ β0, B = some β0 → domB σ J q Bd β0) → ∃ s', (zix (nI i) 7 fun m64 => zlt (pI s 1360 0 m64 (-1)) fun s65 => zix (nI (jb σ i)) 200 fun m66 => zc2 (go (nI i + 1) (nI (qW (jsv σ) (jlt σ q) x i) + (gI s65 1321 0 m66)) (nI (qL x i) + 1) (nI (qA q x i)) s65) fun _ s68 => some ((), s68)) = some ((), s') ∧ GoR σ J D q i x B (qG x i + dgp i) s' := fun s Bd g T hB hF hdom hd0 => by
    have I' : Inc D (jav σ q) (jtr σ) (jmn σ) (upn x i 14) (i + 1) := Inc_u I (Nat.le_refl 14) (fun hh => absurd hh (Nat.lt_irrefl 14))
    have hDD : D * dgt i ≤ 14 * dgt i := Nat.mul_le_mul_right _ b2
    obtain ⟨s', r1, r2, r3, β, r4, r5, r6, r7, r8⟩ := rec (upn x i 14) (pI s 1360 0 i (-1)) Bd g.T (fun k hk => by
      rw [gI_pI]
      by_cases c : k = i
      · rw [if_pos ⟨rfl, rfl, c⟩, c, upn_at]; rfl
      · rw [if_neg (fun hh => c hh.2.2), upn_ne c]
        exact T k (by omega)) I' (Bst_T hB) (fun β e => by
      obtain ⟨v1, v2⟩ := hF β e
      refine ⟨v1, ?_⟩
      rw [qG_u]
      omega)
    rw [qW_u, qL_u, qA_u, show cWt (jsv σ) (jlt σ q) i 14 = jsv σ i from if_pos rfl, show cLf 14 = 1 from rfl, show cAb q 14 = 0 from rfl, Nat.add_zero (qA q x i)] at r1
    rw [qG_u, s15'] at r6
    refine ⟨s', ?_, r2, fun k hk => ?_, β, r4, r5, by omega, fun y hy e => ?_, fun β0 e => ?_⟩
    · rw [zix_s (show i < 7 by omega) (by decide), zlt_s, zix_s a3 (by decide), gI_ne (show 1321 ≠ 1360 by decide), g.1 1321 (by decide) (by decide) (by decide), a12, nI_suc i (by omega), nI_add' _ _ (by omega), nI_suc _ (by omega), r1, zc2_s]
    · have := r3 k (by omega)
      rw [upn_ne (by omega)] at this
      exact this
    · by_cases c : y i = 14
      · exact r7 y hy (fun k hk => by
          by_cases c2 : k = i
          · rw [c2, upn_at, c]
          · rw [upn_ne c2, e k (by omega)])
      · have h14 := (hy i hi).1
        obtain ⟨β1, k1, k2⟩ := hdom y hy e ((hy i hi).2 (by omega)).1
        exact Nat.le_trans (r8 β1 k1) k2
    · obtain ⟨β1, k1, k2⟩ := hd0 β0 e
      exact Nat.le_trans (r8 β1 k1) k2
  have key : ∀ e d m s Bd, d + e = D → e < m → GO s σ → Tr s q x i → Bst σ s J q Bd → (∀ β, Bd = some β → Fe σ J D q β ∧ qG β J < qG x i + d * dgt i) → (∀ y, Fe σ J D q y → (∀ k, k < i → y k = x k) → y i < d → domB σ J q Bd y) → (∀ β0, B = some β0 → domB σ J q Bd β0) → ∃ s', b12_go_L264 go (nI i) (nI (qW (jsv σ) (jlt σ q) x i)) (nI (qL x i)) (nI (qA q x i)) (nI (jb σ i)) (nI (jtr σ i)) (fun (s63 : zSt) => zix (nI i) 7 fun m64 => zlt (pI s63 1360 0 m64 (-1)) fun s65 => zix (nI (jb σ i)) 200 fun m66 => zc2 (go (nI i + 1) (nI (qW (jsv σ) (jlt σ q) x i) + (gI s65 1321 0 m66)) (nI (qL x i) + 1) (nI (qA q x i)) s65) fun _ s68 => some ((), s68)) m (nI (q + d)) s = some ((), s') ∧ GoR σ J D q i x B (qG x i + dgp i) s' := by
    intro e
    induction e with
    | zero =>
      intro d m s Bd hd hm g T hB hF hdom hd0
      obtain ⟨m, rfl⟩ : ∃ r, m = r + 1 := ⟨m - 1, by omega⟩
      obtain rfl : d = D := by omega
      rw [b12_go_L264, m_lastDay P g, zc1_s, if_pos (show nI (q + d - 1) < nI (q + d) by rw [nI_lt' (by omega) (by omega)]; omega)]
      exact last s Bd g T hB hF hdom hd0
    | succ e ih =>
      intro d m s Bd hd hm g T hB hF hdom hd0
      obtain ⟨m, rfl⟩ : ∃ r, m = r + 1 := ⟨m - 1, by omega⟩
      have mb := m_mayBe h P g hi d
      have bu := m_busy h P g (t := jtr σ i) (Nat.le_of_lt hi) (show d < 14 by omega) a9 x14 T
      have dm : (d + 1) * dgt i = d * dgt i + dgt i := Nat.succ_mul d (dgt i)
      have skip : (¬ (mbe (jav σ q) (jtr σ) (jmn σ) i d = true ∧ cdt (jtr σ) x d (jtr σ i) i < jmn σ (jtr σ i))) → ∀ y, Fe σ J D q y → (∀ k, k < i → y k = x k) → y i < d + 1 → domB σ J q Bd y := fun hn y hy ey hyd => by
        by_cases c : y i < d
        · exact hdom y hy ey c
        · exfalso
          have c : y i = d := by omega
          obtain ⟨f1, f2, f3⟩ := (Fea_Inc J D _ _ _ hy i hi).2 (by omega)
          rw [c] at f1 f2 f3
          rw [cdt_cg (jtr σ) (x := y) (y := x) d (jtr σ i) i ey] at f3
          refine hn ⟨?_, f3⟩
          unfold mbe
          rw [f2, decide_eq_true (show 0 < jmn σ (jtr σ i) by omega)]
          rfl
      rw [b12_go_L264, m_lastDay P g, zc1_s, if_neg (show ¬ nI (q + D - 1) < nI (q + d) by rw [nI_lt' (by omega) (by omega)]; omega), mb, zc1_s, zlt_s]
      dsimp only
      rw [bu, zc1_s, zix_s a9 (by decide), g.1 1345 (by decide) (by decide) (by decide), a10]
      by_cases c1 : mbe (jav σ q) (jtr σ) (jmn σ) i d = true
      · rw [if_neg (show ¬ b01 (mbe (jav σ q) (jtr σ) (jmn σ) i d) = 0 by rw [c1]; decide)]
        have cl := cnt_le (fun j => decide (x j = d) && decide (jtr σ j = jtr σ i)) i 0
        have cl : cdt (jtr σ) x d (jtr σ i) i ≤ i := cl
        by_cases c2 : cdt (jtr σ) x d (jtr σ i) i < jmn σ (jtr σ i)
        · rw [if_neg (show ¬ nI (jmn σ (jtr σ i)) ≤ nI (cdt (jtr σ) x d (jtr σ i) i) by rw [i_le, nI_ti (by omega), nI_ti (by omega)]; omega), zix_s (show i < 7 by omega) (by decide), zlt_s, zix_s a3 (by decide), zlt_s]
          have g' := g.T (k := i) (v := nI (q + d))
          have av1 : jav σ q i d = true := by
            unfold mbe at c1
            rw [Bool.and_eq_true] at c1
            exact c1.1
          have I' : Inc D (jav σ q) (jtr σ) (jmn σ) (upn x i d) (i + 1) := Inc_u I (by omega) (fun _ => ⟨by omega, av1, c2⟩)
          have T' : Tr (pI s 1360 0 i (nI (q + d))) q (upn x i d) (i + 1) := fun k hk => by
            rw [gI_pI]
            by_cases c : k = i
            · rw [if_pos ⟨rfl, rfl, c⟩, c, upn_at]
              unfold enc
              rw [if_neg (by omega)]
            · rw [if_neg (fun hh => c hh.2.2), upn_ne c]
              exact T k (by omega)
          have hB' : Bst σ (pI s 1360 0 i (nI (q + d))) J q Bd := Bst_T hB
          obtain ⟨s2, r1, r2, r3, β, r4, r5, r6, r7, r8⟩ := rec (upn x i d) _ Bd g' T' I' hB' (fun β e => by
            obtain ⟨v1, v2⟩ := hF β e
            refine ⟨v1, ?_⟩
            rw [qG_u]
            exact v2)
          rw [qW_u, qL_u, qA_u, show cLf d = 0 from if_neg (by omega), show cAb q d = q + d from if_neg (by omega), Nat.add_zero (qL x i)] at r1
          rw [qG_u, s15'] at r6
          have Wd : (if nI (q + d) ≤ gI σ 1331 0 (jb σ i) then (0 : Int32) else nI (jsv σ i)) = nI (cWt (jsv σ) (jlt σ q) i d) := by
            unfold cWt jlt
            rw [if_neg (show ¬ d = 14 by omega)]
            by_cases c : nI (q + d) ≤ gI σ 1331 0 (jb σ i)
            · rw [if_pos c, decide_eq_true c]; rfl
            · rw [if_neg c, decide_eq_false c]; rfl
          have cw := cWt_le (jsv σ) (jlt σ q) (i := i) (d := d) a14
          have call : ∀ a57, a57 = nI (cWt (jsv σ) (jlt σ q) i d) → go (nI i + 1) (nI (qW (jsv σ) (jlt σ q) x i) + a57) (nI (qL x i)) (nI (qA q x i) + nI (q + d)) (pI s 1360 0 i (nI (q + d))) = some ((), s2) := fun a57 ha => by
            rw [ha, nI_suc i (by omega), nI_add' _ _ (by omega), nI_add' _ _ (by omega)]
            exact r1
          obtain ⟨s', t1, t2⟩ := ih (d + 1) m s2 (some β) (by omega) (by omega) r2 (fun k hk => by
            have := r3 k (by omega)
            rw [upn_ne (by omega)] at this
            exact this) r4 (fun β' e => by
            cases e
            exact ⟨r5, by omega⟩) (fun y hy ey hyd => by
            by_cases c : y i < d
            · obtain ⟨β1, k1, k2⟩ := hdom y hy ey c
              exact ⟨β, rfl, Nat.le_trans (r8 β1 k1) k2⟩
            · exact ⟨β, rfl, r7 y hy (fun k hk => by
                by_cases c2 : k = i
                · rw [c2, upn_at]; omega
                · rw [upn_ne c2, ey k (by omega)])⟩) (fun β0 e0 => by
            obtain ⟨β1, k1, k2⟩ := hd0 β0 e0
            exact ⟨β, rfl, Nat.le_trans (r8 β1 k1) k2⟩)
          refine ⟨s', ?_, t2⟩
          rw [gI_ne (show 1331 ≠ 1360 by decide), g.1 1331 (by decide) (by decide) (by decide)]
          by_cases cz : nI (q + d) ≤ gI σ 1331 0 (jb σ i)
          · rw [if_pos cz] at Wd ⊢
            dsimp only
            rw [call 0 Wd, zc2_s]
            dsimp only
            rw [zlt_s, nI_suc (q + d) (by omega)]
            exact t1
          · rw [if_neg cz] at Wd ⊢
            rw [zix_s a3 (by decide), gI_ne (show 1321 ≠ 1360 by decide), g.1 1321 (by decide) (by decide) (by decide), a12]
            dsimp only
            rw [call _ Wd, zc2_s]
            dsimp only
            rw [zlt_s, nI_suc (q + d) (by omega)]
            exact t1
        · rw [if_pos (show nI (jmn σ (jtr σ i)) ≤ nI (cdt (jtr σ) x d (jtr σ i) i) by rw [i_le, nI_ti (by omega), nI_ti (by omega)]; omega), zlt_s, nI_suc (q + d) (by omega)]
          exact ih (d + 1) m s Bd (by omega) (by omega) g T hB (fun β e => ⟨(hF β e).1, by have := (hF β e).2; omega⟩) (skip fun hh => c2 hh.2) hd0
      · have c1' : mbe (jav σ q) (jtr σ) (jmn σ) i d = false := by
          cases e : mbe (jav σ q) (jtr σ) (jmn σ) i d
          · rfl
          · exact absurd e c1
        rw [if_pos (show b01 (mbe (jav σ q) (jtr σ) (jmn σ) i d) = 0 by rw [c1']; rfl), zlt_s, nI_suc (q + d) (by omega)]
        exact ih (d + 1) m s Bd (by omega) (by omega) g T hB (fun β e => ⟨(hF β e).1, by have := (hF β e).2; omega⟩) (skip fun hh => c1 hh.1) hd0
  obtain ⟨s', q1, q2⟩ := key D 0 zfuel s B (by omega) (zfuel_pos (by omega)) g T hB (fun β e => ⟨(hF β e).1, by have := (hF β e).2; omega⟩) (fun y _ _ hh => absurd hh (Nat.not_lt_zero _)) (fun β0 e => ⟨β0, e, Nat.le_refl _⟩)
  refine ⟨s', ?_, q2⟩
  unfold goBd
  rw [g.2.1 47 (by omega), P.1, if_neg (show ¬ nI i = nI J by rw [nI_inj (by omega) (by omega)]; omega), zix_s (show i < 7 by omega) (by decide), g.1 1346 (by decide) (by decide) (by decide), a1, zlt_s, zix_s a3 (by decide), g.1 1320 (by decide) (by decide) (by decide), a6, zix_s a7 (by decide), g.1 1314 (by decide) (by decide) (by decide), a8, zlt_s, g.2.1 0 (by omega), P.2.2.1, zlt_s]
  exact q1
theorem go_step {σ s : zSt} {J D q : Nat} (h : RI σ) (P : PLC σ J D q) (g : GO s σ) (go : Int32 → Int32 → Int32 → Int32 → zSt → Option (Unit × zSt)) {i : Nat} (hi : i ≤ J) {x : Nat → Nat} {B : Option (Nat → Nat)} (T : Tr s q x i) (I : Inc D (jav σ q) (jtr σ) (jmn σ) x i) (hB : Bst σ s J q B) (hF : ∀ β, B = some β → Fe σ J D q β ∧ qG β J < qG x i)
    (bd : ∃ s', goBd go (nI i) (nI (qW (jsv σ) (jlt σ q) x i)) (nI (qL x i)) (nI (qA q x i)) s = some ((), s') ∧ GoR σ J D q i x B (qG x i + dgp i) s') : ∃ s', b12_go go (nI i) (nI (qW (jsv σ) (jlt σ q) x i)) (nI (qL x i)) (nI (qA q x i)) s = some ((), s') ∧ GoR σ J D q i x B (qG x i + dgp i) s' := by
  have J7 := P.2.1
  obtain ⟨b1, b2, b3⟩ := P.2.2.2.1
  have dp := dgp_p i
  have x14 : ∀ k, k < i → x k ≤ 14 := fun k hk => (I k hk).1
  rw [go_eq, m_L13 h P g go _ _ _ _ _ hi x14]
  cases B with
  | none =>
    have hB : gI s 12 0 63 = -1 := hB
    rw [hB, if_pos (by decide)]
    exact bd
  | some β =>
    obtain ⟨v1, v2, v3, v4⟩ := hB
    obtain ⟨f1, f2⟩ := hF β rfl
    obtain ⟨z, hz⟩ : ∃ z, z = rlx D (jav σ q) (jtr σ) (jmn σ) x i := ⟨_, rfl⟩
    have z14 : ∀ k, k < J → z k ≤ 14 := fun k _ => by
      rw [hz]
      unfold rlx
      by_cases c : k < i
      · rw [if_pos c]; exact x14 k c
      · rw [if_neg c]; exact fdd_le D _ _ _ b2 k
    obtain ⟨w1, w2, w3⟩ := qb h P (x := β) (Nat.le_refl J) (fun k hk => (f1 k hk).1)
    obtain ⟨u1, u2, u3⟩ := qb h P (x := z) (Nat.le_refl J) z14
    rw [← hz, v1, v2, v3, if_neg (nn0 (by omega))]
    simp only [nI_lt' (show qW (jsv σ) (jlt σ q) β J < 2 ^ 31 by omega) (show qW (jsv σ) (jlt σ q) z J < 2 ^ 31 by omega), nI_inj (show qW (jsv σ) (jlt σ q) z J < 2 ^ 31 by omega) (show qW (jsv σ) (jlt σ q) β J < 2 ^ 31 by omega), nI_lt' (show qL β J < 2 ^ 31 by omega) (show qL z J < 2 ^ 31 by omega), nI_inj (show qL z J < 2 ^ 31 by omega) (show qL β J < 2 ^ 31 by omega), nI_lt' (show qA q z J < 2 ^ 31 by omega) (show qA q β J < 2 ^ 31 by omega)]
    have stop : (∀ y, Fe σ J D q y → (∀ k, k < i → y k = x k) → pkk σ J q β ≤ pkk σ J q y) → ∃ s', some ((), s) = some ((), s') ∧ GoR σ J D q i x (some β) (qG x i + dgp i) s' := fun hy => ⟨s, rfl, g, T, β, ⟨v1, v2, v3, v4⟩, f1, by omega, hy, fun β0 e => by cases e; exact Nat.le_refl _⟩
    have lo : ∀ y, Fe σ J D q y → (∀ k, k < i → y k = x k) → qW (jsv σ) (jlt σ q) z J ≤ qW (jsv σ) (jlt σ q) y J ∧ qL z J ≤ qL y J ∧ (qL z J = qL y J → qA q z J ≤ qA q y J) := fun y hy e => by
      rw [hz]
      exact rlx_lo J D (jav σ q) (jtr σ) (jmn σ) (jsv σ) (jlt σ q) b2 (jlt_m (by omega)) hy e
    have ord : ∀ y, Fe σ J D q y → _ := fun y hy => pck_lt (jsv σ) (jlt σ q) (q := q) (x := β) (y := y) J7 (fun k hk => (f1 k hk).1) (fun k hk => (hy k hk).1)
    by_cases e1 : qW (jsv σ) (jlt σ q) β J < qW (jsv σ) (jlt σ q) z J
    · rw [if_pos e1]
      refine stop fun y hy e => ?_
      obtain ⟨l1, l2, l3⟩ := lo y hy e
      exact Nat.le_of_lt ((ord y hy).1 (by omega))
    · rw [if_neg e1]
      by_cases e2 : qW (jsv σ) (jlt σ q) z J = qW (jsv σ) (jlt σ q) β J
      · rw [if_pos e2]
        by_cases e3 : qL β J < qL z J
        · rw [if_pos e3]
          refine stop fun y hy e => ?_
          obtain ⟨l1, l2, l3⟩ := lo y hy e
          by_cases c : qW (jsv σ) (jlt σ q) β J < qW (jsv σ) (jlt σ q) y J
          · exact Nat.le_of_lt ((ord y hy).1 c)
          · exact Nat.le_of_lt ((ord y hy).2.1 (by omega) (by omega))
        · rw [if_neg e3]
          by_cases e4 : qL z J = qL β J
          · rw [if_pos e4]
            by_cases e5 : qA q z J < qA q β J
            · rw [if_pos e5]
              exact bd
            · rw [if_neg e5]
              refine stop fun y hy e => ?_
              obtain ⟨l1, l2, l3⟩ := lo y hy e
              have lg := qG_lo hi J7 (fun k hk => (hy k hk).1) e
              by_cases c : qW (jsv σ) (jlt σ q) β J < qW (jsv σ) (jlt σ q) y J
              · exact Nat.le_of_lt ((ord y hy).1 c)
              · have cw : qW (jsv σ) (jlt σ q) β J = qW (jsv σ) (jlt σ q) y J := by omega
                by_cases c2 : qL β J < qL y J
                · exact Nat.le_of_lt ((ord y hy).2.1 cw c2)
                · have cl : qL β J = qL y J := by omega
                  have l3 := l3 (by omega)
                  by_cases c3 : qA q β J < qA q y J
                  · exact Nat.le_of_lt ((ord y hy).2.2.1 cw cl c3)
                  · exact Nat.le_of_lt (((ord y hy).2.2.2 cw cl (by omega)).mpr (by omega))
          · rw [if_neg e4]
            exact bd
      · rw [if_neg e2]
        exact bd
theorem m_go {σ : zSt} {J D q : Nat} (h : RI σ) (P : PLC σ J D q) : ∀ e i dpt (x : Nat → Nat) (s : zSt) (B : Option (Nat → Nat)), i + e = J → e < dpt → GO s σ → Tr s q x i → Inc D (jav σ q) (jtr σ) (jmn σ) x i → Bst σ s J q B → (∀ β, B = some β → Fe σ J D q β ∧ qG β J < qG x i) → ∃ s', g12_go dpt (nI i) (nI (qW (jsv σ) (jlt σ q) x i)) (nI (qL x i)) (nI (qA q x i)) s = some ((), s') ∧ GoR σ J D q i x B (qG x i + dgp i) s' := by
  have J7 := P.2.1
  obtain ⟨b1, b2, b3⟩ := P.2.2.2.1
  intro e
  induction e with
  | zero =>
    intro i dpt x s B hi hd g T I hB hF
    obtain ⟨dpt, rfl⟩ : ∃ r, dpt = r + 1 := ⟨dpt - 1, by omega⟩
    obtain rfl : i = J := by omega
    exact go_step h P g (g12_go dpt) (Nat.le_refl i) T I hB hF (goBd_J h P g (g12_go dpt) T I hB hF)
  | succ e ih =>
    intro i dpt x s B hi hd g T I hB hF
    obtain ⟨dpt, rfl⟩ : ∃ r, dpt = r + 1 := ⟨dpt - 1, by omega⟩
    refine go_step h P g (g12_go dpt) (by omega) T I hB hF ?_
    exact goBd_lt h P g (g12_go dpt) (show i < J by omega) T I hB hF (fun x s B g T I hB hF => ih (i + 1) dpt x s B (by omega) (by omega) g T I hB hF)
