/-! judge: who pays -/
def CLR (R : Option (Nat × Int32 × Int32)) (s1 s2 : zSt) : Prop := match R with
  | none => f6_findLine_L10 zfuel s1 = some (0, s2)
  | some (l, pc, x) => f6_findLine_L10 zfuel s1 = some (1, s2) ∧ gI s2 6 0 4 = nI l ∧ gI s2 6 0 7 = pc ∧ gI s2 6 0 8 = x ∧ zch 2 pc = true ∧ l ≤ 1000 ∧ 0 ≤ x.toInt
def REF (R : Option (Nat × Int32 × Int32)) (s' : zSt) : Prop := match R with
  | none => gI s' 12 0 74 = -1
  | some (l, pc, x) => gI s' 12 0 74 = nI l ∧ gI s' 12 0 75 = zidx (zsbyt.getD 2 []) pc 0 ∧ gI s' 12 0 76 = x
/-- class and reference find the same line of a text that is right -/
theorem vd {b : Nat → Int32} {n : Nat} {H : Nat → Int32} (hv : wrR b n 0 0 0 = none) (hn : n ≤ 160) {σ0 : zSt} {v0 : Int32} (B0 : RB (bgT σ0 v0 (nI n)) b n) (hH0 : ∀ j, j < 9 → gI σ0 1371 0 j = H j) {s0 : zSt} {h0 : Nat} (C0 : CS s0 b n H h0) (p0 : gI s0 6 0 6 = 0) (l0 : gI s0 6 0 4 = 0) :
    ∃ R, (∀ s1 h1, CS s1 b n H h1 → gI s1 6 0 6 = 0 → gI s1 6 0 4 = 0 → ∃ s2, Ch s2 s1 ∧ CLR R s1 s2) ∧ ∀ σ v1, RB (bgT σ v1 (nI n)) b n → (∀ j, j < 9 → gI σ 1371 0 j = H j) → ∃ s', f12_readWarranty v1 (nI n) σ = some ((), s') ∧ LW s' σ ∧ REF R s' := by
  have hz := zfuel_pos (show n + 5 ≤ 10000 by omega)
  obtain ⟨s', e1, e2, -, e3⟩ := m_readWarranty B0 hH0
  have F := e3 hv
  obtain ⟨t0, c0, d0⟩ := F s0 h0 zfuel C0 p0 l0 (by omega)
  rcases d0 with ⟨d1, d2⟩ | ⟨l, pc, d1, d2, d3, d4, d5, d6, d7, d8, d9⟩
  · refine ⟨none, fun s1 h1 C hp h4 => ?_, fun σ v1 B hH => ?_⟩
    · obtain ⟨t1, c1, q⟩ := F s1 h1 zfuel C hp h4 (by omega)
      rcases q with ⟨-, q2⟩ | ⟨l, pc, q1, q2, -⟩
      · exact ⟨t1, c1, q2⟩
      · rw [d1] at q2
        exact absurd (show (0 : Int32) ≤ -1 by rw [q2]; exact le0 (by omega)) (by decide)
    · obtain ⟨s'', g1, g2, -, g3⟩ := m_readWarranty B hH
      refine ⟨s'', g1, g2, ?_⟩
      obtain ⟨t1, c1, q⟩ := g3 hv s0 h0 zfuel C0 p0 l0 (by omega)
      rcases q with ⟨q1, -⟩ | ⟨l, pc, q1, q2, q3, -⟩
      · exact q1
      · rw [d2] at q3
        have := congrArg (fun o : Option (Int32 × zSt) => match o with | some (r, _) => r | none => 7) q3
        exact absurd this (show ¬ (0 : Int32) = 1 by decide)
  · refine ⟨some (l, pc, gI t0 6 0 8), fun s1 h1 C hp h4 => ?_, fun σ v1 B hH => ?_⟩
    · obtain ⟨t1, c1, q⟩ := F s1 h1 zfuel C hp h4 (by omega)
      rcases q with ⟨q1, -⟩ | ⟨l', pc', q1, q2, q3, q4, q5, q6, q7, q8, -⟩
      · rw [d2] at q1
        exact absurd (show (0 : Int32) ≤ -1 by rw [← q1]; exact le0 (by omega)) (by decide)
      · refine ⟨t1, c1, q3, ?_, ?_, ?_, d6, d1, by rw [d8]; exact d9⟩
        · rw [q4, ← q2, d2]
        · rw [q5]
          rw [d7] at q7
          rcases zch2_or d6 with e | e | e | e | e <;> rcases zch2_or q6 with e' | e' | e' | e' | e' <;> rw [e, e'] at q7 <;> rw [e, e'] <;> first | rfl | exact absurd q7 (by decide +kernel)
        · rw [q8, d8]
    · obtain ⟨s'', g1, g2, -, g3⟩ := m_readWarranty B hH
      refine ⟨s'', g1, g2, ?_⟩
      obtain ⟨t1, c1, q⟩ := g3 hv s0 h0 zfuel C0 p0 l0 (by omega)
      rcases q with ⟨-, q2⟩ | ⟨l', pc', q1, q2, q3, q4, q5, q6, q7, q8, -⟩
      · rw [d3] at q2
        have := congrArg (fun o : Option (Int32 × zSt) => match o with | some (r, _) => r | none => 7) q2
        exact absurd this (show ¬ (1 : Int32) = 0 by decide)
      · rw [d3] at q3
        have e : t0 = t1 := by
          have := Option.some.inj q3
          exact (Prod.mk.inj this).2
        subst e
        refine ⟨?_, ?_, ?_⟩
        · rw [q2, ← q4, d4]
        · rw [q7, ← q5, d5]
        · rw [← q8]
/-- the class sets what was decided -/
theorem c_set (a b c d : Int32) (σ : zSt) : ∃ s, f6_set a b c d σ = some ((), s) ∧ Ch s σ ∧ gI s 6 0 1 = a ∧ gI s 6 0 2 = b ∧ gI s 6 0 3 = c ∧ gI s 6 0 4 = d := by
  refine ⟨pI (pI (pI (pI σ 6 0 1 a) 6 0 2 b) 6 0 3 c) 6 0 4 d, ?_, (((Ch.rf.I rfl).I rfl).I rfl).I rfl, ?_, ?_, ?_, gI_at'⟩
  · unfold f6_set
    rw [zlt_s, zlt_s, zlt_s, zlt_s]
  · rw [gI_nk (by decide), gI_nk (by decide), gI_nk (by decide), gI_at]
  · rw [gI_nk (by decide), gI_nk (by decide), gI_at]
  · rw [gI_nk (by decide), gI_at]
/-- what is decided: who, what the owner pays, what the other pays, by which line -/
def dcd4 (R : Option (Nat × Int32 × Int32)) (p cr : Int32) : Int32 × Int32 × Int32 × Int32 := match R with
  | none => (2, p, 0, -1)
  | some (l, pc, x) =>
    let w : Int32 := if pc = 98 then 0 else if pc = 99 then (if cr = -1 then 0 else 10 + cr) else if pc = 118 then 3 else if pc = 119 then 1 else 2
    (w, if w = 3 then 0 else if w = 2 then p else zmin x p, if w = 3 then 0 else if w = 2 then 0 else p - zmin x p, nI l)
def V4 (s : zSt) (t k : Nat) (w : Int32 × Int32 × Int32 × Int32) : Prop := gI s t 0 k = w.1 ∧ gI s t 0 (k + 1) = w.2.1 ∧ gI s t 0 (k + 2) = w.2.2.1 ∧ gI s t 0 (k + 3) = w.2.2.2
theorem ten_ne {cr : Int32} (h : cr = -1 ∨ (0 ≤ cr.toInt ∧ cr.toInt ≤ 9)) : ¬ (if cr = -1 then (0 : Int32) else 10 + cr) = 3 ∧ ¬ (if cr = -1 then (0 : Int32) else 10 + cr) = 2 := by
  rcases h with h | h
  · rw [if_pos h]
    exact ⟨by decide, by decide⟩
  · have : cr ≠ -1 := fun e => by
      rw [e] at h
      revert h
      decide
    have e1 : (10 + cr).toInt = 10 + cr.toInt := by
      rw [i_addp (by simp only [Int32.reduceToInt]; omega)]
      rfl
    rw [if_neg this]
    constructor
    · intro e
      rw [i_eq, e1] at e
      simp only [Int32.reduceToInt] at e
      omega
    · intro e
      rw [i_eq, e1] at e
      simp only [Int32.reduceToInt] at e
      omega
/-- the class decides by a line -/
theorem c_decideBy {b : Nat → Int32} {n : Nat} {H : Nat → Int32} {σ : zSt} {t : Nat} {R : Option (Nat × Int32 × Int32)} (hR : ∀ s1 h1, CS s1 b n H h1 → gI s1 6 0 6 = 0 → gI s1 6 0 4 = 0 → ∃ s2, Ch s2 s1 ∧ CLR R s1 s2) (C : CS (pR σ 6 0 5 (some t)) b n H t) (p cr : Int32) (hcr : cr = -1 ∨ (0 ≤ cr.toInt ∧ cr.toInt ≤ 9)) : ∃ s, f6_decideBy t p cr σ = some ((), s) ∧ Ch s (pR σ 6 0 5 (some t)) ∧ V4 s 6 1 (dcd4 R p cr) := by
  have C2 : CS (pI (pI (pR σ 6 0 5 (some t)) 6 0 6 0) 6 0 4 0) b n H t := CS_p (CS_p C)
  obtain ⟨s2, h1, h2⟩ := hR _ t C2 (by rw [gI_nk (by decide), gI_at]) gI_at'
  have c2 : Ch s2 (pR σ 6 0 5 (some t)) := h1.tr ((Ch.rf.I rfl).I rfl)
  have fl : f6_findLine (pR σ 6 0 5 (some t)) = f6_findLine_L10 zfuel (pI (pI (pR σ 6 0 5 (some t)) 6 0 6 0) 6 0 4 0) := by
    unfold f6_findLine
    rw [zlt_s, zlt_s]
  unfold f6_decideBy
  rw [zlt_s, fl]
  cases R with
  | none =>
    have h2 : _ = some ((0 : Int32), s2) := h2
    obtain ⟨s, q1, q2, q3⟩ := c_set 2 p 0 (-1) s2
    refine ⟨s, ?_, q2.tr c2, q3⟩
    rw [h2, zc2_s]
    dsimp only
    unfold f6_ownerPaysAll
    rw [if_pos rfl, q1, zc2_s, zc2_s]
  | some w =>
    obtain ⟨l, pc, x⟩ := w
    obtain ⟨h2, h3, h4, h5, h6, h7, -⟩ := h2
    rw [h2, zc2_s]
    dsimp only
    rw [if_neg (by decide), zlt_s, zlt_s, h4, h5, h3]
    obtain ⟨n3, n2⟩ := ten_ne hcr
    rcases zch2_or h6 with rfl | rfl | rfl | rfl | rfl
    · obtain ⟨s, q1, q2, q3, q4, q5, q6⟩ := c_set 0 (zmin x p) (p - zmin x p) (nI l) s2
      refine ⟨s, ?_, q2.tr c2, q3, q4, q5, q6⟩
      rw [if_pos rfl, q1, zc2_s]
    · obtain ⟨s, q1, q2, q3, q4, q5, q6⟩ := c_set 1 (zmin x p) (p - zmin x p) (nI l) s2
      refine ⟨s, ?_, q2.tr c2, q3, q4, q5, q6⟩
      rw [if_neg (by decide), if_neg (by decide), if_neg (by decide), if_pos rfl, q1, zc2_s]
    · obtain ⟨s, q1, q2, q3, q4, q5, q6⟩ := c_set 2 p 0 (nI l) s2
      refine ⟨s, ?_, q2.tr c2, q3, q4, q5, q6⟩
      rw [if_neg (by decide), if_neg (by decide), if_neg (by decide), if_neg (by decide), q1, zc2_s]
    · obtain ⟨s, q1, q2, q3, q4, q5, q6⟩ := c_set (if cr = -1 then 0 else 10 + cr) (zmin x p) (p - zmin x p) (nI l) s2
      refine ⟨s, ?_, q2.tr c2, q3, ?_, ?_, q6⟩
      · rw [if_neg (by decide), if_pos rfl, q1, zc2_s]
      · rw [q4]
        show zmin x p = if (if cr = -1 then (0 : Int32) else 10 + cr) = 3 then 0 else if (if cr = -1 then (0 : Int32) else 10 + cr) = 2 then p else zmin x p
        rw [if_neg n3, if_neg n2]
      · rw [q5]
        show p - zmin x p = if (if cr = -1 then (0 : Int32) else 10 + cr) = 3 then 0 else if (if cr = -1 then (0 : Int32) else 10 + cr) = 2 then 0 else p - zmin x p
        rw [if_neg n3, if_neg n2]
    · obtain ⟨s, q1, q2, q3, q4, q5, q6⟩ := c_set 3 0 0 (nI l) s2
      refine ⟨s, ?_, q2.tr c2, q3, q4, q5, q6⟩
      rw [if_neg (by decide), if_neg (by decide), if_pos rfl, q1, zc2_s]
/-- so does the reference -/
noncomputable def jdK (v1 x2 r3 r11 r12 : Int32) (s14 : zSt) : Option (Unit × zSt) :=
  zlt (zlt (pI s14 12 0 78 2) fun s19 =>
  zlt (pI s19 12 0 79 r3) fun s20 =>
  zlt (pI s20 12 0 80 0) fun s21 =>
  some ((), s21)) fun j17 =>
  if r11 < 0 then (j17) else
  if 0 ≤ (gI s14 12 0 74) then (zlt (pI s14 12 0 81 (gI s14 12 0 74)) fun s22 =>
  zlt (if r3 ≤ (gI s22 12 0 76) then r3 else (gI s22 12 0 76) : Int32) fun x27 =>
  zlt (fun (a28 : Int32) =>
  zlt (pI s22 12 0 78 (if (gI s22 12 0 75) = 0 then 0 else (if (gI s22 12 0 75) = 3 then (if 0 ≤ a28 then (if (gI s22 12 0 75) = 1 then 1 else (if (gI s22 12 0 75) = 2 then 2 else (if (gI s22 12 0 75) = 4 then 3 else (10 + a28)))) else 0) else (if (gI s22 12 0 75) = 1 then 1 else (if (gI s22 12 0 75) = 2 then 2 else (if (gI s22 12 0 75) = 4 then 3 else (10 + a28))))))) fun s59 =>
  zlt (pI s59 12 0 79 (if (gI s59 12 0 78) = 3 then 0 else (if (gI s59 12 0 78) = 2 then r3 else x27))) fun s67 =>
  zlt (pI s67 12 0 80 (if (gI s67 12 0 78) = 3 then 0 else (if (gI s67 12 0 78) = 2 then 0 else (r3 - x27)))) fun s75 =>
  some ((), s75)) fun j29 =>
  if r12 < 0 then (zix v1 200 fun m76 =>
  zix (gI s22 1320 0 m76) 20 fun m77 =>
  zix ((10 * x2) + (gI s22 1314 0 m77)) 400 fun m78 =>
  j29 (gI s22 1309 0 m78)) else
  j29 (gI s22 12 0 56)) else
  j17
theorem judged_eq (v1 : Int32) (σ : zSt) : f12_judged v1 σ = zix v1 200 fun m1 =>
  zlt (gI σ 1318 0 m1 : Int32) fun x2 =>
  zc1 (f12_priceOf v1 σ) fun r3 =>
  zlt (pI σ 12 0 78 0) fun s4 =>
  zlt (pI s4 12 0 79 0) fun s5 =>
  zlt (pI s5 12 0 80 r3) fun s6 =>
  zlt (pI s6 12 0 81 (-1)) fun s7 =>
  zix x2 40 fun m8 =>
  if (gI s7 1305 0 m8) < 0 then (some ((), s7)) else
  zix v1 200 fun m9 =>
  zix x2 40 fun m10 =>
  if (gI s7 1305 0 m10) ≤ (gI s7 1322 0 m9) then (zc1 (f12_force 0 x2 (gI s7 12 0 0) s7) fun r11 =>
  zc2 (f12_damageBy v1 s7) fun r12 s13 =>
  if r11 < 0 then (jdK v1 x2 r3 r11 r12 s13) else
  zc2 (f12_nameFault v1 r12 s13) fun _ s80 =>
  zix r11 20 fun m81 =>
  zc2 (f12_readWarranty (160 * r11) (gI s80 1351 0 m81) s80) fun _ s83 =>
  jdK v1 x2 r3 r11 r12 s83) else
  some ((), s7) := by
  unfold f12_judged
  rfl
theorem m_dec {R : Option (Nat × Int32 × Int32)} {s : zSt} {f h i : Nat} {p r12 cr : Int32} (hi : i < 1000) (hR : REF R s) (hpc : ∀ l pc x, R = some (l, pc, x) → zch 2 pc = true ∧ l ≤ 1000) (hcr : cr = -1 ∨ (0 ≤ cr.toInt ∧ cr.toInt ≤ 9)) (h81 : gI s 12 0 81 = -1)
    (hc : ∀ (s' : zSt) (K : Int32 → Option (Unit × zSt)), (∀ t, t ≠ 12 → gI s' t = gI s t) → gI s' 12 0 56 = gI s 12 0 56 → (if r12 < 0 then (zix (nI f) 200 fun m76 => zix (gI s' 1320 0 m76) 20 fun m77 => zix ((10 * (nI h)) + (gI s' 1314 0 m77)) 400 fun m78 => K (gI s' 1309 0 m78)) else K (gI s' 12 0 56)) = K cr) :
    ∃ s', jdK (nI f) (nI h) p (nI i) r12 s = some ((), s') ∧ Ch s' s ∧ V4 s' 12 78 (dcd4 R p cr) := by
  unfold jdK
  rw [zlt_s, if_neg (nn0 (by omega))]
  cases R with
  | none =>
    have hR : gI s 12 0 74 = -1 := hR
    refine ⟨pI (pI (pI s 12 0 78 2) 12 0 79 p) 12 0 80 0, ?_, ((Ch.rf.I rfl).I rfl).I rfl, ?_, ?_, gI_at', ?_⟩
    · rw [hR, if_neg (by decide), zlt_s, zlt_s, zlt_s]
    · rw [gI_nk (by decide), gI_nk (by decide), gI_at]
      rfl
    · rw [gI_nk (by decide), gI_at]
      rfl
    · rw [gI_nk (by decide), gI_nk (by decide), gI_nk (by decide), h81]
      rfl
  | some w =>
    obtain ⟨l, pc, x⟩ := w
    obtain ⟨r1, r2, r3⟩ := hR
    obtain ⟨c1, c2⟩ := hpc l pc x rfl
    obtain ⟨n3, n2⟩ := ten_ne hcr
    have zm : (if p ≤ x then p else x) = zmin x p := by
      unfold zmin
      by_cases q : p ≤ x
      · rw [if_pos q]
        by_cases q2 : p < x
        · rw [if_pos q2]
        · rw [if_neg q2]
          rw [i_le] at q
          rw [i_lt] at q2
          rw [i_eq]
          omega
      · rw [if_neg q, if_neg (by rw [i_le] at q; rw [i_lt]; omega)]
    have cge : (0 ≤ cr) ↔ ¬ cr = -1 := by
      rcases hcr with e | e
      · rw [e]; decide
      · constructor
        · intro _ e2
          rw [e2] at e
          revert e
          decide
        · intro _
          rw [i_le]
          simp only [Int32.reduceToInt]
          omega
    have g75 : gI (pI s 12 0 81 (nI l)) 12 0 75 = zidx (zsbyt.getD 2 []) pc 0 := by rw [gI_nk (by decide), r2]
    have g76 : gI (pI s 12 0 81 (nI l)) 12 0 76 = x := by rw [gI_nk (by decide), r3]
    rw [r1, if_pos (le0 (by omega)), zlt_s, zlt_s, zlt_s, g75, g76, zm]
    rw [hc (pI s 12 0 81 (nI l)) (fun a28 => zlt (pI (pI s 12 0 81 (nI l)) 12 0 78 (if zidx (zsbyt.getD 2 []) pc 0 = 0 then 0 else (if zidx (zsbyt.getD 2 []) pc 0 = 3 then (if 0 ≤ a28 then (if zidx (zsbyt.getD 2 []) pc 0 = 1 then 1 else (if zidx (zsbyt.getD 2 []) pc 0 = 2 then 2 else (if zidx (zsbyt.getD 2 []) pc 0 = 4 then 3 else (10 + a28)))) else 0) else (if zidx (zsbyt.getD 2 []) pc 0 = 1 then 1 else (if zidx (zsbyt.getD 2 []) pc 0 = 2 then 2 else (if zidx (zsbyt.getD 2 []) pc 0 = 4 then 3 else (10 + a28))))))) fun s59 =>
      zlt (pI s59 12 0 79 (if (gI s59 12 0 78) = 3 then 0 else (if (gI s59 12 0 78) = 2 then p else zmin x p))) fun s67 =>
      zlt (pI s67 12 0 80 (if (gI s67 12 0 78) = 3 then 0 else (if (gI s67 12 0 78) = 2 then 0 else (p - zmin x p)))) fun s75 =>
      some ((), s75)) (fun t ht => gI_ne ht) (gI_nk (by decide) 0)]
    have W : (if zidx (zsbyt.getD 2 []) pc 0 = 0 then (0 : Int32) else (if zidx (zsbyt.getD 2 []) pc 0 = 3 then (if 0 ≤ cr then (if zidx (zsbyt.getD 2 []) pc 0 = 1 then 1 else (if zidx (zsbyt.getD 2 []) pc 0 = 2 then 2 else (if zidx (zsbyt.getD 2 []) pc 0 = 4 then 3 else (10 + cr)))) else 0) else (if zidx (zsbyt.getD 2 []) pc 0 = 1 then 1 else (if zidx (zsbyt.getD 2 []) pc 0 = 2 then 2 else (if zidx (zsbyt.getD 2 []) pc 0 = 4 then 3 else (10 + cr)))))) = (dcd4 (some (l, pc, x)) p cr).1 := by
      rcases zch2_or c1 with rfl | rfl | rfl | rfl | rfl
      · rfl
      · rfl
      · rfl
      · show (if 0 ≤ cr then 10 + cr else 0) = if cr = -1 then 0 else 10 + cr
        by_cases q : cr = -1
        · rw [if_pos q, if_neg (fun h => cge.mp h q)]
        · rw [if_neg q, if_pos (cge.mpr q)]
      · rfl
    rw [W, zlt_s, gI_at, zlt_s, gI_nk (show ¬ (12 = 12 ∧ 78 = 79) by decide), gI_at, zlt_s]
    refine ⟨_, rfl, (((Ch.rf.I rfl).I rfl).I rfl).I rfl, ?_, ?_, ?_, ?_⟩
    · rw [gI_nk (by decide), gI_nk (by decide), gI_at]
    · rw [gI_nk (by decide), gI_at]
      rfl
    · rw [gI_at]
      rfl
    · rw [gI_nk (by decide), gI_nk (by decide), gI_nk (by decide), gI_at]
      rfl
theorem dcd4_in {R : Option (Nat × Int32 × Int32)} {p cr : Int32} (hp : btw 1 p 13487) (hx : ∀ l pc x, R = some (l, pc, x) → 0 ≤ x.toInt) : 0 ≤ (dcd4 R p cr).2.2.1.toInt := by
  have p1 : 1 ≤ p.toInt := hp.1
  have p2 : p.toInt ≤ 13487 := hp.2
  cases R with
  | none => exact (by decide : 0 ≤ (0 : Int32).toInt)
  | some w =>
    obtain ⟨l, pc, x⟩ := w
    have x1 := hx l pc x rfl
    have key : 0 ≤ (p - zmin x p).toInt := by
      unfold zmin
      by_cases c : p < x
      · rw [if_pos c, i_subp (by omega)]
        omega
      · rw [if_neg c, i_subp (by rw [i_lt] at c; omega)]
        rw [i_lt] at c
        omega
    have z : 0 ≤ (0 : Int32).toInt := by decide
    have gen : ∀ w : Int32, 0 ≤ (if w = 3 then (0 : Int32) else if w = 2 then 0 else p - zmin x p).toInt := fun w => by
      by_cases c : w = 3
      · rw [if_pos c]; exact z
      · rw [if_neg c]
        by_cases c2 : w = 2
        · rw [if_pos c2]; exact z
        · rw [if_neg c2]; exact key
    exact gen _
