/-! plans: the class, all days -/
theorem cst_e {sv : Nat → Nat} {lt : Nat → Nat → Bool} {i : Nat} (h : sv i ≤ 9) : Int32.toInt64 (nI (sv i)) * 174960000000 + 21870000000 + 14 * zL (dgt i) = zL (cst sv lt i 14) := by
  have h2 := (dgt_b i).2
  rw [zL_i (by omega), show (174960000000 : Int64) = zL 174960000000 from rfl, show (21870000000 : Int64) = zL 21870000000 from rfl, show (14 : Int64) = zL 14 from rfl, zL_mul (by omega) (by omega) (by omega), zL_mul (by omega) (by omega) (by omega), zL_add (by omega), zL_add (by omega)]
  have e1 : cWt sv lt i 14 = sv i := if_pos rfl
  have e2 : cLf 14 = 1 := rfl
  have e3 : cSm 14 = 0 := rfl
  unfold cst
  rw [e1, e2, e3]
theorem sdy_b {J : Nat} {sv : Nat → Nat} {lt : Nat → Nat → Bool} {d A : Nat} (h : ∀ i, i < J → sv i ≤ 9) (hd : d ≤ 14) : ∀ n, n ≤ J → nsu (fun i => if A.testBit i = true then cst sv lt i d else 0) n ≤ 2000000000000 * n := fun n hn =>
  nsu_bd n fun i hi => by
    show (if A.testBit i = true then cst sv lt i d else 0) ≤ 2000000000000
    split
    · exact cst_b (h i (by omega)) hd
    · exact Nat.zero_le _
theorem e_priceWithout {s σ : zSt} {J q : Nat} (C : JCL σ J) (g : CO s σ) {A : Nat} (hA : A < 2 ^ J) : f0_priceWithout (nI A) s = some (zL (sdy J (jsv σ) (jlt σ q) 14 A)) := by
  obtain ⟨c1, J7, c3⟩ := C
  have p7 : 2 ^ J ≤ 128 := Nat.pow_le_pow_right (by decide) J7
  have e2 : gI s 0 0 2 = nI J := by rw [g.2 0 (by decide), c1]
  have sb := sdy_b (J := J) (sv := jsv σ) (lt := jlt σ q) (d := 14) (A := A) (fun i hi => (c3 i hi).2.2.2.2.2.2.2.2.1) (Nat.le_refl _)
  unfold f0_priceWithout
  have key : ∀ e k m, k + e = J → e < m → f0_priceWithout_L5 (nI A) s m (zL (nsu (fun i => if A.testBit i = true then cst (jsv σ) (jlt σ q) i 14 else 0) k)) (nI k) = some (zL (sdy J (jsv σ) (jlt σ q) 14 A)) := by
    intro e
    induction e with
    | zero =>
      intro k m hk hm
      obtain ⟨m, rfl⟩ : ∃ r, m = r + 1 := ⟨m - 1, by omega⟩
      obtain rfl : k = J := by omega
      rw [f0_priceWithout_L5, e2, if_pos (zn_rle _)]
      rfl
    | succ e ih =>
      intro k m hk hm
      obtain ⟨m, rfl⟩ : ∃ r, m = r + 1 := ⟨m - 1, by omega⟩
      have hkJ : k < J := by omega
      obtain ⟨a1, a2, a3, a4, a5, a6, a7, a8, a9, a10, a11⟩ := c3 k hkJ
      have ih := ih (k + 1) m (by omega) (by omega)
      have b1 := sb k (by omega)
      have b2 := cst_b (sv := jsv σ) (lt := jlt σ q) (i := k) (d := 14) a9 (by omega)
      have es : nsu (fun i => if A.testBit i = true then cst (jsv σ) (jlt σ q) i 14 else 0) (k + 1) = nsu (fun i => if A.testBit i = true then cst (jsv σ) (jlt σ q) i 14 else 0) k + (if A.testBit k = true then cst (jsv σ) (jlt σ q) k 14 else 0) := rfl
      rw [es] at ih
      generalize nsu (fun i => if A.testBit i = true then cst (jsv σ) (jlt σ q) i 14 else 0) k = S at b1 ih ⊢
      rw [f0_priceWithout_L5, e2, if_neg (zn_nle hkJ (by omega))]
      simp only [zlt_s, bit_1 A (by omega) k (by omega), zix_s (show k < 7 by omega) (show 7 < 2 ^ 31 by decide), g.R, a1, zoc_s, g.b 1 (by decide), a8, e_digit (show k ≤ 6 by omega), zc1_s, nI_suc k (show k + 1 < 2 ^ 31 by omega), cst_e (sv := jsv σ) (lt := jlt σ q) a9]
      by_cases c : A.testBit k = true
      · rw [if_pos c] at ih ⊢
        rw [zL_add (by generalize cst (jsv σ) (jlt σ q) k 14 = x at b2 ⊢; omega)]
        exact ih
      · rw [if_neg c] at ih ⊢
        exact ih
  exact key J 0 zfuel (by omega) (zfuel_pos (by omega))
theorem e_settle0 {s σ : zSt} {J : Nat} (C : JCL σ J) (g : CO s σ) (h1 h2 : Int32) (K : zSt → Option (Int32 × zSt)) :
    ∃ s', f0_settle_L10 h1 h2 (nI (2 ^ J)) K zfuel 0 s = K s' ∧ CO s' σ ∧ (∀ A, A < 2 ^ J → gI s' 107 0 A = b01 (eno J (jtr σ) (jmn σ) A)) ∧ ∀ A, A < 2 ^ J → gL s' 105 0 A = zL (if A = 0 then 0 else NWN) := by
  have p7 : 2 ^ J ≤ 128 := Nat.pow_le_pow_right (by decide) C.2.1
  have key : ∀ e A m (u : zSt), A + e = 2 ^ J → e < m → CO u σ → (∀ B, B < A → gI u 107 0 B = b01 (eno J (jtr σ) (jmn σ) B) ∧ gL u 105 0 B = zL (if B = 0 then 0 else NWN)) → ∃ s', f0_settle_L10 h1 h2 (nI (2 ^ J)) K m (nI A) u = K s' ∧ CO s' σ ∧ (∀ A, A < 2 ^ J → gI s' 107 0 A = b01 (eno J (jtr σ) (jmn σ) A)) ∧ ∀ A, A < 2 ^ J → gL s' 105 0 A = zL (if A = 0 then 0 else NWN) := by
    intro e
    induction e with
    | zero =>
      intro A m u hA hmm g hf
      obtain ⟨m, rfl⟩ : ∃ r, m = r + 1 := ⟨m - 1, by omega⟩
      obtain rfl : A = 2 ^ J := by omega
      refine ⟨u, ?_, g, fun B hB => (hf B hB).1, fun B hB => (hf B hB).2⟩
      rw [f0_settle_L10, if_pos (zn_rle _)]
    | succ e ih =>
      intro A m u hA hmm g hf
      obtain ⟨m, rfl⟩ : ∃ r, m = r + 1 := ⟨m - 1, by omega⟩
      have hAJ : A < 2 ^ J := by omega
      obtain ⟨s', q1, q2⟩ := ih (A + 1) m (pL (pI u 107 0 A (b01 (eno J (jtr σ) (jmn σ) A))) 105 0 A (zL (if A = 0 then 0 else NWN))) (by omega) (by omega) g.I.L (fun B hB => by
        rw [gI_pL, gI_pI, gL_pL, gL_pI]
        by_cases c : B = A
        · rw [if_pos ⟨rfl, rfl, c⟩, if_pos ⟨rfl, rfl, c⟩, c]
          exact ⟨rfl, rfl⟩
        · rw [if_neg (fun hh => c hh.2.2), if_neg (fun hh => c hh.2.2)]
          exact hf B (by omega))
      refine ⟨s', ?_, q2⟩
      rw [f0_settle_L10, if_neg (zn_nle hAJ (by omega)), e_enough C g (show A < 128 by omega), zc1_s, zix_s (show A < 128 by omega) (by decide), nar01, zlt_s, zlt_s]
      simp only [zix_s (show A < 128 by omega) (show 128 < 2 ^ 31 by decide), zlt_s, nI_suc A (show A + 1 < 2 ^ 31 by omega)]
      by_cases c : A = 0
      · rw [if_pos (show nI A = 0 by rw [c]; rfl)]
        rw [if_pos c] at q1
        exact q1
      · rw [if_neg (show ¬ nI A = 0 from fun e => c ((nI_inj (show A < 2 ^ 31 by omega) (show 0 < 2 ^ 31 by decide)).mp e))]
        rw [if_neg c] at q1
        exact q1
  exact key (2 ^ J) 0 zfuel s (by omega) (zfuel_pos (by omega)) g (fun B hB => absurd hB (Nat.not_lt_zero _))
theorem e_settle1 {σ : zSt} {J q D : Nat} (C : JCL σ J) (hq : q ≤ 9999) (hD : D ≤ 14) (K : zSt → Option (Int32 × zSt)) :
    ∀ e d m (u : zSt) (fL : Nat → Nat), d + e = D → e < m → CO u σ → (∀ A, A < 2 ^ J → gI u 107 0 A = b01 (eno J (jtr σ) (jmn σ) A)) → (∀ A, A < 2 ^ J → gL u 105 0 A = zL (fL A)) → INV J (jav σ q) (jtr σ) (jmn σ) (jsv σ) (jlt σ q) NWN d fL →
      ∃ (s' : zSt) (fL' : Nat → Nat), f0_settle_L57 (nI q) (nI D) (nI (2 ^ J)) K m (nI d) u = K s' ∧ CO s' σ ∧ (∀ A, A < 2 ^ J → gL s' 105 0 A = zL (fL' A)) ∧ INV J (jav σ q) (jtr σ) (jmn σ) (jsv σ) (jlt σ q) NWN D fL' := by
  intro e
  induction e with
  | zero =>
    intro d m u fL hd hmm g h7 h5 hI
    obtain ⟨m, rfl⟩ : ∃ r, m = r + 1 := ⟨m - 1, by omega⟩
    obtain rfl : d = D := by omega
    refine ⟨u, fL, ?_, g, h5, hI⟩
    rw [f0_settle_L57, if_pos (zn_rle _)]
  | succ e ih =>
    intro d m u fL hd hmm g h7 h5 hI
    obtain ⟨m, rfl⟩ : ∃ r, m = r + 1 := ⟨m - 1, by omega⟩
    obtain ⟨s1, fO, p1, p2, p3, p4, p5, p6⟩ := e_priceDay C g hq (show d < 14 by omega) h7
    obtain ⟨s2, fL', r1, r2, r3, r4⟩ := e_addDay C.2.1 p2 (fun A hA => ⟨by rw [p3]; exact h5 A hA, (hI A hA).1⟩) (fun A hA => ⟨p5 A hA, ODy_le J _ _ _ _ _ NWN p6 hA⟩)
    obtain ⟨s', fL2, q1, q2⟩ := ih (d + 1) m s2 fL' (by omega) (by omega) r2 (fun A hA => by rw [r3, p4]; exact h7 A hA) (fun A hA => (r4 A hA).1) (INV_s J _ _ _ _ _ NWN C.2.1 (by omega) hI p6 (fun A hA => (r4 A hA).2))
    refine ⟨s', fL2, ?_, q2⟩
    rw [f0_settle_L57, if_neg (zn_nle (show d < D by omega) (by omega)), p1, zc2_s, r1, zc2_s, nI_suc d (by omega), zlt_s, q1]
theorem e_settle2 {s σ : zSt} {J q : Nat} (C : JCL σ J) (g : CO s σ) {fL : Nat → Nat} (hL : ∀ A, A < 2 ^ J → gL s 105 0 A = zL (fL A) ∧ fL A ≤ NWN) (h1 : Int32) (K : Int64 → Option (Int32 × zSt)) :
    ∃ M, f0_settle_L90 h1 (nI (2 ^ J)) s K zfuel 174960000000000 0 = K (zL M) ∧ M ≤ NWN ∧ (∀ A, A < 2 ^ J → M ≤ fL A + sdy J (jsv σ) (jlt σ q) 14 (2 ^ J - 1 - A)) ∧ (M = NWN ∨ ∃ A, A < 2 ^ J ∧ M = fL A + sdy J (jsv σ) (jlt σ q) 14 (2 ^ J - 1 - A)) := by
  have J7 := C.2.1
  have p7 : 2 ^ J ≤ 128 := Nat.pow_le_pow_right (by decide) J7
  have c9 : ∀ i, i < J → jsv σ i ≤ 9 := fun i hi => (C.2.2 i hi).2.2.2.2.2.2.2.2.1
  obtain ⟨X, hX⟩ : ∃ X : Nat → Nat, X = fun A => fL A + sdy J (jsv σ) (jlt σ q) 14 (2 ^ J - 1 - A) := ⟨_, rfl⟩
  have hX' : ∀ A, fL A + sdy J (jsv σ) (jlt σ q) 14 (2 ^ J - 1 - A) = X A := fun A => by rw [hX]
  have N1 : NWN < 2 ^ 60 := by decide
  have bX : ∀ A, A < 2 ^ J → X A < 2 ^ 61 := fun A hA => by
    have h1 := (hL A hA).2
    have h2 := sdy_b (J := J) (sv := jsv σ) (lt := jlt σ q) (d := 14) (A := 2 ^ J - 1 - A) c9 (Nat.le_refl _) J (Nat.le_refl _)
    rw [← hX']
    unfold sdy
    generalize nsu (fun i => if (2 ^ J - 1 - A).testBit i = true then cst (jsv σ) (jlt σ q) i 14 else 0) J = Y at h2 ⊢
    omega
  simp only [hX']
  have key : ∀ e A m M, A + e = 2 ^ J → e < m → M ≤ NWN → (∀ B, B < A → M ≤ X B) → (M = NWN ∨ ∃ A, A < 2 ^ J ∧ M = X A) →
      ∃ M', f0_settle_L90 h1 (nI (2 ^ J)) s K m (zL M) (nI A) = K (zL M') ∧ M' ≤ NWN ∧ (∀ A, A < 2 ^ J → M' ≤ X A) ∧ (M' = NWN ∨ ∃ A, A < 2 ^ J ∧ M' = X A) := by
    intro e
    induction e with
    | zero =>
      intro A m M hA hmm m1 m2 m3
      obtain ⟨m, rfl⟩ : ∃ r, m = r + 1 := ⟨m - 1, by omega⟩
      obtain rfl : A = 2 ^ J := by omega
      refine ⟨M, ?_, m1, m2, m3⟩
      rw [f0_settle_L90, if_pos (zn_rle _)]
    | succ e ih =>
      intro A m M hA hmm m1 m2 m3
      obtain ⟨m, rfl⟩ : ∃ r, m = r + 1 := ⟨m - 1, by omega⟩
      have hAJ : A < 2 ^ J := by omega
      have bA := bX A hAJ
      obtain ⟨M', q1, q2⟩ := ih (A + 1) m (min M (X A)) (by omega) (by omega) (by omega) (fun B hB => by
        by_cases c : B = A
        · rw [c]; exact Nat.min_le_right _ _
        · exact Nat.le_trans (Nat.min_le_left _ _) (m2 B (by omega))) (by
        by_cases c : M ≤ X A
        · rw [Nat.min_eq_left c]; exact m3
        · rw [Nat.min_eq_right (by omega)]; exact Or.inr ⟨A, hAJ, rfl⟩)
      refine ⟨M', ?_, q2⟩
      rw [f0_settle_L90, if_neg (zn_nle hAJ (by omega)), zix_s (show A < 128 by omega) (by decide), sub1' (2 ^ J) (by omega), nI_sub (show A ≤ 2 ^ J - 1 by omega) (by omega), e_priceWithout (q := q) C g (show 2 ^ J - 1 - A < 2 ^ J by omega), zc1_s, (hL A hAJ).1, zL_add (by rw [hX']; omega), hX', zminl_s (by omega) (by omega), zlt_s, nI_suc A (by omega), zlt_s, q1]
  exact key (2 ^ J) 0 zfuel NWN (by omega) (zfuel_pos (by omega)) (Nat.le_refl _) (fun B hB => absurd hB (Nat.not_lt_zero _)) (Or.inl rfl)
/-- the least of all prices is that of a plan -/
theorem plan_min {J D q : Nat} {av : Nat → Nat → Bool} {tr mn sv : Nat → Nat} {lt : Nat → Nat → Bool} {fL : Nat → Nat} {M : Nat} (J7 : J ≤ 7) (hD : D ≤ 14) (c9 : ∀ i, i < J → sv i ≤ 9) (hI : INV J av tr mn sv lt NWN D fL) (m1 : M ≤ NWN) (m2 : ∀ A, A < 2 ^ J → M ≤ fL A + sdy J sv lt 14 (2 ^ J - 1 - A)) (m3 : M = NWN ∨ ∃ A, A < 2 ^ J ∧ M = fL A + sdy J sv lt 14 (2 ^ J - 1 - A)) :
    ∃ y, Fea J D av tr mn y ∧ M = pck sv lt y J ∧ ∀ z, Fea J D av tr mn z → M ≤ pck sv lt z J := by
  have pw : ∀ A y, A < 2 ^ J → (∀ i, i < J → (A.testBit i = false → y i = 14) ∧ (A.testBit i = true → ¬ y i = 14)) → pcy J sv lt y + sdy J sv lt 14 (2 ^ J - 1 - A) = pck sv lt y J := fun A y hA hy => by
    unfold pcy sdy pck
    rw [← nsu_plus]
    refine nsu_cg J fun i hi => ?_
    show (if y i = 14 then 0 else cst sv lt i (y i)) + (if (2 ^ J - 1 - A).testBit i = true then cst sv lt i 14 else 0) = cst sv lt i (y i)
    rw [cmp_b J (by omega) A hA i hi]
    obtain ⟨y1, y2⟩ := hy i hi
    cases e : A.testBit i
    · rw [if_pos (y1 e), if_pos (show (!false) = true from rfl), y1 e, Nat.zero_add]
    · rw [if_neg (y2 e), if_neg (show ¬ (!true) = true by decide), Nat.add_zero]
  have low : ∀ z, Fea J D av tr mn z → M ≤ pck sv lt z J := fun z hz => by
    obtain ⟨A, a1, a2⟩ := msk (fun i => decide (z i < 14)) J
    have h1 := m2 A a1
    have h2 := (hI A a1).2.2 z (fun i hi => by
      obtain ⟨z1, z2⟩ := hz i hi
      rw [a2 i hi]
      refine ⟨fun e => ?_, fun e => z2 (of_decide_eq_true e)⟩
      have := of_decide_eq_false e
      omega)
    rw [← pw A z a1 (fun i hi => by
      obtain ⟨z1, z2⟩ := hz i hi
      rw [a2 i hi]
      refine ⟨fun e => ?_, fun e => ?_⟩
      · have := of_decide_eq_false e
        omega
      · have := of_decide_eq_true e
        omega)]
    exact Nat.le_trans h1 (Nat.add_le_add_right h2 _)
  have none14 : Fea J D av tr mn (fun _ => 14) := fun i _ => ⟨Nat.le_refl 14, fun hh => absurd hh (Nat.lt_irrefl 14)⟩
  have pn : pck sv lt (fun _ => 14) J < NWN := by
    have h1 := nsu_bd (g := fun i => cst sv lt i 14) (m := 2000000000000) J (fun i hi => cst_b (c9 i hi) (Nat.le_refl _))
    have h2 : pck sv lt (fun _ => 14) J = nsu (fun i => cst sv lt i 14) J := rfl
    rw [h2]
    generalize nsu (fun i => cst sv lt i 14) J = X at h1 ⊢
    unfold NWN
    omega
  have mlt := Nat.lt_of_le_of_lt (low _ none14) pn
  rcases m3 with e | ⟨A, hA, e⟩
  · rw [e] at mlt
    exact absurd mlt (Nat.lt_irrefl _)
  · obtain ⟨y, y1, y2⟩ := (hI A hA).2.1 (by rw [e] at mlt; exact Nat.lt_of_le_of_lt (Nat.le_add_right _ _) mlt)
    refine ⟨y, fun i hi => ?_, ?_, low⟩
    · obtain ⟨z1, z2⟩ := y1 i hi
      cases c : A.testBit i
      · rw [z1 c]
        exact ⟨Nat.le_refl _, fun hh => absurd hh (Nat.lt_irrefl _)⟩
      · obtain ⟨w1, w2, w3⟩ := z2 c
        exact ⟨by omega, fun _ => ⟨w1, w2, w3⟩⟩
    · rw [e, y2]
      refine pw A y hA fun i hi => ⟨(y1 i hi).1, fun c => ?_⟩
      have := ((y1 i hi).2 c).1
      omega
