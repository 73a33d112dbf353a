/-! plans: the class, the prices of one day -/
theorem CO.b {s σ : zSt} (h : CO s σ) : ∀ t, t ≠ 107 → gI s t = gI σ t := h.2
theorem cst_d {sv : Nat → Nat} {lt : Nat → Nat → Bool} {i d : Nat} (h : sv i ≤ 9) (hd : d < 14) : (if lt i d = true then Int32.toInt64 (nI (sv i)) * 174960000000 else 0) + (Int32.toInt64 (nI d) * 170859375 + Int32.toInt64 (nI d) * zL (dgt i)) = zL (cst sv lt i d) := by
  have h2 := (dgt_b i).2
  have h5 : d * dgt i ≤ 14 * 11390625 := Nat.mul_le_mul (by omega) h2
  have hw := cWt_le sv lt (i := i) (d := d) h
  have e1 : (if lt i d = true then Int32.toInt64 (nI (sv i)) * 174960000000 else 0) = zL (cWt sv lt i d * 174960000000) := by
    unfold cWt
    rw [if_neg (show ¬ d = 14 by omega)]
    by_cases c : lt i d = true
    · rw [if_pos c, if_pos c, zL_i (by omega), show (174960000000 : Int64) = zL 174960000000 from rfl, zL_mul (by omega) (by omega) (by omega)]
    · rw [if_neg c, if_neg c, Nat.zero_mul]
      rfl
  rw [e1, zL_i (by omega), show (170859375 : Int64) = zL 170859375 from rfl, zL_mul (by omega) (by omega) (by omega), zL_mul (by omega) (by omega) (by omega), zL_add (by omega), zL_add (by omega)]
  have e2 : cLf d = 0 := if_neg (by omega)
  have e3 : cSm d = d := if_neg (by omega)
  unfold cst
  rw [e2, e3]
  exact congrArg zL (by omega)
theorem e_priceDay {s σ : zSt} {J q d : Nat} (C : JCL σ J) (g : CO s σ) (hq : q ≤ 9999) (hd : d < 14) (hE : ∀ A, A < 2 ^ J → gI s 107 0 A = b01 (eno J (jtr σ) (jmn σ) A)) :
    ∃ s' fO, f0_priceDay (nI (2 ^ J)) (nI q) (nI d) s = some ((), s') ∧ CO s' σ ∧ gL s' 105 = gL s 105 ∧ gI s' = gI s ∧ (∀ A, A < 2 ^ J → gL s' 106 0 A = zL (fO A)) ∧ ODy J (jav σ q) (jtr σ) (jmn σ) (jsv σ) (jlt σ q) NWN d fO := by
  obtain ⟨c1, J7, c3⟩ := C
  have p7 : 2 ^ J ≤ 128 := Nat.pow_le_pow_right (by decide) J7
  have key : ∀ e A m (u : zSt) (f : Nat → Nat), A + e = 2 ^ J → e < m → 1 ≤ A → CO u σ → gL u 105 = gL s 105 → gI u = gI s → (∀ B, B < A → gL u 106 0 B = zL (f B) ∧ f B ≤ NWN) → f 0 = 0 → (∀ B, 0 < B → B < A → f B = if eno J (jtr σ) (jmn σ) B = true ∧ jav σ q (lwb B) d = true then min NWN (f (B &&& (B - 1)) + cst (jsv σ) (jlt σ q) (lwb B) d) else NWN) →
      ∃ s' fO, f0_priceDay_L10 (nI (2 ^ J)) (nI q) (nI d) m (nI A) u = some ((), s') ∧ CO s' σ ∧ gL s' 105 = gL s 105 ∧ gI s' = gI s ∧ (∀ A, A < 2 ^ J → gL s' 106 0 A = zL (fO A)) ∧ ODy J (jav σ q) (jtr σ) (jmn σ) (jsv σ) (jlt σ q) NWN d fO := by
    intro e
    induction e with
    | zero =>
      intro A m u f hA hmm h1 g h5 hI hf f0 hr
      obtain ⟨m, rfl⟩ : ∃ r, m = r + 1 := ⟨m - 1, by omega⟩
      obtain rfl : A = 2 ^ J := by omega
      refine ⟨u, f, ?_, g, h5, hI, fun B hB => (hf B hB).1, f0, hr⟩
      rw [f0_priceDay_L10, if_pos (zn_rle _)]
    | succ e ih =>
      intro A m u f hA hmm h1 g h5 hI hf f0 hr
      obtain ⟨m, rfl⟩ : ∃ r, m = r + 1 := ⟨m - 1, by omega⟩
      have hAJ : A < 2 ^ J := by omega
      obtain ⟨l1, l2, l3, l4, l5⟩ := lwb_p A (by omega) (by omega)
      have lJ : lwb A < J := Nat.lt_of_not_le fun hh => by
        rw [bit_hi hAJ hh] at l2
        cases l2
      obtain ⟨a1, a2, a3, a4, a5, a6, a7, a8, a9, a10, a11⟩ := c3 (lwb A) lJ
      obtain ⟨v, hv⟩ : ∃ v, v = if eno J (jtr σ) (jmn σ) A = true ∧ jav σ q (lwb A) d = true then min NWN (f (A &&& (A - 1)) + cst (jsv σ) (jlt σ q) (lwb A) d) else NWN := ⟨_, rfl⟩
      have vl : v ≤ NWN := by
        rw [hv]
        split
        · exact Nat.min_le_left _ _
        · exact Nat.le_refl _
      obtain ⟨s', fO, q1, q2⟩ := ih (A + 1) m (pL u 106 0 A (zL v)) (upn f A v) (by omega) (by omega) (by omega) g.L (by
        rw [← h5]
        funext b c
        rw [gL_pL, if_neg (fun hh => absurd hh.1 (by decide))]) (by rw [← hI]; rfl) (fun B hB => by
        rw [gL_pL]
        by_cases c : B = A
        · rw [if_pos ⟨rfl, rfl, c⟩, c, upn_at]; exact ⟨rfl, vl⟩
        · rw [if_neg (fun hh => c hh.2.2), upn_ne c]
          exact hf B (by omega)) (by rw [upn_ne (by omega)]; exact f0) (fun B h0 hB => by
        by_cases c : B = A
        · rw [c, upn_at, upn_ne (show A &&& (A - 1) ≠ A by omega)]; exact hv
        · have := (lwb_p B (by omega) h0).2.2.1
          rw [upn_ne c, upn_ne (show B &&& (B - 1) ≠ A by omega)]
          exact hr B h0 (by omega))
      refine ⟨s', fO, ?_, q2⟩
      rw [← q1, f0_priceDay_L10, if_neg (zn_nle hAJ (by omega)), e_firstOf ⟨c1, J7, c3⟩ g hAJ h1, zc1_s, zix_s (show lwb A < 7 by omega) (by decide), zlt_s, g.R, a1, zoc_s]
      have E1 : ∀ a7, (if jlt σ q (lwb A) d = true then Int32.toInt64 (nI (jsv σ (lwb A))) * 174960000000 else 0) = a7 → a7 + (Int32.toInt64 (nI d) * 170859375 + Int32.toInt64 (nI d) * zL (dgt (lwb A))) = zL (cst (jsv σ) (jlt σ q) (lwb A) d) := fun a7 e => by
        rw [← e]
        exact cst_d a9 hd
      have cb := cst_b (sv := jsv σ) (lt := jlt σ q) (i := lwb A) (d := d) a9 (by omega)
      obtain ⟨f1, f2⟩ := hf (A &&& (A - 1)) (by omega)
      have bb : f (A &&& (A - 1)) + cst (jsv σ) (jlt σ q) (lwb A) d < 2 ^ 62 := by
        generalize cst (jsv σ) (jlt σ q) (lwb A) d = x at cb ⊢
        generalize f (A &&& (A - 1)) = y at f2 ⊢
        unfold NWN at f2
        omega
      simp only [zlt_s, e_digit (show lwb A ≤ 6 by omega), zc1_s, zix_s (show A < 128 by omega) (show 128 < 2 ^ 31 by decide), a7, a8, a10, zoc_s, g.b 1 (by decide), nI_add' q d (by omega), sub1' A (by omega), and_k, zix_s (show A &&& (A - 1) < 128 by omega) (show 128 < 2 ^ 31 by decide), nI_suc A (by omega), show gI u 107 0 A = b01 (eno J (jtr σ) (jmn σ) A) by rw [hI]; exact hE A hAJ]
      have E2 : f5_isInOn (hm σ (jb σ (lwb A))) (nI (q + d)) u = some (b01 (jav σ q (lwb A) d)) := by
        unfold f5_isInOn jav
        rw [g.b 5 (by decide), a11]
        by_cases c : (zop_ishr (gI σ 1308 0 (hm σ (jb σ (lwb A)))) (zop_irem (nI (q + d)) 7) &&& 1) = 1
        · rw [if_pos c, decide_eq_true c]; rfl
        · rw [if_neg c, decide_eq_false c]; rfl
      have E3 : ∀ a7, (if jlt σ q (lwb A) d = true then Int32.toInt64 (nI (jsv σ (lwb A))) * 174960000000 else 0) = a7 → zminl 174960000000000 (gL u 106 0 (A &&& (A - 1)) + (a7 + (Int32.toInt64 (nI d) * 170859375 + Int32.toInt64 (nI d) * zL (dgt (lwb A))))) = zL (min NWN (f (A &&& (A - 1)) + cst (jsv σ) (jlt σ q) (lwb A) d)) := fun a7 e => by
        rw [E1 a7 e, f1, zL_add bb, show (174960000000000 : Int64) = zL NWN from rfl, zminl_s (by decide) bb]
      rw [E2]
      have fin : ∀ (Z : Int64), Z = zL (min NWN (f (A &&& (A - 1)) + cst (jsv σ) (jlt σ q) (lwb A) d)) → ∀ (F : Int64 → Option (Unit × zSt)), (if b01 (eno J (jtr σ) (jmn σ) A) = 0 then (if True then F 174960000000000 else F Z) else zc1 (some (b01 (jav σ q (lwb A) d))) fun r28 => if r28 = 0 then (if True then F 174960000000000 else F Z) else if (1 : Int32) = 0 then F 174960000000000 else F Z) = F (zL v) := fun Z hZ F => by
        by_cases k1 : eno J (jtr σ) (jmn σ) A = true
        · rw [k1, if_neg (show ¬ b01 true = 0 by decide)]
          by_cases k2 : jav σ q (lwb A) d = true
          · rw [if_pos ⟨k1, k2⟩] at hv
            rw [k2, zc1_s, if_neg (show ¬ b01 true = 0 by decide), if_neg (show ¬ (1 : Int32) = 0 by decide), hv, hZ]
          · rw [if_neg (fun hh => k2 hh.2)] at hv
            rw [Bool.not_eq_true] at k2
            rw [k2, zc1_s, if_pos (show b01 false = 0 from rfl), if_pos trivial, hv]
            rfl
        · rw [if_neg (fun hh => k1 hh.1)] at hv
          rw [Bool.not_eq_true] at k1
          rw [k1, if_pos (show b01 false = 0 from rfl), if_pos trivial, hv]
          rfl
      by_cases k3 : nI (q + d) ≤ gI σ 1331 0 (jb σ (lwb A))
      · rw [if_pos k3]
        exact fin _ (E3 0 (if_neg (by unfold jlt; rw [decide_eq_true k3]; decide))) (fun Z => f0_priceDay_L10 (nI (2 ^ J)) (nI q) (nI d) m (nI (A + 1)) (pL u 106 0 A Z))
      · rw [if_neg k3]
        exact fin _ (E3 _ (if_pos (by unfold jlt; rw [decide_eq_false k3]; rfl))) (fun Z => f0_priceDay_L10 (nI (2 ^ J)) (nI q) (nI d) m (nI (A + 1)) (pL u 106 0 A Z))
  obtain ⟨s', fO, q1, q2, q3, q4⟩ := key (2 ^ J - 1) 1 zfuel (pL s 106 0 0 0) (fun _ => 0) (by have := Nat.pow_pos (n := J) (show 0 < 2 by decide); omega) (zfuel_pos (by omega)) (Nat.le_refl _) g.L (by
    funext b c
    rw [gL_pL, if_neg (fun hh => absurd hh.1 (by decide))]) rfl (fun B hB => by
    obtain rfl : B = 0 := by omega
    rw [gL_pL, if_pos ⟨rfl, rfl, rfl⟩]
    exact ⟨rfl, Nat.zero_le _⟩) rfl (fun B h0 h1 => absurd h1 (by omega))
  refine ⟨s', fO, ?_, q2, q3, q4⟩
  unfold f0_priceDay
  rw [show (0 : Int32) = nI 0 from rfl, zix_s (show 0 < 128 by decide) (by decide), zlt_s]
  exact q1
