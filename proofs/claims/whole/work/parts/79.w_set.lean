/-! plans: the class, set by set -/
theorem Ch.L {s σ : zSt} (h : Ch s σ) {t i k : Nat} {v : Int64} : Ch (pL s t i k v) σ := ⟨fun q => Inv_cg (s := pL s t i k v) (σ := σ) h.2.1 h.2.2.1 h.2.2.2.1 h.2.2.2.2 q, h.2.1, h.2.2.1, h.2.2.2.1, h.2.2.2.2⟩
def CO (s σ : zSt) : Prop := Ch s σ ∧ ∀ t, t ≠ 107 → gI s t = gI σ t
theorem CO.rf {σ : zSt} : CO σ σ := ⟨Ch.rf, fun _ _ => rfl⟩
theorem CO.L {s σ : zSt} (h : CO s σ) {t i k : Nat} {v : Int64} : CO (pL s t i k v) σ := ⟨h.1.L, h.2⟩
theorem CO.I {s σ : zSt} (h : CO s σ) {i k : Nat} {v : Int32} : CO (pI s 107 i k v) σ := ⟨h.1.I rfl, fun t ht => by rw [gI_ne ht, h.2 t ht]⟩
theorem CO.R {s σ : zSt} (h : CO s σ) : gR s = gR σ := h.1.2.2.1
/-- the jobs on both sides -/
def JCL (σ : zSt) (J : Nat) : Prop := gI σ 0 0 2 = nI J ∧ J ≤ 7 ∧ ∀ i, i < J → gR σ 101 0 i = some (jb σ i) ∧ gR σ 1 (jb σ i) 4 = some (kd σ (jb σ i)) ∧ gI σ 7 (kd σ (jb σ i)) 0 = nI (jtr σ i) ∧ jtr σ i < 10 ∧ gI σ 100 0 (jtr σ i) = nI (jmn σ (jtr σ i)) ∧ jmn σ (jtr σ i) ≤ 9 ∧ gI σ 1 (jb σ i) 12 = gI σ 1331 0 (jb σ i) ∧ gI σ 1 (jb σ i) 5 = nI (jsv σ i) ∧ jsv σ i ≤ 9 ∧ gR σ 1 (jb σ i) 1 = some (hm σ (jb σ i)) ∧ gI σ 5 (hm σ (jb σ i)) 5 = gI σ 1308 0 (hm σ (jb σ i))
theorem e_enough {s σ : zSt} {J : Nat} (C : JCL σ J) (g : CO s σ) {A : Nat} (hA : A < 128) : f0_areEnough (nI A) s = some (b01 (eno J (jtr σ) (jmn σ) A)) := by
  obtain ⟨c1, J7, c3⟩ := C
  have e2 : gI s 0 0 2 = nI J := by rw [g.2 0 (by decide), c1]
  have in29 : ∀ i, i < J → ∀ (K : Int32 → Option Int32), f0_areEnough_L29 (nI A) (nI i) (nI (jtr σ i)) s K zfuel 0 0 = K (nI (ctA J (jtr σ) A (jtr σ i))) := fun i hi K => by
    have key : ∀ e k m, k + e = J → e < m → f0_areEnough_L29 (nI A) (nI i) (nI (jtr σ i)) s K m (nI (cnt (fun j => A.testBit j && decide (jtr σ j = jtr σ i)) 0 k)) (nI k) = K (nI (ctA J (jtr σ) A (jtr σ i))) := by
      intro e
      induction e with
      | zero =>
        intro k m hk hm
        obtain ⟨m, rfl⟩ : ∃ r, m = r + 1 := ⟨m - 1, by omega⟩
        obtain rfl : k = J := by omega
        rw [f0_areEnough_L29, e2, if_pos (zn_rle _)]
        rfl
      | succ e ih =>
        intro k m hk hm
        obtain ⟨m, rfl⟩ : ∃ r, m = r + 1 := ⟨m - 1, by omega⟩
        have hkJ : k < J := by omega
        obtain ⟨a1, a2, a3, a4, -⟩ := c3 k hkJ
        obtain ⟨-, -, b3, b4, -⟩ := c3 i hi
        have cb := cnt_le (fun j => A.testBit j && decide (jtr σ j = jtr σ i)) k 0
        have ce : cnt (fun j => A.testBit j && decide (jtr σ j = jtr σ i)) 0 (k + 1) = cnt (fun j => A.testBit j && decide (jtr σ j = jtr σ i)) 0 k + (if (A.testBit k && decide (jtr σ k = jtr σ i)) = true then 1 else 0) := by rw [cnt_end, Nat.zero_add]
        rw [← ih (k + 1) m (by omega) (by omega), f0_areEnough_L29, e2, if_neg (zn_nle hkJ (by omega)), ce]
        simp only [zlt_s, zix_s (show k < 7 by omega) (show 7 < 2 ^ 31 by decide), g.R, a1, zoc_s, a2, g.2 7 (by decide), a3, nI_inj (show jtr σ k < 2 ^ 31 by omega) (show jtr σ i < 2 ^ 31 by omega), bit_1 A hA k (by omega), nI_suc k (show k + 1 < 2 ^ 31 by omega), i_add0]
        by_cases q : A.testBit k = true
        · rw [if_pos q, q, Bool.true_and]
          by_cases q2 : jtr σ k = jtr σ i
          · rw [if_pos q2, decide_eq_true q2, if_pos rfl, nI_suc _ (by omega)]
          · rw [if_neg q2, decide_eq_false q2, if_neg (show ¬ false = true by decide)]
            rfl
        · rw [if_neg q, if_neg (show ¬ (A.testBit k && decide (jtr σ k = jtr σ i)) = true by
            cases e : A.testBit k
            · simp
            · exact absurd e q)]
          rfl
    exact key J 0 zfuel (by omega) (zfuel_pos (by omega))
  unfold f0_areEnough eno
  rw [zan_first, lfirst (f0_areEnough_L2 (nI A) s) (some 1) (fun i => decide (jmn σ (jtr σ i) < ctA J (jtr σ) A (jtr σ i))) (fun _ => some 0) J (by omega) (fun n i hi => ?_) (fun n => ?_) (zfuel_pos (by omega))]
  · cases zfirst (fun i => decide (jmn σ (jtr σ i) < ctA J (jtr σ) A (jtr σ i))) 0 J <;> rfl
  · obtain ⟨a1, a2, a3, a4, a5, a6, -⟩ := c3 i hi
    have cb := cnt_le (fun j => A.testBit j && decide (jtr σ j = jtr σ i)) J 0
    have cb : ctA J (jtr σ) A (jtr σ i) ≤ J := cb
    rw [f0_areEnough_L2, e2, if_neg (zn_nle hi (by omega)), zix_s (show i < 7 by omega) (by decide), zlt_s, g.R, a1, zoc_s, a2, zlt_s, zoc_s, g.2 7 (by decide), a3, zlt_s, in29 i hi, show f11_isIn (nI (jtr σ i)) 10 s = some 1 from e_at_in a4 (Nat.le_refl 10) (by decide), zc1_s, zlt_s, zlt_s, if_neg (show ¬ (1 : Int32) = 0 by decide), zix_s a4 (by decide), g.2 100 (by decide), a5]
    by_cases q : jmn σ (jtr σ i) < ctA J (jtr σ) A (jtr σ i)
    · rw [if_neg (show ¬ nI (ctA J (jtr σ) A (jtr σ i)) ≤ nI (jmn σ (jtr σ i)) by rw [i_le, nI_ti (by omega), nI_ti (by omega)]; omega), if_pos (decide_eq_true q)]
    · rw [if_pos (show nI (ctA J (jtr σ) A (jtr σ i)) ≤ nI (jmn σ (jtr σ i)) by rw [i_le, nI_ti (by omega), nI_ti (by omega)]; omega), if_neg (by rw [decide_eq_false q]; decide)]
  · rw [f0_areEnough_L2, e2, if_pos (zn_rle _)]
theorem e_firstOf {s σ : zSt} {J : Nat} (C : JCL σ J) (g : CO s σ) {A : Nat} (hA : A < 2 ^ J) (h0 : 0 < A) : f0_firstOf (nI A) s = some (nI (lwb A)) := by
  obtain ⟨c1, J7, c3⟩ := C
  have e2 : gI s 0 0 2 = nI J := by rw [g.2 0 (by decide), c1]
  have hA7 : A < 128 := Nat.lt_of_lt_of_le hA (Nat.pow_le_pow_right (by decide) J7)
  obtain ⟨l1, l2, l3, l4, l5⟩ := lwb_p A hA7 h0
  have lJ : lwb A < J := Nat.lt_of_not_le fun hh => by
    rw [bit_hi hA hh] at l2
    cases l2
  have e3 : nI J - 1 = nI (J - 1) := sub1' J (by omega)
  unfold f0_firstOf
  have key : ∀ e k m, k + e = lwb A → e < m → f0_firstOf_L2 (nI A) s m (nI k) = some (nI (lwb A)) := by
    intro e
    induction e with
    | zero =>
      intro k m hk hm
      obtain ⟨m, rfl⟩ : ∃ r, m = r + 1 := ⟨m - 1, by omega⟩
      obtain rfl : k = lwb A := by omega
      rw [f0_firstOf_L2, e2, e3, if_neg (show ¬ ((zop_ishr (nI A) (nI (lwb A)) &&& 1) = 0) by rw [bit_0 A hA7 _ l1, l2]; decide), ite_self]
    | succ e ih =>
      intro k m hk hm
      obtain ⟨m, rfl⟩ : ∃ r, m = r + 1 := ⟨m - 1, by omega⟩
      rw [f0_firstOf_L2, e2, e3, if_neg (zn_nle (show k < J - 1 by omega) (by omega)), if_pos (show ((zop_ishr (nI A) (nI k) &&& 1) = 0) by rw [bit_0 A hA7 k (by omega)]; exact l5 k (by omega)), zlt_s, nI_suc k (by omega)]
      exact ih (k + 1) m (by omega) (by omega)
  exact key (lwb A) 0 zfuel (by omega) (zfuel_pos (by omega))
theorem dgt_b (i : Nat) : 0 < dgt i ∧ dgt i ≤ 11390625 := by
  unfold dgt
  exact ⟨Nat.pow_pos (by decide), Nat.le_trans (Nat.pow_le_pow_right (by decide) (show 6 - i ≤ 6 by omega)) (by decide)⟩
theorem e_digit {i : Nat} (hi : i ≤ 6) (s : zSt) : f0_digit (nI i) s = some (zL (dgt i)) := by
  unfold f0_digit
  have key : ∀ e k m, k + e = 6 → i ≤ k → e < m → f0_digit_L4 s m (zL (15 ^ (k - i))) (nI k) = some (zL (dgt i)) := by
    intro e
    induction e with
    | zero =>
      intro k m hk hik hm
      obtain ⟨m, rfl⟩ : ∃ r, m = r + 1 := ⟨m - 1, by omega⟩
      obtain rfl : k = 6 := by omega
      rw [f0_digit_L4, if_pos (by decide)]
      rfl
    | succ e ih =>
      intro k m hk hik hm
      obtain ⟨m, rfl⟩ : ∃ r, m = r + 1 := ⟨m - 1, by omega⟩
      have hp : 15 ^ (k - i) ≤ 15 ^ 6 := Nat.pow_le_pow_right (by decide) (by omega)
      have h6 : (15 : Nat) ^ 6 = 11390625 := by decide
      rw [f0_digit_L4, if_neg (show ¬ (6 : Int32) ≤ nI k by rw [i_le, nI_ti (by omega)]; simp only [Int32.reduceToInt]; omega), show (15 : Int64) = zL 15 from rfl, zL_mul (by omega) (by omega) (by omega), zlt_s, nI_suc k (by omega), zlt_s, ← Nat.pow_succ, show (k - i).succ = k + 1 - i by omega]
      exact ih (k + 1) m (by omega) (by omega) (by omega)
  have := key (6 - i) i zfuel (by omega) (Nat.le_refl _) (zfuel_pos (by omega))
  rw [Nat.sub_self] at this
  exact this
theorem zminl_s {a b : Nat} (ha : a < 2 ^ 62) (hb : b < 2 ^ 62) : zminl (zL a) (zL b) = zL (min a b) := by
  unfold zminl
  by_cases c : b < a
  · rw [if_pos (by rw [Int64.lt_iff_toInt_lt, zL_ti (by omega), zL_ti (by omega)]; omega), Nat.min_eq_right (by omega)]
  · rw [if_neg (by rw [Int64.lt_iff_toInt_lt, zL_ti (by omega), zL_ti (by omega)]; omega), Nat.min_eq_left (by omega)]
def NWN : Nat := 174960000000000
theorem cst_b {sv : Nat → Nat} {lt : Nat → Nat → Bool} {i d : Nat} (h : sv i ≤ 9) (hd : d ≤ 14) : cst sv lt i d ≤ 2000000000000 := by
  have h1 := cWt_le sv lt (i := i) (d := d) h
  have h2 := (dgt_b i).2
  have h3 : cLf d ≤ 1 := by unfold cLf; split <;> omega
  have h4 : cSm d ≤ 14 := by unfold cSm; split <;> omega
  have h5 : d * dgt i ≤ 14 * 11390625 := Nat.mul_le_mul hd h2
  unfold cst
  generalize cWt sv lt i d = w at h1 ⊢
  generalize cLf d = l at h3 ⊢
  generalize cSm d = m at h4 ⊢
  generalize d * dgt i = g at h5 ⊢
  omega
