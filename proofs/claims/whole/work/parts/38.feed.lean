theorem zfold_ind {S : Type} (P : S → Prop) (F : Nat → S → S) (s : S) (h0 : P s) (h1 : ∀ i s, P s → P (F i s)) : ∀ n, P (zfold F s n)
  | 0 => h0
  | n + 1 => h1 n _ (zfold_ind P F s h0 h1 n)
theorem b255 (y : Int32) : btw 0 (y &&& 255) 255 := by
  have h1 : (y &&& 255).toBitVec.toNat ≤ 255 := by
    rw [Int32.toBitVec_and, BitVec.toNat_and]
    exact Nat.and_le_right
  have h2 : (y &&& 255).toInt = ((y &&& 255).toBitVec.toNat : Int) := by
    show (y &&& 255).toBitVec.toInt = _
    exact BitVec.toInt_eq_toNat_of_lt (by omega)
  unfold btw
  rw [h2]
  omega
theorem sh255 (x : Int32) (i : Nat) (hi : i < 4) : zop_ishr x (8 * nI i) &&& 255 = zop_iushr x (8 * nI i) &&& 255 := by
  have h8 : (8 : Int32) * nI i = nI (8 * i) := by rw [show (8 : Int32) = nI 8 from rfl, nI_mul' 8 i (by omega) (by omega) (by omega)]
  rw [h8]
  have hs : ∀ k, k ≤ 24 → (x.toBitVec.sshiftRight k) &&& 255#32 = (x.toBitVec >>> k) &&& 255#32 := by
    intro k hk
    apply BitVec.eq_of_getLsbD_eq
    intro j hj
    rw [BitVec.getLsbD_and, BitVec.getLsbD_and, BitVec.getLsbD_sshiftRight, BitVec.getLsbD_ushiftRight]
    by_cases h8 : j < 8
    · rw [if_pos (by omega), decide_eq_false (show ¬ 32 ≤ j by omega)]
      simp
    · have : (255#32).getLsbD j = false := by
        rw [BitVec.getLsbD_ofNat]
        have : Nat.testBit 255 j = false := by
          apply Nat.testBit_lt_two_pow
          exact Nat.lt_of_lt_of_le (show 255 < 2 ^ 8 by decide) (Nat.pow_le_pow_right (by decide) (by omega))
        rw [this]
        simp
      rw [this]
      simp
  unfold zop_ishr zop_iushr
  apply Int32.toBitVec_inj.mp
  rcases (show i = 0 ∨ i = 1 ∨ i = 2 ∨ i = 3 by omega) with rfl | rfl | rfl | rfl
  · exact hs 0 (by decide)
  · exact hs 8 (by decide)
  · exact hs 16 (by decide)
  · exact hs 24 (by decide)
def fb (x : Int32) (i : Nat) : Int32 := zop_iushr x (8 * nI i) &&& 255
def fC (x : Int32) (t i : Nat) (s : zSt) : zSt := pI (pI s 1210 0 (t + i) (fb x i)) 11 0 11 (nI (t + i + 1))
def fM (x : Int32) (t i : Nat) (s : zSt) : zSt := pI (pI s 1348 0 (t + i) (fb x i)) 12 0 49 (nI (t + i + 1))
theorem fC_11 (x : Int32) (t : Nat) (s : zSt) (h : gI s 11 0 11 = nI t) : ∀ n, gI (zfold (fC x t) s n) 11 0 11 = nI (t + n)
  | 0 => h
  | n + 1 => rfl
theorem fM_12 (x : Int32) (t : Nat) (s : zSt) (h : gI s 12 0 49 = nI t) : ∀ n, gI (zfold (fM x t) s n) 12 0 49 = nI (t + n)
  | 0 => h
  | n + 1 => rfl
theorem fC_b (x : Int32) (t : Nat) (s : zSt) (j : Nat) : ∀ n, gI (zfold (fC x t) s n) 1210 0 j = if t ≤ j ∧ j < t + n then fb x (j - t) else gI s 1210 0 j
  | 0 => by rw [if_neg (by omega)]; rfl
  | n + 1 => by
    have e : gI (zfold (fC x t) s (n + 1)) 1210 0 j = if j = t + n then fb x n else gI (zfold (fC x t) s n) 1210 0 j := by
      show gI (pI (pI (zfold (fC x t) s n) 1210 0 (t + n) (fb x n)) 11 0 11 (nI (t + n + 1))) 1210 0 j = _
      simp [gI_pI]
    rw [e, fC_b x t s j n]
    by_cases h : j = t + n
    · rw [if_pos h, if_pos (by omega), h, Nat.add_sub_cancel_left]
    · rw [if_neg h]
      by_cases h2 : t ≤ j ∧ j < t + n
      · rw [if_pos h2, if_pos (by omega)]
      · rw [if_neg h2, if_neg (by omega)]
theorem fM_b (x : Int32) (t : Nat) (s : zSt) (j : Nat) : ∀ n, gI (zfold (fM x t) s n) 1348 0 j = if t ≤ j ∧ j < t + n then fb x (j - t) else gI s 1348 0 j
  | 0 => by rw [if_neg (by omega)]; rfl
  | n + 1 => by
    have e : gI (zfold (fM x t) s (n + 1)) 1348 0 j = if j = t + n then fb x n else gI (zfold (fM x t) s n) 1348 0 j := by
      show gI (pI (pI (zfold (fM x t) s n) 1348 0 (t + n) (fb x n)) 12 0 49 (nI (t + n + 1))) 1348 0 j = _
      simp [gI_pI]
    rw [e, fM_b x t s j n]
    by_cases h : j = t + n
    · rw [if_pos h, if_pos (by omega), h, Nat.add_sub_cancel_left]
    · rw [if_neg h]
      by_cases h2 : t ≤ j ∧ j < t + n
      · rw [if_pos h2, if_pos (by omega)]
      · rw [if_neg h2, if_neg (by omega)]
theorem l_feedC (x : Int32) (v t : Nat) (hv : v ≤ 4) (ht : t + v ≤ 160) (K : zSt → Option (Int32 × zSt)) (s : zSt) (hs : gI s 11 0 11 = nI t) : f11_feed_L29 (nI v) x K zfuel 0 s = K (zfold (fC x t) s v) := by
  refine zloop (fun n s i => f11_feed_L29 (nI v) x K n (nI i) s) K (fC x t) v s ?_ ?_ zfuel (zfuel_pos (by omega))
  · intro n i hi
    have e := fC_11 x t s hs i
    show f11_feed_L29 (nI v) x K (n + 1) (nI i) (zfold (fC x t) s i) = _
    rw [f11_feed_L29, if_neg (by rw [i_le, nI_ti (show v < 2 ^ 31 by omega), nI_ti (show i < 2 ^ 31 by omega)]; omega), e, zix_s (by omega) (by decide)]
    simp only [zlt_s]
    have e2 : gI (pI (zfold (fC x t) s i) 1210 0 (t + i) (zop_iushr x (8 * nI i) &&& 255)) 11 0 11 = nI (t + i) := e
    rw [e2, nI_suc (t + i) (by omega), nI_suc i (by omega)]
    rfl
  · intro n
    show f11_feed_L29 (nI v) x K (n + 1) (nI v) (zfold (fC x t) s v) = _
    rw [f11_feed_L29, if_pos (by rw [i_le]; omega)]
theorem l_feedM (x : Int32) (v t : Nat) (hv : v ≤ 4) (ht : t + v ≤ 160) (K : zSt → Option (Int32 × zSt)) (s : zSt) (hs : gI s 12 0 49 = nI t) : f12_feed_L28 (nI v) x K zfuel 0 s = K (zfold (fM x t) s v) := by
  refine zloop (fun n s i => f12_feed_L28 (nI v) x K n (nI i) s) K (fM x t) v s ?_ ?_ zfuel (zfuel_pos (by omega))
  · intro n i hi
    have e := fM_12 x t s hs i
    show f12_feed_L28 (nI v) x K (n + 1) (nI i) (zfold (fM x t) s i) = _
    rw [f12_feed_L28, if_neg (by rw [i_le, nI_ti (show v < 2 ^ 31 by omega), nI_ti (show i < 2 ^ 31 by omega)]; omega), e, zix_s (by omega) (by decide), sh255 x i (by omega)]
    simp only [zlt_s]
    have e2 : gI (pI (zfold (fM x t) s i) 1348 0 (t + i) (zop_iushr x (8 * nI i) &&& 255)) 12 0 49 = nI (t + i) := e
    rw [e2, nI_suc (t + i) (by omega), nI_suc i (by omega)]
    rfl
  · intro n
    show f12_feed_L28 (nI v) x K (n + 1) (nI v) (zfold (fM x t) s v) = _
    rw [f12_feed_L28, if_pos (by rw [i_le]; omega)]
