/-! numbers of ways -/
def zL (n : Nat) : Int64 := Int64.ofNat n
theorem zL_ti {n : Nat} (h : n < 2 ^ 63) : (zL n).toInt = n := Int64.toInt_ofNat_of_lt h
theorem l_eq {a b : Int64} (h : a.toInt = b.toInt) : a = b := Int64.toInt_inj.mp h
theorem zL_i {n : Nat} (h : n < 2 ^ 31) : Int32.toInt64 (nI n) = zL n := by
  refine l_eq ?_
  rw [Int32.toInt_toInt64, nI_ti h, zL_ti (by omega)]
theorem zL_mul {a b : Nat} (h : a * b < 2 ^ 62) (ha : a < 2 ^ 62) (hb : b < 2 ^ 62) : zL a * zL b = zL (a * b) := by
  refine l_eq ?_
  have e : ((a : Int) * b) = ((a * b : Nat) : Int) := by simp
  rw [Int64.toInt_mul, zL_ti (by omega), zL_ti (by omega), zL_ti (by omega), e, Int.bmod_eq_of_le] <;> omega
theorem zL_add {a b : Nat} (h : a + b < 2 ^ 62) : zL a + zL b = zL (a + b) := by
  refine l_eq ?_
  rw [Int64.toInt_add, zL_ti (by omega), zL_ti (by omega), zL_ti (by omega), Int.bmod_eq_of_le] <;> omega
theorem zL_ne0 {a : Nat} (h : 0 < a ∧ a < 2 ^ 62) : ¬ zL a = 0 := fun e => by
  have := congrArg Int64.toInt e
  rw [zL_ti (by omega)] at this
  have h0 : (0 : Int64).toInt = 0 := rfl
  omega
theorem zL_div {a b : Nat} (ha : a < 2 ^ 62) (hb : 0 < b ∧ b < 2 ^ 62) : zop_ldiv (zL a) (zL b) = zL (a / b) := by
  refine l_eq ?_
  have h3 : a / b ≤ a := Nat.div_le_self a b
  have hm1 : zL b ≠ -1 := fun e => by
    have := congrArg Int64.toInt e
    rw [zL_ti (by omega)] at this
    have h1 : (-1 : Int64).toInt = -1 := by decide
    omega
  unfold zop_ldiv
  rw [Int64.toInt_div_of_ne_right _ _ hm1, zL_ti (by omega), zL_ti (by omega), zL_ti (by omega), Int.tdiv_eq_ediv_of_nonneg (by omega)]
  simp
theorem znl_s {β : Type} {a : Nat} (h : 0 < a ∧ a < 2 ^ 62) (k : Option β) : znl (zL a) k = k := by
  unfold znl
  rw [if_neg (zL_ne0 h)]
theorem nI_sub {a b : Nat} (h : b ≤ a) (ha : a < 2 ^ 31) : nI a - nI b = nI (a - b) := by
  rw [i_eq, i_subp (by rw [nI_ti ha, nI_ti (by omega)]; omega), nI_ti ha, nI_ti (by omega), nI_ti (by omega)]
  omega
/-- how many ways to draw k of n -/
def chN : Nat → Nat → Nat
  | 0, 0 => 1
  | 0, _ + 1 => 0
  | _ + 1, 0 => 1
  | n + 1, k + 1 => chN n k + chN n (k + 1)
theorem chN_0 (n : Nat) : chN n 0 = 1 := by cases n <;> rfl
theorem chN_s (n k : Nat) : chN (n + 1) (k + 1) = chN n k + chN n (k + 1) := rfl
theorem chN_le : ∀ n k, chN n k ≤ 2 ^ n
  | 0, 0 => Nat.le_refl _
  | 0, _ + 1 => Nat.zero_le _
  | n + 1, 0 => by
    rw [chN_0]
    exact Nat.one_le_two_pow
  | n + 1, k + 1 => by
    have h1 := chN_le n k
    have h2 := chN_le n (k + 1)
    rw [chN_s, Nat.pow_succ]
    omega
theorem chN_z : ∀ n k, n < k → chN n k = 0
  | 0, 0, h => by omega
  | 0, _ + 1, _ => rfl
  | n + 1, 0, h => by omega
  | n + 1, k + 1, h => by rw [chN_s, chN_z n k (by omega), chN_z n (k + 1) (by omega)]
theorem chN_p : ∀ n k, k ≤ n → 0 < chN n k
  | 0, 0, _ => by decide
  | 0, k + 1, h => by omega
  | n + 1, 0, _ => by rw [chN_0]; decide
  | n + 1, k + 1, h => by
    have := chN_p n k (by omega)
    rw [chN_s]
    omega
theorem chA : ∀ n k, (n + 1) * chN n k = (k + 1) * chN (n + 1) (k + 1)
  | 0, 0 => rfl
  | 0, k + 1 => by rw [chN_z 0 (k + 1) (by omega), chN_z 1 (k + 2) (by omega)]; rfl
  | n + 1, 0 => by
    have := chA n 0
    rw [chN_0, chN_s (n + 1) 0, chN_0]
    rw [chN_0] at this
    rw [Nat.mul_one] at this
    omega
  | n + 1, k + 1 => by
    have h1 := chA n k
    have h2 := chA n (k + 1)
    have e : chN (n + 1) (k + 1) = chN n k + chN n (k + 1) := rfl
    have e2 : chN (n + 2) (k + 2) = chN (n + 1) (k + 1) + chN (n + 1) (k + 2) := rfl
    have e3 : (n + 1) * chN (n + 1) (k + 1) = (n + 1) * chN n k + (n + 1) * chN n (k + 1) := by rw [e, Nat.mul_add]
    have g1 : (n + 1) * chN (n + 1) (k + 1) = (k + 1) * chN (n + 1) (k + 1) + (k + 1 + 1) * chN (n + 1) (k + 1 + 1) := by rw [e3, h1, h2]
    show (n + 1 + 1) * chN (n + 1) (k + 1) = (k + 1 + 1) * chN (n + 2) (k + 2)
    have g2 : (n + 1 + 1) * chN (n + 1) (k + 1) = (n + 1) * chN (n + 1) (k + 1) + chN (n + 1) (k + 1) := Nat.succ_mul _ _
    have g3 : (k + 1 + 1) * chN (n + 1) (k + 1) = (k + 1) * chN (n + 1) (k + 1) + chN (n + 1) (k + 1) := Nat.succ_mul _ _
    rw [e2, Nat.mul_add, g2, g3, g1]
    have e4 : chN (n + 1) (k + 2) = chN (n + 1) (k + 1 + 1) := rfl
    rw [e4]
    omega
theorem chB {n k : Nat} (h : k ≤ n) : chN n k * (n - k) = chN n (k + 1) * (k + 1) := by
  have a := chA n k
  rw [chN_s, Nat.mul_add] at a
  have e : (n + 1) * chN n k = (k + 1) * chN n k + chN n k * (n - k) := by
    rw [Nat.mul_comm (chN n k), ← Nat.add_mul]
    congr 1
    omega
  rw [Nat.mul_comm (chN n (k + 1))]
  omega
theorem chN_b {n : Nat} (h : n ≤ 41) (k : Nat) : chN n k < 2 ^ 42 := by
  have h1 := chN_le n k
  have h2 : 2 ^ n ≤ 2 ^ 41 := Nat.pow_le_pow_right (by decide) h
  omega
theorem mul_b {a b : Nat} (ha : a < 2 ^ 42) (hb : b ≤ 1000) : a * b < 2 ^ 62 := by
  have : a * b ≤ 2 ^ 42 * 1000 := Nat.mul_le_mul (by omega) hb
  omega
theorem m_choose {n : Nat} (hn : n ≤ 40) {k : Nat} (hk : k ≤ 1000) (σ : zSt) : f12_choose (nI n) (nI k) σ = some (zL (chN n k)) := by
  unfold f12_choose
  rw [if_neg (show ¬ nI k < 0 by rw [i_lt, nI_ti (by omega)]; simp only [Int32.reduceToInt]; omega)]
  by_cases hkn : k ≤ n
  · rw [if_pos (show nI k ≤ nI n by rw [i_le, nI_ti (by omega), nI_ti (by omega)]; omega)]
    have key : ∀ d i m, i + d = k → d < m → f12_choose_L16 (nI n) (nI k) σ m (zL (chN n i)) (nI i) = some (zL (chN n k)) := by
      intro d
      induction d with
      | zero =>
        intro i m hi hm
        obtain ⟨m, rfl⟩ : ∃ q, m = q + 1 := ⟨m - 1, by omega⟩
        obtain rfl : i = k := by omega
        rw [f12_choose_L16, if_pos (zn_rle _)]
      | succ d ih =>
        intro i m hi hm
        obtain ⟨m, rfl⟩ : ∃ q, m = q + 1 := ⟨m - 1, by omega⟩
        have b1 := chN_b (show n ≤ 41 by omega) i
        have b2 := mul_b b1 (show n - i ≤ 1000 by omega)
        rw [← ih (i + 1) m (by omega) (by omega), f12_choose_L16, if_neg (zn_nle (show i < k by omega) (by omega)), nI_suc i (by omega), zL_i (show i + 1 < 2 ^ 31 by omega), znl_s (by omega), nI_sub (by omega) (by omega), zL_i (show n - i < 2 ^ 31 by omega), zL_mul b2 (by omega) (by omega), zL_div b2 (by omega), chB (by omega), Nat.mul_div_cancel _ (by omega), zlt_s, zlt_s]
    have := key k 0 zfuel (by omega) (zfuel_pos (by omega))
    rw [chN_0] at this
    exact this
  · rw [if_neg (show ¬ nI k ≤ nI n by rw [i_le, nI_ti (by omega), nI_ti (by omega)]; omega), chN_z n k (by omega)]
    rfl
theorem e_choose {n : Nat} (hn : n ≤ 40) {k : Nat} (hk : k ≤ 1000) (σ : zSt) : f8_choose (nI n) (nI k) σ = some (zL (chN n k)) := by
  unfold f8_choose
  rw [if_neg (show ¬ nI k < 0 by rw [i_lt, nI_ti (by omega)]; simp only [Int32.reduceToInt]; omega)]
  by_cases hkn : k ≤ n
  · rw [if_pos (show nI k ≤ nI n by rw [i_le, nI_ti (by omega), nI_ti (by omega)]; omega)]
    have key : ∀ d i m, i + d = k → d < m → f8_choose_L16 (nI n) (nI k) σ m (zL (chN (n - k + i) i)) (nI (i + 1)) = some (zL (chN n k)) := by
      intro d
      induction d with
      | zero =>
        intro i m hi hm
        obtain ⟨m, rfl⟩ : ∃ q, m = q + 1 := ⟨m - 1, by omega⟩
        obtain rfl : i = k := by omega
        rw [f8_choose_L16, if_pos (show nI i < nI (i + 1) by rw [i_lt, nI_ti (by omega), nI_ti (by omega)]; omega), show n - i + i = n by omega]
      | succ d ih =>
        intro i m hi hm
        obtain ⟨m, rfl⟩ : ∃ q, m = q + 1 := ⟨m - 1, by omega⟩
        have b1 := chN_b (show n - k + i ≤ 41 by omega) i
        have b2 := mul_b b1 (show n - k + (i + 1) ≤ 1000 by omega)
        have e : chN (n - k + i) i * (n - k + (i + 1)) = chN (n - k + (i + 1)) (i + 1) * (i + 1) := by
          have := chA (n - k + i) i
          rw [Nat.mul_comm, show n - k + (i + 1) = n - k + i + 1 by omega, this, Nat.mul_comm]
        rw [← ih (i + 1) m (by omega) (by omega), f8_choose_L16, if_neg (show ¬ nI k < nI (i + 1) by rw [i_lt, nI_ti (by omega), nI_ti (by omega)]; omega), zL_i (show i + 1 < 2 ^ 31 by omega), znl_s (by omega), nI_sub (by omega) (by omega), nI_add' _ _ (by omega), zL_i (show n - k + (i + 1) < 2 ^ 31 by omega), zL_mul b2 (by omega) (by omega), zL_div b2 (by omega), e, Nat.mul_div_cancel _ (by omega), zlt_s, nI_suc (i + 1) (by omega), zlt_s]
    have := key k 0 zfuel (by omega) (zfuel_pos (by omega))
    rw [chN_0] at this
    exact this
  · rw [if_neg (show ¬ nI k ≤ nI n by rw [i_le, nI_ti (by omega), nI_ti (by omega)]; omega), chN_z n k (by omega)]
    rfl
/-- the sum of the ways from i on, d of them -/
def wsN (a b n i : Nat) : Nat → Nat
  | 0 => 0
  | d + 1 => chN a i * chN b (n - i) + wsN a b n (i + 1) d
theorem wsN_end (a b n : Nat) : ∀ d i, wsN a b n i (d + 1) = wsN a b n i d + chN a (i + d) * chN b (n - (i + d))
  | 0, i => by
    unfold wsN wsN
    rw [Nat.add_zero, Nat.add_zero, Nat.zero_add]
  | d + 1, i => by
    have := wsN_end a b n d (i + 1)
    rw [show wsN a b n i (d + 1 + 1) = chN a i * chN b (n - i) + wsN a b n (i + 1) (d + 1) from rfl, this, show wsN a b n i (d + 1) = chN a i * chN b (n - i) + wsN a b n (i + 1) d from rfl, show i + 1 + d = i + (d + 1) by omega]
    omega
/-- Vandermonde -/
theorem vdm : ∀ a b n, wsN a b n 0 (n + 1) = chN (a + b) n
  | 0, b, n => by
    have z : ∀ d i, wsN 0 b n (i + 1) d = 0 := by
      intro d
      induction d with
      | zero => intro i; rfl
      | succ d ih =>
        intro i
        rw [show wsN 0 b n (i + 1) (d + 1) = chN 0 (i + 1) * chN b (n - (i + 1)) + wsN 0 b n (i + 1 + 1) d from rfl, ih (i + 1), chN_z 0 (i + 1) (by omega), Nat.zero_mul]
    rw [show wsN 0 b n 0 (n + 1) = chN 0 0 * chN b (n - 0) + wsN 0 b n (0 + 1) n from rfl, z n 0, Nat.zero_add]
    show 1 * chN b n + 0 = chN b n
    omega
  | a + 1, b, 0 => by
    rw [chN_0]
    show chN (a + 1) 0 * chN b 0 + 0 = 1
    rw [chN_0, chN_0]
  | a + 1, b, n + 1 => by
    have h1 := vdm a b n
    have h2 := vdm a b (n + 1)
    have sh : ∀ d i, wsN (a + 1) b (n + 1) (i + 1) d = wsN a b n i d + wsN a b (n + 1) (i + 1) d := by
      intro d
      induction d with
      | zero => intro i; rfl
      | succ d ih =>
        intro i
        rw [show wsN (a + 1) b (n + 1) (i + 1) (d + 1) = chN (a + 1) (i + 1) * chN b (n + 1 - (i + 1)) + wsN (a + 1) b (n + 1) (i + 1 + 1) d from rfl, ih (i + 1), chN_s, Nat.add_mul]
        rw [show wsN a b n i (d + 1) = chN a i * chN b (n - i) + wsN a b n (i + 1) d from rfl, show wsN a b (n + 1) (i + 1) (d + 1) = chN a (i + 1) * chN b (n + 1 - (i + 1)) + wsN a b (n + 1) (i + 1 + 1) d from rfl, show n + 1 - (i + 1) = n - i by omega]
        omega
    rw [show wsN (a + 1) b (n + 1) 0 (n + 1 + 1) = chN (a + 1) 0 * chN b (n + 1 - 0) + wsN (a + 1) b (n + 1) (0 + 1) (n + 1) from rfl, sh, h1, chN_0]
    rw [show wsN a b (n + 1) 0 (n + 1 + 1) = chN a 0 * chN b (n + 1 - 0) + wsN a b (n + 1) (0 + 1) (n + 1) from rfl, chN_0] at h2
    rw [show a + 1 + b = a + b + 1 by omega, chN_s]
    omega
/-- the first terms are 0 -/
theorem wsN_lo {a b n f : Nat} (h : n - f ≥ b) (hf : f ≤ n) : wsN a b n 0 (n + 1) = wsN a b n f (n - f + 1) := by
  have key : ∀ j, j ≤ f → wsN a b n 0 (n + 1) = wsN a b n j (n + 1 - j) := by
    intro j
    induction j with
    | zero => intro _; rfl
    | succ j ih =>
      intro hj
      rw [ih (by omega), show n + 1 - j = (n + 1 - (j + 1)) + 1 by omega]
      rw [show wsN a b n j (n + 1 - (j + 1) + 1) = chN a j * chN b (n - j) + wsN a b n (j + 1) (n + 1 - (j + 1)) from rfl, chN_z b (n - j) (by omega), Nat.mul_zero, Nat.zero_add]
  rw [key f (Nat.le_refl _), show n + 1 - f = n - f + 1 by omega]
/-- the last terms are 0 -/
theorem wsN_hi {a b n : Nat} : ∀ d i, a < i → wsN a b n i d = 0
  | 0, _, _ => rfl
  | d + 1, i, h => by
    rw [show wsN a b n i (d + 1) = chN a i * chN b (n - i) + wsN a b n (i + 1) d from rfl, chN_z a i h, wsN_hi d (i + 1) (by omega), Nat.zero_mul]
theorem wsN_add (a b n : Nat) : ∀ d e i, wsN a b n i (d + e) = wsN a b n i d + wsN a b n (i + d) e
  | 0, e, i => by
    rw [Nat.zero_add, Nat.add_zero]
    show _ = 0 + _
    omega
  | d + 1, e, i => by
    rw [show d + 1 + e = (d + e) + 1 by omega, show wsN a b n i (d + e + 1) = chN a i * chN b (n - i) + wsN a b n (i + 1) (d + e) from rfl, wsN_add a b n d e (i + 1), show wsN a b n i (d + 1) = chN a i * chN b (n - i) + wsN a b n (i + 1) d from rfl, show i + 1 + d = i + (d + 1) by omega]
    omega
theorem wsN_le {a b n : Nat} {i d : Nat} (h : i + d ≤ n + 1) : wsN a b n i d ≤ chN (a + b) n := by
  have h1 := wsN_add a b n i (n + 1 - i) 0
  have h2 := wsN_add a b n d (n + 1 - i - d) i
  rw [show i + (n + 1 - i) = n + 1 by omega, Nat.zero_add] at h1
  rw [show d + (n + 1 - i - d) = n + 1 - i by omega] at h2
  have h3 := vdm a b n
  omega
