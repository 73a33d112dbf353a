theorem e_div {x : Int32} {d : Nat} (h : 0 ≤ x.toInt) (hd : 0 < d ∧ d < 1000) : (zop_idiv x (nI d)).toInt = x.toInt / d := by
  have h1 := (i_rng x).2
  have h2 : 0 ≤ x.toInt / d := Int.ediv_nonneg h (by omega)
  have h3 : x.toInt / d ≤ x.toInt := Int.ediv_le_self _ h
  unfold zop_idiv
  rw [Int32.toInt_div, nI_ti (by omega), Int.tdiv_eq_ediv_of_nonneg h, Int.bmod_eq_of_le] <;> omega
theorem e_rem {x : Int32} {d : Nat} (h : 0 ≤ x.toInt) (hd : 0 < d ∧ d < 1000) : (zop_irem x (nI d)).toInt = x.toInt % d := by
  have h0 := e_div h hd
  unfold zop_idiv at h0
  have h1 := (i_rng x).2
  have h4 := Int.mul_ediv_add_emod x.toInt d
  have h5 := Int.emod_nonneg x.toInt (show (d : Int) ≠ 0 by omega)
  have h6 : 0 ≤ (d : Int) * (x.toInt / d) := Int.mul_nonneg (by omega) (Int.ediv_nonneg h (by omega))
  have h7 : (x / nI d * nI d).toInt = d * (x.toInt / d) := by
    rw [Int32.toInt_mul, h0, nI_ti (by omega), Int.mul_comm, Int.bmod_eq_of_le] <;> omega
  unfold zop_irem
  rw [Int32.toInt_sub, h7, Int.bmod_eq_of_le] <;> omega
/-- a row of slots is filled with one value -/
def zrow (t i c : Nat) (w : Int32) (s : zSt) (n : Nat) : zSt := zfold (fun j s => pI s t i (c + j) w) s n
theorem zrow_ne {t i c a : Nat} {w : Int32} (h : a ≠ t) (s : zSt) : ∀ n, gI (zrow t i c w s n) a = gI s a
  | 0 => rfl
  | n + 1 => by
    show gI (pI (zrow t i c w s n) t i (c + n) w) a = _
    rw [gI_ne h, zrow_ne h s n]
theorem zrow_R {t i c : Nat} {w : Int32} (s : zSt) : ∀ n, gR (zrow t i c w s n) = gR s
  | 0 => rfl
  | n + 1 => zrow_R s n
theorem zrow_N {t i c : Nat} {w : Int32} (s : zSt) : ∀ n, gN (zrow t i c w s n) = gN s
  | 0 => rfl
  | n + 1 => zrow_N s n
theorem zrow_Z {t i c : Nat} {w : Int32} (s : zSt) : ∀ n, gZ (zrow t i c w s n) = gZ s
  | 0 => rfl
  | n + 1 => zrow_Z s n
theorem zrow_at {t i c : Nat} {w : Int32} (s : zSt) (b d : Nat) : ∀ n, gI (zrow t i c w s n) t b d = if b = i ∧ c ≤ d ∧ d < c + n then w else gI s t b d
  | 0 => by rw [if_neg (by omega)]; rfl
  | n + 1 => by
    show gI (pI (zrow t i c w s n) t i (c + n) w) t b d = _
    rw [gI_pI, zrow_at s b d n]
    by_cases h : b = i ∧ d = c + n
    · rw [if_pos ⟨rfl, h⟩, if_pos (by omega)]
    · rw [if_neg (fun z => h z.2)]
      by_cases h2 : b = i ∧ c ≤ d ∧ d < c + n
      · rw [if_pos h2, if_pos (by omega)]
      · rw [if_neg h2, if_neg (by omega)]
theorem l_fill611 (k : Nat) (w : Int32) (s : zSt) : fJ7_fill_611 k w s = some ((), zrow 611 k 0 w s 10) := by
  unfold fJ7_fill_611
  simp only [zlt_s]
  refine zloop (β := Unit × zSt) (fun n s i => fJ7_fill_611_L5 k w (nI 10) n (nI i) s) (fun s => some ((), s)) (fun j s => pI s 611 k (0 + j) w) 10 s ?_ ?_ zfuel (zfuel_pos (by omega))
  · intro n i hi
    show fJ7_fill_611_L5 k w (nI 10) (n + 1) (nI i) (zrow 611 k 0 w s i) = _
    rw [fJ7_fill_611_L5, if_neg (by rw [i_le, nI_ti (show i < 2 ^ 31 by omega), nI_ti (by decide)]; omega), zix_s (by omega) (by decide)]
    simp only [zlt_s]
    rw [nI_suc i (by omega)]
    show fJ7_fill_611_L5 k w (nI 10) n (nI (i + 1)) (pI (zrow 611 k 0 w s i) 611 k i w) = fJ7_fill_611_L5 k w (nI 10) n (nI (i + 1)) (pI (zrow 611 k 0 w s i) 611 k (0 + i) w)
    rw [Nat.zero_add]
  · intro n
    show fJ7_fill_611_L5 k w (nI 10) (n + 1) (nI 10) (zrow 611 k 0 w s 10) = _
    rw [fJ7_fill_611_L5, if_pos (by rw [i_le]; omega)]
    rfl
theorem l_home118 (k : Nat) (hk : k < 40) (K : zSt → Option (Int32 × zSt)) (s : zSt) (hs : gI s 12 0 13 = nI k) : f12_home_L118 K zfuel 0 s = K (zrow 1309 0 (10 * k) (-1) s 10) := by
  refine zloop (fun n s i => f12_home_L118 K n (nI i) s) K (fun j s => pI s 1309 0 (10 * k + j) (-1)) 10 s ?_ ?_ zfuel (zfuel_pos (by omega))
  · intro n i hi
    show f12_home_L118 K (n + 1) (nI i) (zrow 1309 0 (10 * k) (-1) s i) = _
    have e : gI (zrow 1309 0 (10 * k) (-1) s i) 12 0 13 = nI k := by rw [zrow_ne (by decide)]; exact hs
    rw [f12_home_L118, if_neg (by rw [i_le, nI_ti (show i < 2 ^ 31 by omega)]; simp only [Int32.reduceToInt]; omega), e, nI_row10 k i (by omega), zix_s (by omega) (by decide)]
    simp only [zlt_s]
    rw [nI_suc i (by omega)]
    rfl
  · intro n
    show f12_home_L118 K (n + 1) (nI 10) (zrow 1309 0 (10 * k) (-1) s 10) = _
    rw [f12_home_L118, if_pos (by decide)]
    rfl
/-- the new home on both sides -/
def hmC (σ : zSt) (k : Nat) (a b c d : Int32) : zSt := pI (pI (pI (pI (pR (nw (pR (nw (pI (pI (nw σ 5 0) 5 k 4 (-1)) 5 k 5 127) 610 20) 5 k 10 (some k)) 611 10) 5 k 11 (some k)) 5 k 0 a) 5 k 1 b) 5 k 2 c) 5 k 3 d
def hmC2 (σ : zSt) (k : Nat) (a b c d : Int32) : zSt := pI (pR (zrow 611 k 0 (-1) (hmC σ k a b c d) 10) 1200 0 k (some k)) 11 0 1 (nI (k + 1))
def hmM (s : zSt) (k : Nat) (a b c d : Int32) : zSt := pI (pI (pI (pI (pI (pI s 1301 0 k a) 1302 0 k b) 1303 0 k c) 1304 0 k d) 1305 0 k (-1)) 1308 0 k 127
def hmM2 (s : zSt) (k : Nat) (a b c d : Int32) : zSt := pI (zrow 1309 0 (10 * k) (-1) (hmM s k a b c d) 10) 12 0 13 (nI (k + 1))
theorem f5_init_run {σ : zSt} {k : Nat} (h0 : gN σ 610 = k) (h1 : gN σ 611 = k) (a b c d : Int32) : f5_init k a b c d (nw σ 5 0) = some ((), zrow 611 k 0 (-1) (hmC σ k a b c d) 10) := by
  have e1 : gN (pI (pI (nw σ 5 0) 5 k 4 (-1)) 5 k 5 127) 610 = k := h0
  have e2 : gN (pR (nw (pI (pI (nw σ 5 0) 5 k 4 (-1)) 5 k 5 127) 610 20) 5 k 10 (some k)) 611 = k := h1
  have e3 : gR (hmC σ k a b c d) 5 k 11 = some k := by simp [hmC, gR_I, gR_pR]
  unfold hmC at e3
  unfold f5_init
  simp only [zlt_s, e1, e2, e3, zoc_s, l_fill611, zc2_s]
  rfl
theorem sub1 (k : Nat) (h : k + 1 < 2 ^ 31) : nI (k + 1) - 1 = nI k := by rw [← nI_suc k h, Int32.add_sub_cancel]
theorem c_home {σ : zSt} {k : Nat} (hk : k < 40) (hC : vC σ) (h5 : gN σ 5 = k) (h11 : gI σ 11 0 1 = nI k) (hR : gR σ 11 0 0 = some 0) {v1 v2 v3 : Int32} (hv1 : 0 ≤ v1.toInt ∧ v1.toInt < 800) (hv2 : 0 ≤ v2.toInt ∧ v2.toInt ≤ 999) (hv3 : 0 ≤ v3.toInt ∧ v3.toInt ≤ 9) : f11_home v1 v2 v3 σ = some (nI k, hmC2 σ k (zop_idiv v1 100) (zop_irem v1 100) v2 v3) := by
  have c1 : gN σ 610 = k := by rw [← h5]; exact hC.2.2.2.2.2.2.2.2.2.2.1
  have c2 : gN σ 611 = k := by rw [← h5]; exact hC.2.2.2.2.2.2.2.2.2.2.2.1
  unfold f11_home
  simp only [e_isIn, zc1_s, t01, Int32.reduceToInt, zlt_s, h5, hR, f5_init_run c1 c2, zc2_s, zoc_s, h11]
  rw [if_neg (by omega), if_neg (by omega), if_neg (by omega), if_neg (by decide), if_pos (show nI k < 40 from nI_lt hk (by decide)), zix_s (by omega) (by decide)]
  have e1 : gI (pR (zrow 611 k 0 (-1) (hmC σ k (zop_idiv v1 100) (zop_irem v1 100) v2 v3) 10) 1200 0 k (some k)) 11 0 1 = nI k := by
    rw [gI_R, zrow_ne (by decide)]
    exact h11
  rw [e1, nI_suc k (by omega)]
  show some (nI (k + 1) - 1, _) = _
  rw [sub1 k (by omega)]
  rfl
theorem m_home {s : zSt} {k : Nat} (hk : k < 40) (h12 : gI s 12 0 13 = nI k) {v1 v2 v3 : Int32} (hv1 : 0 ≤ v1.toInt ∧ v1.toInt < 800) (hv2 : 0 ≤ v2.toInt ∧ v2.toInt ≤ 999) (hv3 : 0 ≤ v3.toInt ∧ v3.toInt ≤ 9) : f12_home v1 v2 v3 s = some (nI k, hmM2 s k (zop_idiv v1 100) (zop_irem v1 100) v2 v3) := by
  have hd := e_div (d := 100) hv1.1 (by omega)
  unfold f12_home
  generalize hL : f12_home_L118 = L
  rw [if_neg (by rw [i_lt]; simp only [Int32.reduceToInt]; omega), if_neg (by rw [i_le, show (100 : Int32) = nI 100 from rfl, hd]; simp only [Int32.reduceToInt]; omega)]
  rw [e_within, zc1_s, if_neg (by rw [t01]; simp only [Int32.reduceToInt]; omega), e_within, zc1_s, if_neg (by rw [t01]; simp only [Int32.reduceToInt]; omega), if_neg (by rw [h12]; show ¬ nI k = nI 40; rw [nI_inj (by omega) (by decide)]; omega)]
  have e : ∀ (a : Nat) (w : Int32) (u : zSt), a ≠ 12 → gI (pI u a 0 k w) 12 = gI u 12 := fun a w u h => gI_ne (Ne.symm h)
  rw [h12, zix_s hk (by decide), zlt_s, e 1301 _ _ (by decide), h12, zix_s hk (by decide), zlt_s, e 1302 _ _ (by decide), e 1301 _ _ (by decide), h12, zix_s hk (by decide), zlt_s, e 1303 _ _ (by decide), e 1302 _ _ (by decide), e 1301 _ _ (by decide), h12, zix_s hk (by decide), zlt_s, e 1304 _ _ (by decide), e 1303 _ _ (by decide), e 1302 _ _ (by decide), e 1301 _ _ (by decide), h12, zix_s hk (by decide), zlt_s, e 1305 _ _ (by decide), e 1304 _ _ (by decide), e 1303 _ _ (by decide), e 1302 _ _ (by decide), e 1301 _ _ (by decide), h12, zix_s hk (by decide), zlt_s]
  rw [← hL, l_home118 k hk _ _ (by rw [e 1308 _ _ (by decide), e 1305 _ _ (by decide), e 1304 _ _ (by decide), e 1303 _ _ (by decide), e 1302 _ _ (by decide), e 1301 _ _ (by decide)]; exact h12)]
  have e5 : gI (zrow 1309 0 (10 * k) (-1) (hmM s k (zop_idiv v1 100) (zop_irem v1 100) v2 v3) 10) 12 0 13 = nI k := by
    rw [zrow_ne (by decide)]
    exact h12
  unfold hmM at e5
  rw [zlt_s, e5, gI_pI, if_pos ⟨rfl, rfl, rfl⟩]
  rw [nI_suc k (by omega), sub1 k (by omega)]
  unfold hmM2 hmM
  with_reducible rfl
