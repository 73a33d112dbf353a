theorem lsumK {β : Type} (L : Nat → Int32 → Int32 → Option β) (K : Int32 → Option β) (g : Nat → Int32) (N : Nat) (hN : N + 1 < 2 ^ 31) (hstep : ∀ n s i, i < N → L (n + 1) s (nI i) = L n (s + g i) (nI i + 1)) (hstop : ∀ n s, L (n + 1) s (nI N) = K s) {fuel : Nat} (hf : N < fuel) : L fuel 0 0 = K (zs g N) := by
  have key : ∀ d i n, i + d = N → d < n → L n (zs g i) (nI i) = K (zs g N) := by
    intro d
    induction d with
    | zero =>
      intro i n hi hd
      obtain rfl : i = N := by omega
      obtain ⟨m, rfl⟩ : ∃ m, n = m + 1 := ⟨n - 1, by omega⟩
      exact hstop m _
    | succ d ih =>
      intro i n hi hd
      obtain ⟨m, rfl⟩ : ∃ m, n = m + 1 := ⟨n - 1, by omega⟩
      rw [hstep m _ i (by omega), nI_suc i (by omega)]
      exact ih (i + 1) m (by omega) (by omega)
  exact key N 0 fuel (by omega) hf
def gwt (σ : zSt) (s d : Int32) (f : Nat) : Int32 := if gI σ 1301 0 (hm σ f) = s then (if lft σ f d then gI σ 1321 0 f else 0) else 0
def wgt (σ : zSt) (s d : Int32) : Int32 := zs (gwt σ s d) (mF σ)
theorem wgt_in {σ : zSt} (h : RI σ) (s d : Int32) : 0 ≤ (wgt σ s d).toInt ∧ (wgt σ s d).toInt ≤ 1800 := by
  have h2 := h.2.2.1.2
  have := zs_in (a := gwt σ s d) (m := 9) (by omega) (mF σ) (by omega) fun f hf => by
    have hs := (F_RF h hf).2.2.2.2.2.1
    unfold btw at hs
    have h0 : (0 : Int32).toInt = 0 := rfl
    unfold gwt
    split
    · split <;> omega
    · omega
  unfold wgt
  omega
theorem m_weightOf {σ : zSt} (h : RI σ) (s d : Int32) : f12_weightOf s d σ = some (wgt σ s d) := by
  obtain ⟨n1, n2⟩ := h.2.2.1
  unfold f12_weightOf wgt
  refine lsum (f12_weightOf_L5 s d σ) _ (mF σ) (by omega) (fun n a f hf => ?_) (fun n a => ?_) (zfuel_pos (by omega))
  · have hl := F_lt h hf
    obtain ⟨m1, m2, m3⟩ := F_hm h hf
    rw [f12_weightOf_L5, n1, if_neg (zn_nle hf (by omega)), zix_s hl (by decide), m1, zix_s m3 (by decide), zlt_s, zlt_s, m_isLeft _ hl (F_RS h hf), zc1_s]
    unfold gwt
    by_cases e : gI σ 1301 0 (hm σ f) = s
    · rw [if_pos e, if_pos e]
      cases lft σ f d
      · rw [if_pos (by rfl)]; rfl
      · rw [if_neg (by decide), zix_s hl (by decide)]; rfl
    · rw [if_neg e, if_neg e]; rfl
  · rw [f12_weightOf_L5, n1, if_pos (zn_rle _)]
theorem e_weightOf {σ : zSt} (h : Inv σ) (s d : Int32) : f11_weightOf s d σ = some (wgt σ s d) := by
  obtain ⟨n1, n2, n3⟩ := N_f h
  have hr := RI_of h
  unfold f11_weightOf wgt
  refine lsum (f11_weightOf_L5 s d σ) _ (mF σ) (by omega) (fun n a f hf => ?_) (fun n a => ?_) (zfuel_pos (by omega))
  · have hl := F_lt hr hf
    obtain ⟨r1, r2, r3, r4⟩ := F_R h hf
    obtain ⟨m1, m2, m3⟩ := F_hm hr hf
    rw [f11_weightOf_L5, n1, if_neg (zn_nle hf (by omega)), zix_s hl (by decide), zlt_s, r1, zoc_s, zlt_s, r3, zoc_s, zlt_s, zlt_s, (A_H h m2).2.1, e_isLeftOn _ (A_F h hf).2.1 (F_RS hr hf), zc1_s, (F_I h hf).2.2.1]
    unfold gwt
    by_cases e : gI σ 1301 0 (hm σ f) = s
    · rw [if_pos e, if_pos e]
      cases lft σ f d
      · rw [if_pos (by rfl)]; rfl
      · rw [if_neg (by decide)]; rfl
    · rw [if_neg e, if_neg e]; rfl
  · rw [f11_weightOf_L5, n1, if_pos (zn_rle _)]
theorem t_weight {σ : zSt} (h : Inv σ) (v1 v2 : Int32) : Ok1 (f11_weight v1 v2 σ) (f12_weight v1 v2 σ) := by
  have hr := RI_of h
  unfold f11_weight f12_weight
  rw [e_isIn, zc1_s, e_isDay, zc1_s, e_weightOf h, zc1_s, e_within, zc1_s, zlt_s, m_isDay, zc1_s, m_weightOf hr, zc1_s]
  simp only [t01, Int32.reduceToInt]
  by_cases c1 : 0 ≤ v1.toInt ∧ v1.toInt < 8
  · rw [if_neg (show ¬ ¬ (0 ≤ v1.toInt ∧ v1.toInt < 8) by omega), if_neg (show ¬ ¬ (0 ≤ v1.toInt ∧ v1.toInt ≤ 7) by omega)]
    by_cases c2 : 0 ≤ v2.toInt ∧ v2.toInt < 10000
    · rw [if_neg (show ¬ ¬ (0 ≤ v2.toInt ∧ v2.toInt < 10000) by omega)]
      exact ⟨_, rfl, rfl⟩
    · rw [if_pos c2]
      exact ⟨_, rfl, rfl⟩
  · rw [if_pos c1, if_pos (show ¬ (0 ≤ v1.toInt ∧ v1.toInt ≤ 7) by omega)]
    exact ⟨_, rfl, rfl⟩
/-- how many streets are worse -/
def gpl (σ : zSt) (s d : Int32) (k : Nat) : Int32 := if (wgt σ s d).toInt < (wgt σ (nI k) d).toInt then 1 else (if wgt σ (nI k) d = wgt σ s d then (if s ≤ nI k then 0 else 1) else 0)
theorem e_placeOf {σ : zSt} (h : Inv σ) (s d : Int32) : f11_placeOf s d σ = some (zs (gpl σ s d) 8) := by
  unfold f11_placeOf
  rw [e_weightOf h, zc1_s]
  refine lsum (f11_placeOf_L13 s d (wgt σ s d) σ) _ 8 (by decide) (fun n a k hk => ?_) (fun n a => ?_) (zfuel_pos (by omega))
  · rw [f11_placeOf_L13, if_neg (by exact zn_nle hk (by decide)), e_weightOf h, zc1_s, zlt_s, zlt_s]
    unfold gpl
    simp only [i_lt]
  · rw [f11_placeOf_L13, if_pos (by exact zn_rle 8)]
theorem m_place {σ : zSt} (h : RI σ) (v s d : Int32) (K : Int32 → Option Int32) : f12_worst_L33 v d s σ K zfuel 0 0 = K (zs (gpl σ s d) 8) := by
  refine lsumK (f12_worst_L33 v d s σ K) K _ 8 (by decide) (fun n a k hk => ?_) (fun n a => ?_) (zfuel_pos (by omega))
  · rw [f12_worst_L33, if_neg (by exact zn_nle hk (by decide)), m_weightOf h, zc1_s, m_weightOf h, zc1_s, zlt_s, zlt_s, zlt_s]
    have w1 := wgt_in h (nI k) d
    have w2 := wgt_in h s d
    have e : (wgt σ (nI k) d - wgt σ s d).toInt = (wgt σ (nI k) d).toInt - (wgt σ s d).toInt := i_subp (by omega)
    have h0 : (0 : Int32).toInt = 0 := rfl
    congr 2
    unfold gpl
    by_cases c1 : (wgt σ s d).toInt < (wgt σ (nI k) d).toInt
    · rw [if_pos c1, if_pos (by rw [i_lt, e]; omega)]
    · rw [if_neg c1, if_neg (by rw [i_lt, e]; omega)]
      by_cases c2 : wgt σ (nI k) d = wgt σ s d
      · rw [if_pos c2, if_pos (by rw [i_eq, e, c2]; omega)]
      · rw [if_neg c2, if_neg (by rw [i_eq, e]; rw [i_eq] at c2; omega)]
  · rw [f12_worst_L33, if_pos (by exact zn_rle 8)]
theorem t_worst {σ : zSt} (h : Inv σ) (v1 v2 : Int32) : Ok1 (f11_worst v1 v2 σ) (f12_worst v1 v2 σ) := by
  have hr := RI_of h
  have w1 : f11_worst_L20 v1 v2 σ zfuel 0 = match zfirst (fun s => zs (gpl σ (nI s) v2) 8 == v1) 0 8 with | some j => some (nI j) | none => some (-1) := by
    refine lfirst (f11_worst_L20 v1 v2 σ) (some (-1)) (fun s => zs (gpl σ (nI s) v2) 8 == v1) (fun s => some (nI s)) 8 (by decide) (fun n s hs => ?_) (fun n => ?_) (zfuel_pos (by omega))
    · rw [f11_worst_L20, if_neg (by exact zn_nle hs (by decide)), e_placeOf h, zc1_s, zlt_s]
      simp only [beq_iff_eq]
    · rw [f11_worst_L20, if_pos (by exact zn_rle 8)]
  have w2 : f12_worst_L21 v1 v2 σ zfuel 0 = match zfirst (fun s => zs (gpl σ (nI s) v2) 8 == v1) 0 8 with | some j => some (nI j) | none => some (-1) := by
    refine lfirst (f12_worst_L21 v1 v2 σ) (some (-1)) (fun s => zs (gpl σ (nI s) v2) 8 == v1) (fun s => some (nI s)) 8 (by decide) (fun n s hs => ?_) (fun n => ?_) (zfuel_pos (by omega))
    · rw [f12_worst_L21, if_neg (by exact zn_nle hs (by decide)), m_place hr, zlt_s]
      simp only [beq_iff_eq]
    · rw [f12_worst_L21, if_pos (by exact zn_rle 8)]
  unfold f11_worst f12_worst
  rw [e_isIn, zc1_s, e_isDay, zc1_s, w1, e_within, zc1_s, m_isDay, zc1_s, w2]
  simp only [t01, Int32.reduceToInt]
  by_cases c1 : 0 ≤ v1.toInt ∧ v1.toInt < 8
  · rw [if_neg (show ¬ ¬ (0 ≤ v1.toInt ∧ v1.toInt < 8) by omega), if_neg (show ¬ ¬ (0 ≤ v1.toInt ∧ v1.toInt ≤ 7) by omega)]
    by_cases c2 : 0 ≤ v2.toInt ∧ v2.toInt < 10000
    · rw [if_neg (show ¬ ¬ (0 ≤ v2.toInt ∧ v2.toInt < 10000) by omega)]
      cases zfirst (fun s => zs (gpl σ (nI s) v2) 8 == v1) 0 8 with
      | none => exact ⟨_, rfl, rfl⟩
      | some j => exact ⟨_, rfl, rfl⟩
    · rw [if_pos c2]
      exact ⟨_, rfl, rfl⟩
  · rw [if_pos c1, if_pos (show ¬ (0 ≤ v1.toInt ∧ v1.toInt ≤ 7) by omega)]
    exact ⟨_, rfl, rfl⟩
def gkey (σ : zSt) (i : Nat) : Int32 := if gI σ 1305 0 i < 0 then 0 else 1
theorem e_sumOf {σ : zSt} (h : Inv σ) : f11_sumOfHomes 8 σ = some (zs (fun i => gI σ 1310 0 i) (mH σ)) ∧ f11_sumOfHomes 9 σ = some (zs (fun i => gI σ 1311 0 i) (mH σ)) ∧ f11_sumOfHomes 10 σ = some (zs (fun i => gI σ 1312 0 i) (mH σ)) ∧ f11_sumOfHomes 11 σ = some (zs (gkey σ) (mH σ)) := by
  obtain ⟨n1, n2, n3⟩ := N_h h
  refine ⟨?_, ?_, ?_, ?_⟩
  · unfold f11_sumOfHomes
    refine lsum (f11_sumOfHomes_L4 8 σ) _ (mH σ) (by omega) (fun n s i hi => ?_) (fun n s => ?_) (zfuel_pos (by omega))
    · obtain ⟨a1, a2, a3, a4, a5, a6, a7, a8, a9, a10, a11, a12⟩ := A_H h hi
      rw [f11_sumOfHomes_L4, n1, if_neg (zn_nle hi (by omega)), zix_s (show i < 40 by omega) (by decide), zlt_s, a1, zlt_s, if_pos rfl, zoc_s, zlt_s, a8]; rfl
    · rw [f11_sumOfHomes_L4, n1, if_pos (zn_rle _)]
  · unfold f11_sumOfHomes
    refine lsum (f11_sumOfHomes_L4 9 σ) _ (mH σ) (by omega) (fun n s i hi => ?_) (fun n s => ?_) (zfuel_pos (by omega))
    · obtain ⟨a1, a2, a3, a4, a5, a6, a7, a8, a9, a10, a11, a12⟩ := A_H h hi
      rw [f11_sumOfHomes_L4, n1, if_neg (zn_nle hi (by omega)), zix_s (show i < 40 by omega) (by decide), zlt_s, a1, zlt_s, if_neg (by decide), if_pos rfl, zoc_s, zlt_s, a9]; rfl
    · rw [f11_sumOfHomes_L4, n1, if_pos (zn_rle _)]
  · unfold f11_sumOfHomes
    refine lsum (f11_sumOfHomes_L4 10 σ) _ (mH σ) (by omega) (fun n s i hi => ?_) (fun n s => ?_) (zfuel_pos (by omega))
    · obtain ⟨a1, a2, a3, a4, a5, a6, a7, a8, a9, a10, a11, a12⟩ := A_H h hi
      rw [f11_sumOfHomes_L4, n1, if_neg (zn_nle hi (by omega)), zix_s (show i < 40 by omega) (by decide), zlt_s, a1, zlt_s, if_neg (by decide), if_neg (by decide), if_pos rfl, zoc_s, zlt_s, a10]; rfl
    · rw [f11_sumOfHomes_L4, n1, if_pos (zn_rle _)]
  · unfold f11_sumOfHomes
    refine lsum (f11_sumOfHomes_L4 11 σ) _ (mH σ) (by omega) (fun n s i hi => ?_) (fun n s => ?_) (zfuel_pos (by omega))
    · obtain ⟨a1, a2, a3, a4, a5, a6, a7, a8, a9, a10, a11, a12, a13, a14, a15⟩ := A_H h hi
      rw [f11_sumOfHomes_L4, n1, if_neg (zn_nle hi (by omega)), zix_s (show i < 40 by omega) (by decide), zlt_s, a1, zlt_s, if_neg (by decide), if_neg (by decide), if_neg (by decide), zoc_s, e_hasKey (by rw [a6]; exact a14), zc1_s, zlt_s, a6, if01]
      show f11_sumOfHomes_L4 11 σ n _ (nI i + 1) = _
      unfold gkey
      have h0 : (0 : Int32).toInt = 0 := rfl
      congr 2
      by_cases e : 0 ≤ (gI σ 1305 0 i).toInt
      · rw [if_pos e, if_neg (by rw [i_lt]; omega)]
      · rw [if_neg e, if_pos (by rw [i_lt]; omega)]
    · rw [f11_sumOfHomes_L4, n1, if_pos (zn_rle _)]
theorem m_count {σ : zSt} (h : RI σ) (v : Int32) (K : Int32 → Int32 → Int32 → Int32 → Option Int32) : f12_count_L13 v σ K zfuel 0 0 0 0 0 = K (zs (fun i => gI σ 1310 0 i) (mH σ)) (zs (fun i => gI σ 1311 0 i) (mH σ)) (zs (fun i => gI σ 1312 0 i) (mH σ)) (zs (gkey σ) (mH σ)) := by
  obtain ⟨n1, n2⟩ := h.1
  have key : ∀ d i n, i + d = mH σ → d < n → f12_count_L13 v σ K n (zs (fun i => gI σ 1310 0 i) i) (zs (fun i => gI σ 1311 0 i) i) (zs (fun i => gI σ 1312 0 i) i) (zs (gkey σ) i) (nI i) = K (zs (fun i => gI σ 1310 0 i) (mH σ)) (zs (fun i => gI σ 1311 0 i) (mH σ)) (zs (fun i => gI σ 1312 0 i) (mH σ)) (zs (gkey σ) (mH σ)) := by
    intro d
    induction d with
    | zero =>
      intro i n hi hd
      obtain rfl : i = mH σ := by omega
      obtain ⟨m, rfl⟩ : ∃ m, n = m + 1 := ⟨n - 1, by omega⟩
      rw [f12_count_L13, n1, if_pos (zn_rle _)]
    | succ d ih =>
      intro i n hi hd
      obtain ⟨m, rfl⟩ : ∃ m, n = m + 1 := ⟨n - 1, by omega⟩
      have hi40 : i < 40 := by omega
      rw [f12_count_L13, n1, if_neg (zn_nle (show i < mH σ by omega) (by omega)), zix_s hi40 (by decide), zlt_s, zix_s hi40 (by decide), zlt_s, zix_s hi40 (by decide), zlt_s, zix_s hi40 (by decide), zlt_s, zlt_s, nI_suc i (by omega)]
      exact ih (i + 1) m (by omega) (by omega)
  exact key (mH σ) 0 zfuel (by omega) (zfuel_pos (by omega))
theorem t_count {σ : zSt} (h : Inv σ) (v1 : Int32) : Ok1 (f11_count v1 σ) (f12_count v1 σ) := by
  have hr := RI_of h
  obtain ⟨c1, c2, c3, c4⟩ := e_sumOf h
  obtain ⟨h1, h2, h3⟩ := N_h h
  obtain ⟨f1, f2, f3⟩ := N_f h
  obtain ⟨k1, k2, k3⟩ := N_k h
  obtain ⟨q1, q2⟩ := N_q h
  obtain ⟨-, -, -, -, -, -, -, -, -, hD, hT, hX, -⟩ := h
  have x0 := hX 0 (by decide)
  have x1 := hX 1 (by decide)
  obtain ⟨r, hr0⟩ : ∃ r, f12_count v1 σ = some r ∧ f11_count v1 σ = some r := by
    unfold f11_count f12_count
    rw [m_count hr]
    have z0 : ∀ k : Nat → Option Int32, zix 0 2 k = k 0 := fun k => zix_s (show 0 < 2 by decide) (by decide) k
    have z1 : ∀ k : Nat → Option Int32, zix 1 2 k = k 1 := fun k => zix_s (show 1 < 2 by decide) (by decide) k
    simp only [z0, z1, h1, h2, f1, f2, k1, k2, q1, x0.1, x0.2.1, x1.1, x1.2.1, hT.1, hT.2.1, hD.2.1, hD.2.2.1]
    by_cases e0 : v1 = 0
    · simp only [if_pos e0]; exact ⟨_, rfl, rfl⟩
    simp only [if_neg e0]
    by_cases e0 : v1 = 1
    · simp only [if_pos e0]; exact ⟨_, rfl, rfl⟩
    simp only [if_neg e0]
    by_cases e0 : v1 = 2
    · simp only [if_pos e0]; exact ⟨_, rfl, rfl⟩
    simp only [if_neg e0]
    by_cases e0 : v1 = 3
    · simp only [if_pos e0]; exact ⟨_, rfl, rfl⟩
    simp only [if_neg e0]
    by_cases e0 : v1 = 4
    · simp only [if_pos e0]; exact ⟨_, rfl, rfl⟩
    simp only [if_neg e0]
    by_cases e0 : v1 = 5
    · simp only [if_pos e0]; exact ⟨_, rfl, rfl⟩
    simp only [if_neg e0]
    by_cases e0 : v1 = 6
    · simp only [if_pos e0]; exact ⟨_, rfl, rfl⟩
    simp only [if_neg e0]
    by_cases e0 : v1 = 7
    · simp only [if_pos e0]; exact ⟨_, rfl, rfl⟩
    simp only [if_neg e0]
    by_cases e0 : v1 = 8
    · simp only [if_pos e0]; rw [e0, c1, zc1_s]; exact ⟨_, rfl, rfl⟩
    simp only [if_neg e0]
    by_cases e0 : v1 = 9
    · simp only [if_pos e0]; rw [e0, c2, zc1_s]; exact ⟨_, rfl, rfl⟩
    simp only [if_neg e0]
    by_cases e0 : v1 = 10
    · simp only [if_pos e0]; rw [e0, c3, zc1_s]; exact ⟨_, rfl, rfl⟩
    simp only [if_neg e0]
    by_cases e0 : v1 = 11
    · simp only [if_pos e0]; rw [e0, c4, zc1_s]; exact ⟨_, rfl, rfl⟩
    simp only [if_neg e0]
    exact ⟨_, rfl, rfl⟩
  exact ⟨r, hr0.2, hr0.1⟩
