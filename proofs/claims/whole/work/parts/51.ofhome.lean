def gtold (σ : zSt) (i f : Nat) : Int32 := if hm σ f = i then 1 else 0
def gleft (σ : zSt) (d : Int32) (i f : Nat) : Int32 := if hm σ f = i then b01 (lft σ f d) else 0
def gfals (σ : zSt) (i f : Nat) : Int32 := if hm σ f = i then gI σ 1335 0 f else 0
def brk (σ : zSt) (f : Nat) : Int32 := gI σ 1333 0 f + (if zpr (gI σ 1330 0 f) (gI σ 1331 0 f) (qday σ) = 3 then 1 else 0)
def gbrok (σ : zSt) (i f : Nat) : Int32 := if hm σ f = i then brk σ f else 0
theorem hm_eq {σ : zSt} (h : RI σ) {f i : Nat} (hf : f < mF σ) (hi : i < 40) : (gI σ 1318 0 f = nI i) = (hm σ f = i) := by
  have a := F_hm h hf
  rw [a.1, nI_inj (by omega) (by omega)]
theorem some_eq {a b : Nat} : (some a = some b) = (a = b) := by simp
theorem m_leftOf {σ : zSt} (h : RI σ) {i : Nat} (hi : i < 40) : f12_leftOf (nI i) σ = some (zs (gleft σ (qday σ) i) (mF σ)) := by
  obtain ⟨n1, n2⟩ := h.2.2.1
  unfold f12_leftOf
  refine lsum (f12_leftOf_L4 (nI i) σ) _ (mF σ) (by omega) (fun n s f hf => ?_) (fun n s => ?_) (zfuel_pos (by omega))
  · have hR := F_RS h hf
    have hl := F_lt h hf
    rw [f12_leftOf_L4, n1, if_neg (zn_nle hf (by omega)), zix_s hl (by decide), zlt_s, zlt_s]
    simp only [hm_eq h hf hi]
    unfold gleft
    by_cases e : hm σ f = i
    · rw [if_pos e, if_pos e, show gI σ 12 0 0 = qday σ from rfl, m_isLeft _ hl hR, zc1_s]
      cases lft σ f (qday σ)
      · rw [if_pos (by rfl)]; rfl
      · rw [if_neg (by decide)]; rfl
    · rw [if_neg e, if_neg e]; rfl
  · rw [f12_leftOf_L4, n1, if_pos (zn_rle _)]
theorem e_leftIn {σ : zSt} (h : Inv σ) (i : Nat) : f11_leftIn i σ = some (zs (gleft σ (qday σ) i) (mF σ)) := by
  obtain ⟨n1, n2, n3⟩ := N_f h
  have q1 := (N_q h).1
  have hr := RI_of h
  unfold f11_leftIn
  refine lsum (f11_leftIn_L4 i σ) _ (mF σ) (by omega) (fun n s f hf => ?_) (fun n s => ?_) (zfuel_pos (by omega))
  · have hl := F_lt hr hf
    obtain ⟨r1, r2, r3, r4⟩ := F_R h hf
    rw [f11_leftIn_L4, n1, if_neg (zn_nle hf (by omega)), zix_s hl (by decide), zlt_s, r1, zoc_s, zlt_s, r3, zlt_s, zlt_s]
    simp only [some_eq]
    unfold gleft
    by_cases e : hm σ f = i
    · rw [if_pos e, if_pos e, zix_s hl (by decide), zlt_s, r1, zoc_s, q1, e_isLeftOn _ (A_F h hf).2.1 (F_RS hr hf), zc1_s]
      cases lft σ f (qday σ)
      · rw [if_pos (by rfl)]; rfl
      · rw [if_neg (by decide)]; rfl
    · rw [if_neg e, if_neg e]; rfl
  · rw [f11_leftIn_L4, n1, if_pos (zn_rle _)]
theorem e_toldIn {σ : zSt} (h : Inv σ) (i : Nat) : f11_toldIn i σ = some (zs (gtold σ i) (mF σ)) := by
  obtain ⟨n1, n2, n3⟩ := N_f h
  unfold f11_toldIn
  refine lsum (f11_toldIn_L4 i σ) _ (mF σ) (by omega) (fun n s f hf => ?_) (fun n s => ?_) (zfuel_pos (by omega))
  · have hl := F_lt (RI_of h) hf
    obtain ⟨r1, r2, r3, r4⟩ := F_R h hf
    rw [f11_toldIn_L4, n1, if_neg (zn_nle hf (by omega)), zix_s hl (by decide), zlt_s, r1, zoc_s, zlt_s, r3, zlt_s, zlt_s]
    simp only [some_eq]
    rfl
  · rw [f11_toldIn_L4, n1, if_pos (zn_rle _)]
theorem m_toldOf {σ : zSt} (h : RI σ) {i : Nat} (hi : i < 40) : f12_ofHome_L123 (nI i) σ zfuel 0 0 = some (zs (gtold σ i) (mF σ)) := by
  obtain ⟨n1, n2⟩ := h.2.2.1
  refine lsum (f12_ofHome_L123 (nI i) σ) _ (mF σ) (by omega) (fun n s f hf => ?_) (fun n s => ?_) (zfuel_pos (by omega))
  · have hl := F_lt h hf
    rw [f12_ofHome_L123, n1, if_neg (zn_nle hf (by omega)), zix_s hl (by decide), zlt_s, zlt_s]
    simp only [hm_eq h hf hi]
    rfl
  · rw [f12_ofHome_L123, n1, if_pos (zn_rle _)]
theorem m_falseOf {σ : zSt} (h : RI σ) {i : Nat} (hi : i < 40) : f12_falseOf (nI i) σ = some (zs (gfals σ i) (mF σ)) := by
  obtain ⟨n1, n2⟩ := h.2.2.1
  unfold f12_falseOf
  refine lsum (f12_falseOf_L4 (nI i) σ) _ (mF σ) (by omega) (fun n s f hf => ?_) (fun n s => ?_) (zfuel_pos (by omega))
  · have hl := F_lt h hf
    rw [f12_falseOf_L4, n1, if_neg (zn_nle hf (by omega)), zix_s hl (by decide), zlt_s, zix_s hl (by decide)]
    simp only [hm_eq h hf hi]
    unfold gfals
    by_cases e : hm σ f = i
    · rw [if_pos e, if_pos e]; rfl
    · rw [if_neg e, if_neg e]; rfl
  · rw [f12_falseOf_L4, n1, if_pos (zn_rle _)]
theorem e_falseIn {σ : zSt} (h : Inv σ) (i : Nat) : f11_falseIn i σ = some (zs (gfals σ i) (mF σ)) := by
  obtain ⟨n1, n2, n3⟩ := N_f h
  unfold f11_falseIn
  refine lsum (f11_falseIn_L4 i σ) _ (mF σ) (by omega) (fun n s f hf => ?_) (fun n s => ?_) (zfuel_pos (by omega))
  · have hl := F_lt (RI_of h) hf
    obtain ⟨r1, r2, r3, r4⟩ := F_R h hf
    have hL := (h.2.2.2.2.2.2.2.1.1 f (by rw [← mF_e h]; exact hf)).2
    rw [f11_falseIn_L4, n1, if_neg (zn_nle hf (by omega)), zix_s hl (by decide), zlt_s, r1, zoc_s, zlt_s, r3, zlt_s]
    simp only [some_eq]
    unfold gfals
    by_cases e : hm σ f = i
    · rw [if_pos e, if_pos e, zix_s hl (by decide), zlt_s, r1, zoc_s, e_timesFalse _ (A_F h hf).2.1, zc1_s, hL]; rfl
    · rw [if_neg e, if_neg e]; rfl
  · rw [f11_falseIn_L4, n1, if_pos (zn_rle _)]
theorem m_brokenOf {σ : zSt} (h : RI σ) {i : Nat} (hi : i < 40) : f12_brokenOf (nI i) σ = some (zs (gbrok σ i) (mF σ)) := by
  obtain ⟨n1, n2⟩ := h.2.2.1
  unfold f12_brokenOf
  refine lsum (f12_brokenOf_L4 (nI i) σ) _ (mF σ) (by omega) (fun n s f hf => ?_) (fun n s => ?_) (zfuel_pos (by omega))
  · have hl := F_lt h hf
    rw [f12_brokenOf_L4, n1, if_neg (zn_nle hf (by omega)), zix_s hl (by decide), zlt_s, zix_s hl (by decide)]
    simp only [hm_eq h hf hi]
    unfold gbrok brk
    by_cases e : hm σ f = i
    · rw [if_pos e, if_pos e, m_promiseNow hl, zc1_s]; rfl
    · rw [if_neg e, if_neg e]; rfl
  · rw [f12_brokenOf_L4, n1, if_pos (zn_rle _)]
theorem e_brokenBy {σ : zSt} (h : Inv σ) {f : Nat} (hf : f < mF σ) : f1_brokenBy f (qday σ) σ = some (brk σ f) := by
  unfold f1_brokenBy brk
  rw [e_promiseOn, zc1_s, zpr_same (A_F h hf).1, (F_I h hf).2.2.2.2.2.2.2.1]
theorem e_brokenIn {σ : zSt} (h : Inv σ) (i : Nat) : f11_brokenIn i σ = some (zs (gbrok σ i) (mF σ)) := by
  obtain ⟨n1, n2, n3⟩ := N_f h
  have q1 := (N_q h).1
  unfold f11_brokenIn
  refine lsum (f11_brokenIn_L4 i σ) _ (mF σ) (by omega) (fun n s f hf => ?_) (fun n s => ?_) (zfuel_pos (by omega))
  · have hl := F_lt (RI_of h) hf
    obtain ⟨r1, r2, r3, r4⟩ := F_R h hf
    rw [f11_brokenIn_L4, n1, if_neg (zn_nle hf (by omega)), zix_s hl (by decide), zlt_s, r1, zoc_s, zlt_s, r3, zlt_s]
    simp only [some_eq]
    unfold gbrok
    by_cases e : hm σ f = i
    · rw [if_pos e, if_pos e, zix_s hl (by decide), zlt_s, r1, zoc_s, q1, e_brokenBy h hf, zc1_s]; rfl
    · rw [if_neg e, if_neg e]; rfl
  · rw [f11_brokenIn_L4, n1, if_pos (zn_rle _)]
theorem e_hAt {σ : zSt} (h : Inv σ) {i : Nat} (hi : i < mH σ) : f11_homeAt (nI i) σ = some (some i) := by
  obtain ⟨n1, n2, n3⟩ := N_h h
  exact e_homeAt n1 n3 (A_H h hi).1 hi
theorem e_hAt_o {σ : zSt} (h : Inv σ) {v : Int32} (hv : ¬ (0 ≤ v.toInt ∧ v.toInt < mH σ)) : f11_homeAt v σ = some none := by
  obtain ⟨n1, n2, n3⟩ := N_h h
  exact e_homeAt_o n1 n3 hv
theorem e_fAt {σ : zSt} (h : Inv σ) {i : Nat} (hi : i < mF σ) : f11_faultAt (nI i) σ = some (some i) := by
  obtain ⟨n1, n2, n3⟩ := N_f h
  exact e_faultAt n1 n3 (F_R h hi).1 hi
theorem e_fAt_o {σ : zSt} (h : Inv σ) {v : Int32} (hv : ¬ (0 ≤ v.toInt ∧ v.toInt < mF σ)) : f11_faultAt v σ = some none := by
  obtain ⟨n1, n2, n3⟩ := N_f h
  exact e_faultAt_o n1 n3 hv
theorem e_kAt {σ : zSt} (h : Inv σ) {i : Nat} (hi : i < mK σ) : f11_kindAt (nI i) σ = some (some i) := by
  obtain ⟨n1, n2, n3⟩ := N_k h
  exact e_kindAt n1 n3 (A_K h hi).1 hi
theorem e_kAt_o {σ : zSt} (h : Inv σ) {v : Int32} (hv : ¬ (0 ≤ v.toInt ∧ v.toInt < mK σ)) : f11_kindAt v σ = some none := by
  obtain ⟨n1, n2, n3⟩ := N_k h
  exact e_kindAt_o n1 n3 hv
theorem m_isH {σ : zSt} (h : RI σ) (v : Int32) : f12_isHome v σ = some (if 0 ≤ v.toInt ∧ v.toInt < mH σ then 1 else 0) := m_isHome h.1.1 h.1.2 v
theorem m_isK {σ : zSt} (h : RI σ) (v : Int32) : f12_isKind v σ = some (if 0 ≤ v.toInt ∧ v.toInt < mK σ then 1 else 0) := m_isKind h.2.1.1 h.2.1.2 v
theorem m_isF {σ : zSt} (h : RI σ) (v : Int32) : f12_isFault v σ = some (if 0 ≤ v.toInt ∧ v.toInt < mF σ then 1 else 0) := m_isFault h.2.2.1.1 h.2.2.1.2 v
theorem t_ofHome {σ : zSt} (h : Inv σ) (v1 v2 : Int32) : Ok1 (f11_ofHome v1 v2 σ) (f12_ofHome v1 v2 σ) := by
  have hr := RI_of h
  rcases zcase v1 (mH σ) (by have := hr.1.2; omega) with ⟨i, hi, rfl, hv⟩ | hv
  · have hi4 : i < 40 := Nat.lt_of_lt_of_le hi hr.1.2
    obtain ⟨a1, a2, a3, a4, a5, a6, a7, a8, a9, a10, a11, a12⟩ := A_H h hi
    obtain ⟨r, hr0⟩ : ∃ r, f12_ofHome (nI i) v2 σ = some r ∧ f11_ofHome (nI i) v2 σ = some r := by
      unfold f11_ofHome f12_ofHome
      rw [e_hAt h hi, zc1_s, zoc_s, m_isH hr, zc1_s, if_neg (by rw [t01]; omega)]
      simp only [zix_s hi4 (show 40 < 2 ^ 31 by decide), e_toldIn h i, e_leftIn h i, e_falseIn h i, e_brokenIn h i, m_toldOf hr hi4, m_leftOf hr hi4, m_falseOf hr hi4, m_brokenOf hr hi4, zc1_s, a2, a3, a4, a5, a6, a7, a8, a9, a10, a11]
      by_cases e0 : v2 = 0
      · simp only [if_pos e0]
        first | exact ⟨_, rfl, rfl⟩ | (simp only [ite_some]; exact ⟨_, rfl, rfl⟩)
      simp only [if_neg e0]
      by_cases e1 : v2 = 1
      · simp only [if_pos e1]
        first | exact ⟨_, rfl, rfl⟩ | (simp only [ite_some]; exact ⟨_, rfl, rfl⟩)
      simp only [if_neg e1]
      by_cases e2 : v2 = 2
      · simp only [if_pos e2]
        first | exact ⟨_, rfl, rfl⟩ | (simp only [ite_some]; exact ⟨_, rfl, rfl⟩)
      simp only [if_neg e2]
      by_cases e3 : v2 = 3
      · simp only [if_pos e3]
        first | exact ⟨_, rfl, rfl⟩ | (simp only [ite_some]; exact ⟨_, rfl, rfl⟩)
      simp only [if_neg e3]
      by_cases e4 : v2 = 4
      · simp only [if_pos e4]
        first | exact ⟨_, rfl, rfl⟩ | (simp only [ite_some]; exact ⟨_, rfl, rfl⟩)
      simp only [if_neg e4]
      by_cases e5 : v2 = 5
      · simp only [if_pos e5]
        first | exact ⟨_, rfl, rfl⟩ | (simp only [ite_some]; exact ⟨_, rfl, rfl⟩)
      simp only [if_neg e5]
      by_cases e6 : v2 = 6
      · simp only [if_pos e6]
        first | exact ⟨_, rfl, rfl⟩ | (simp only [ite_some]; exact ⟨_, rfl, rfl⟩)
      simp only [if_neg e6]
      by_cases e7 : v2 = 7
      · simp only [if_pos e7]
        first | exact ⟨_, rfl, rfl⟩ | (simp only [ite_some]; exact ⟨_, rfl, rfl⟩)
      simp only [if_neg e7]
      by_cases e8 : v2 = 8
      · simp only [if_pos e8]
        first | exact ⟨_, rfl, rfl⟩ | (simp only [ite_some]; exact ⟨_, rfl, rfl⟩)
      simp only [if_neg e8]
      by_cases e9 : v2 = 9
      · simp only [if_pos e9]
        first | exact ⟨_, rfl, rfl⟩ | (simp only [ite_some]; exact ⟨_, rfl, rfl⟩)
      simp only [if_neg e9]
      by_cases e10 : v2 = 10
      · simp only [if_pos e10]
        first | exact ⟨_, rfl, rfl⟩ | (simp only [ite_some]; exact ⟨_, rfl, rfl⟩)
      simp only [if_neg e10]
      by_cases e11 : v2 = 11
      · simp only [if_pos e11]
        first | exact ⟨_, rfl, rfl⟩ | (simp only [ite_some]; exact ⟨_, rfl, rfl⟩)
      simp only [if_neg e11]
      by_cases e12 : v2 = 12
      · simp only [if_pos e12]
        first | exact ⟨_, rfl, rfl⟩ | (simp only [ite_some]; exact ⟨_, rfl, rfl⟩)
      simp only [if_neg e12]
      exact ⟨_, rfl, rfl⟩
    exact ⟨r, hr0.2, hr0.1⟩
  · refine ⟨-1, ?_, ?_⟩
    · unfold f11_ofHome
      rw [e_hAt_o h hv, zc1_s, zoc_n]
    · unfold f12_ofHome
      rw [m_isH hr, zc1_s, if_pos (by rw [t01]; exact hv)]
