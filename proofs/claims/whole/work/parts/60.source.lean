/-- the class only reads, the reference writes scratch fields -/
def Ok3 (a : Option Int32) (b : Option (Int32 × zSt)) : Prop := ∃ r s2, a = some r ∧ b = some (r, s2) ∧ Inv s2
theorem Ok3.same {σ : zSt} {a : Option Int32} {b : Option (Int32 × zSt)} {r : Int32} (h : Inv σ) (h1 : a = some r) (h2 : b = some (r, σ)) : Ok3 a b := ⟨r, σ, h1, h2, h⟩
theorem Inv_56 {σ : zSt} (h : Inv σ) (v : Int32) : Inv (pI σ 12 0 56 v) := by
  obtain ⟨hO, hC, hN, hH, hK, hF, hS, hL, hG, hD, hT, hX, hZ⟩ := h
  exact ⟨hO, hC, (by repeat (first | assumption | refine fr_vC_I rfl ?_ | refine fr_vN_I rfl ?_ | refine fr_vH_I rfl ?_ | refine fr_vK_I rfl ?_ | refine fr_vF_I rfl ?_ | refine fr_vS_I rfl ?_ | refine fr_vL_I rfl ?_ | refine fr_vG_I rfl ?_ | refine fr_vD_I rfl ?_ | refine fr_vT_I rfl ?_ | refine fr_vX_I rfl ?_ | refine fr_vZ_I rfl ?_)), (by repeat (first | assumption | refine fr_vC_I rfl ?_ | refine fr_vN_I rfl ?_ | refine fr_vH_I rfl ?_ | refine fr_vK_I rfl ?_ | refine fr_vF_I rfl ?_ | refine fr_vS_I rfl ?_ | refine fr_vL_I rfl ?_ | refine fr_vG_I rfl ?_ | refine fr_vD_I rfl ?_ | refine fr_vT_I rfl ?_ | refine fr_vX_I rfl ?_ | refine fr_vZ_I rfl ?_)), (by repeat (first | assumption | refine fr_vC_I rfl ?_ | refine fr_vN_I rfl ?_ | refine fr_vH_I rfl ?_ | refine fr_vK_I rfl ?_ | refine fr_vF_I rfl ?_ | refine fr_vS_I rfl ?_ | refine fr_vL_I rfl ?_ | refine fr_vG_I rfl ?_ | refine fr_vD_I rfl ?_ | refine fr_vT_I rfl ?_ | refine fr_vX_I rfl ?_ | refine fr_vZ_I rfl ?_)), (by repeat (first | assumption | refine fr_vC_I rfl ?_ | refine fr_vN_I rfl ?_ | refine fr_vH_I rfl ?_ | refine fr_vK_I rfl ?_ | refine fr_vF_I rfl ?_ | refine fr_vS_I rfl ?_ | refine fr_vL_I rfl ?_ | refine fr_vG_I rfl ?_ | refine fr_vD_I rfl ?_ | refine fr_vT_I rfl ?_ | refine fr_vX_I rfl ?_ | refine fr_vZ_I rfl ?_)), (by repeat (first | assumption | refine fr_vC_I rfl ?_ | refine fr_vN_I rfl ?_ | refine fr_vH_I rfl ?_ | refine fr_vK_I rfl ?_ | refine fr_vF_I rfl ?_ | refine fr_vS_I rfl ?_ | refine fr_vL_I rfl ?_ | refine fr_vG_I rfl ?_ | refine fr_vD_I rfl ?_ | refine fr_vT_I rfl ?_ | refine fr_vX_I rfl ?_ | refine fr_vZ_I rfl ?_)), (by repeat (first | assumption | refine fr_vC_I rfl ?_ | refine fr_vN_I rfl ?_ | refine fr_vH_I rfl ?_ | refine fr_vK_I rfl ?_ | refine fr_vF_I rfl ?_ | refine fr_vS_I rfl ?_ | refine fr_vL_I rfl ?_ | refine fr_vG_I rfl ?_ | refine fr_vD_I rfl ?_ | refine fr_vT_I rfl ?_ | refine fr_vX_I rfl ?_ | refine fr_vZ_I rfl ?_)), (by repeat (first | assumption | refine fr_vC_I rfl ?_ | refine fr_vN_I rfl ?_ | refine fr_vH_I rfl ?_ | refine fr_vK_I rfl ?_ | refine fr_vF_I rfl ?_ | refine fr_vS_I rfl ?_ | refine fr_vL_I rfl ?_ | refine fr_vG_I rfl ?_ | refine fr_vD_I rfl ?_ | refine fr_vT_I rfl ?_ | refine fr_vX_I rfl ?_ | refine fr_vZ_I rfl ?_)), (by repeat (first | assumption | refine fr_vC_I rfl ?_ | refine fr_vN_I rfl ?_ | refine fr_vH_I rfl ?_ | refine fr_vK_I rfl ?_ | refine fr_vF_I rfl ?_ | refine fr_vS_I rfl ?_ | refine fr_vL_I rfl ?_ | refine fr_vG_I rfl ?_ | refine fr_vD_I rfl ?_ | refine fr_vT_I rfl ?_ | refine fr_vX_I rfl ?_ | refine fr_vZ_I rfl ?_)), (by repeat (first | assumption | refine fr_vC_I rfl ?_ | refine fr_vN_I rfl ?_ | refine fr_vH_I rfl ?_ | refine fr_vK_I rfl ?_ | refine fr_vF_I rfl ?_ | refine fr_vS_I rfl ?_ | refine fr_vL_I rfl ?_ | refine fr_vG_I rfl ?_ | refine fr_vD_I rfl ?_ | refine fr_vT_I rfl ?_ | refine fr_vX_I rfl ?_ | refine fr_vZ_I rfl ?_)), (by repeat (first | assumption | refine fr_vC_I rfl ?_ | refine fr_vN_I rfl ?_ | refine fr_vH_I rfl ?_ | refine fr_vK_I rfl ?_ | refine fr_vF_I rfl ?_ | refine fr_vS_I rfl ?_ | refine fr_vL_I rfl ?_ | refine fr_vG_I rfl ?_ | refine fr_vD_I rfl ?_ | refine fr_vT_I rfl ?_ | refine fr_vX_I rfl ?_ | refine fr_vZ_I rfl ?_)), (by repeat (first | assumption | refine fr_vC_I rfl ?_ | refine fr_vN_I rfl ?_ | refine fr_vH_I rfl ?_ | refine fr_vK_I rfl ?_ | refine fr_vF_I rfl ?_ | refine fr_vS_I rfl ?_ | refine fr_vL_I rfl ?_ | refine fr_vG_I rfl ?_ | refine fr_vD_I rfl ?_ | refine fr_vT_I rfl ?_ | refine fr_vX_I rfl ?_ | refine fr_vZ_I rfl ?_))⟩
theorem RY_dx {s σ : zSt} (x : RY s σ) : dx s = dx σ := by
  obtain ⟨b1, b2, b3, b4, -⟩ := RY_b x
  funext f g
  unfold dx dla dlb
  rw [b1, b2, b4, x.1 1322 (by omega) (by omega), x.2 40 (by omega)]
theorem RY_dmg {s σ : zSt} (x : RY s σ) : dmg s = dmg σ ∧ dcr s = dcr σ := by
  obtain ⟨b1, b2, b3, b4, b5, b6, b7, -⟩ := RY_b x
  have e : dF s = dF σ := by
    funext f g p
    unfold dF
    rw [b5, x.1 1319 (by omega) (by omega), x.1 1320 (by omega) (by omega), RY_dx x, b2]
  constructor
  · funext f
    unfold dmg dml
    rw [e, b7]
  · funext f g
    unfold dcr
    rw [b3, b4, RY_dx x]
theorem h_span {σ : zSt} (h : Inv σ) : btw 0 (gI σ 12 0 40) 60 := h.2.2.1.2.2.2.2.2.2.2.2.2.2.2.2.1
theorem t_damage {σ : zSt} (h : Inv σ) (v1 : Int32) : Ok3 (f11_damage v1 σ) (f12_damage v1 σ) := by
  have hr := RI_of h
  rcases zcase v1 (mF σ) (by have := hr.2.2.1.2; omega) with ⟨f, hf, rfl, hv⟩ | hv
  · have e1 := e_damager h hf
    have e2 := m_damageBy hr (h_span h) hf
    have hN := hr.2.2.1.2
    cases e : dmg σ f with
    | none =>
      refine ⟨-4, _, ?_, ?_, Inv_56 h (ocr σ f (dmg σ f) (gI σ 12 0 56))⟩
      · unfold f11_damage
        rw [e_fAt h hf, zc1_s, zoc_s, e1, e, zc1_s, zoc_n]
      · unfold f12_damage
        rw [m_isF hr, zc1_s, if_neg (by rw [t01]; omega), e2, zc2_s]
        show (if 0 ≤ o2i (dmg σ f) then _ else _) = _
        rw [e, if_neg (show ¬ (0 : Int32) ≤ o2i none by decide)]
    | some g =>
      have hg := (dml_lt (mF σ) g e).1
      refine ⟨nI g, _, ?_, ?_, Inv_56 h (ocr σ f (dmg σ f) (gI σ 12 0 56))⟩
      · unfold f11_damage
        rw [e_fAt h hf, zc1_s, zoc_s, e1, e, zc1_s, zoc_s, (F_R h hg).2.1]
      · unfold f12_damage
        rw [m_isF hr, zc1_s, if_neg (by rw [t01]; omega), e2, zc2_s]
        show (if 0 ≤ o2i (dmg σ f) then _ else _) = _
        rw [e, if_pos (show (0 : Int32) ≤ o2i (some g) by
          show (0 : Int32) ≤ nI g
          rw [i_le, nI_ti (by omega)]
          simp only [Int32.reduceToInt]
          omega)]
        rfl
  · refine Ok3.same h (r := -1) ?_ ?_
    · unfold f11_damage
      rw [e_fAt_o h hv, zc1_s, zoc_n]
    · unfold f12_damage
      rw [m_isF hr, zc1_s, if_pos (by rw [t01]; exact hv)]
/-- FAULTS charged to a crew -/
noncomputable def gch (σ : zSt) (c f : Nat) : Int32 := if (match dmg σ f with | none => (-4 : Int32) | some g => dcr σ f g) = nI c then 1 else 0
theorem e_chargedTo {σ : zSt} (h : Inv σ) (c : Nat) : f11_chargedTo (nI c) σ = some (zs (gch σ c) (mF σ)) := by
  obtain ⟨n1, n2, n3⟩ := N_f h
  unfold f11_chargedTo
  refine lsum (f11_chargedTo_L4 (nI c) σ) _ (mF σ) (by omega) (fun n s f hf => ?_) (fun n s => ?_) (zfuel_pos (by omega))
  · have hl := F_lt (RI_of h) hf
    rw [f11_chargedTo_L4, n1, if_neg (zn_nle hf (by omega)), zix_s hl (by decide), zlt_s, (F_R h hf).1, zoc_s, e_chargedCrew h hf, zc1_s, zlt_s, zlt_s]
    rfl
  · rw [f11_chargedTo_L4, n1, if_pos (zn_rle _)]
theorem m_chargedTo {σ : zSt} (h : RI σ) (hs : btw 0 (gI σ 12 0 40) 60) (c : Nat) (hc : c < 10) : ∃ w, f12_ofCrew_L62 (nI c) zfuel 0 0 σ = some (zs (gch σ c) (mF σ), pI σ 12 0 56 w) := by
  obtain ⟨n1, n2⟩ := h.2.2.1
  have key : ∀ d i n u, i + d = mF σ → d < n → ∃ w, f12_ofCrew_L62 (nI c) n (zs (gch σ c) i) (nI i) (pI σ 12 0 56 u) = some (zs (gch σ c) (mF σ), pI σ 12 0 56 w) := by
    intro d
    induction d with
    | zero =>
      intro i n u hi hn
      obtain ⟨n, rfl⟩ : ∃ q, n = q + 1 := ⟨n - 1, by omega⟩
      obtain rfl : i = mF σ := by omega
      refine ⟨u, ?_⟩
      rw [f12_ofCrew_L62, gI_nk (show ¬ (12 = 12 ∧ 36 = 56) by decide), n1, if_pos (zn_rle _)]
    | succ d ih =>
      intro i n u hi hn
      obtain ⟨n, rfl⟩ : ∃ q, n = q + 1 := ⟨n - 1, by omega⟩
      have hiN : i < mF σ := by omega
      have x : RY (pI σ 12 0 56 u) σ := RY.rf.I (by omega)
      obtain ⟨y1, y2⟩ := RY_dmg x
      have hm : mF (pI σ 12 0 56 u) = mF σ := (RY_b x).2.2.2.2.2.2.1
      have e2 := m_damageBy (RI_Y x h) (by rw [x.2 40 (by omega)]; exact hs) (f := i) (by rw [hm]; exact hiN)
      rw [y1, pI_pI, show gI (pI σ 12 0 56 u) 12 0 56 = u by rw [gI_pI, if_pos ⟨rfl, rfl, rfl⟩]] at e2
      obtain ⟨w, hw⟩ := ih (i + 1) n (ocr (pI σ 12 0 56 u) i (dmg σ i) u) (by omega) (by omega)
      refine ⟨w, ?_⟩
      rw [← hw, f12_ofCrew_L62, gI_nk (show ¬ (12 = 12 ∧ 36 = 56) by decide), n1, if_neg (zn_nle hiN (by omega)), e2, zc2_s, zlt_s, zlt_s, nI_suc i (by omega)]
      congr 1
      show zs (gch σ c) i + _ = zs (gch σ c) i + gch σ c i
      congr 1
      unfold gch
      dsimp only
      rw [show gI (pI σ 12 0 56 (ocr (pI σ 12 0 56 u) i (dmg σ i) u)) 12 0 56 = ocr (pI σ 12 0 56 u) i (dmg σ i) u by rw [gI_pI, if_pos ⟨rfl, rfl, rfl⟩]]
      cases hdm : dmg σ i with
      | none =>
        rw [if_pos (show o2i none < 0 by decide), if_neg]
        intro e
        rw [i_eq, nI_ti (by omega)] at e
        have h4 : (-4 : Int32).toInt = -4 := by decide
        dsimp only at e
        omega
      | some g =>
        rw [if_neg (show ¬ o2i (some g) < 0 by
          show ¬ nI g < 0
          have hg := (dml_lt (mF σ) g hdm).1
          rw [i_lt, nI_ti (by omega)]
          simp only [Int32.reduceToInt]
          omega)]
        show (if dcr (pI σ 12 0 56 u) i g = nI c then 1 else 0) = _
        rw [y2]
  obtain ⟨w, hw⟩ := key (mF σ) 0 zfuel (gI σ 12 0 56) (by omega) (zfuel_pos (by omega))
  rw [pI_self] at hw
  exact ⟨w, hw⟩
theorem crew_sums {σ : zSt} (h : Inv σ) {c : Nat} (hc : c < 10) : f11_saidBy (nI c) σ = some (gI σ 1339 0 c) ∧ f11_falseBy (nI c) σ = some (gI σ 1338 0 c) := by
  obtain ⟨n1, n2, n3⟩ := N_f h
  have hL := h.2.2.2.2.2.2.2.1.2 c hc
  rw [← mF_e h] at hL
  obtain ⟨l1, l2, l3, -⟩ := hL
  rw [l2, l3]
  constructor
  · unfold f11_saidBy
    refine lsum (f11_saidBy_L4 (nI c) σ) _ (mF σ) (by omega) (fun n s f hf => ?_) (fun n s => ?_) (zfuel_pos (by omega))
    · have hl := F_lt (RI_of h) hf
      rw [f11_saidBy_L4, n1, if_neg (zn_nle hf (by omega)), zix_s hl (by decide), zlt_s, (F_R h hf).1, zoc_s, e_timesSaid _ (A_F h hf).2.1, zc1_s, zlt_s, zlt_s]
    · rw [f11_saidBy_L4, n1, if_pos (zn_rle _)]
  · unfold f11_falseBy
    refine lsum (f11_falseBy_L4 (nI c) σ) _ (mF σ) (by omega) (fun n s f hf => ?_) (fun n s => ?_) (zfuel_pos (by omega))
    · have hl := F_lt (RI_of h) hf
      rw [f11_falseBy_L4, n1, if_neg (zn_nle hf (by omega)), zix_s hl (by decide), zlt_s, (F_R h hf).1, zoc_s, e_timesFalse _ (A_F h hf).2.1, zc1_s, zlt_s, zlt_s]
    · rw [f11_falseBy_L4, n1, if_pos (zn_rle _)]
theorem t_ofCrew {σ : zSt} (h : Inv σ) (v1 v2 : Int32) : Ok3 (f11_ofCrew v1 v2 σ) (f12_ofCrew v1 v2 σ) := by
  have hr := RI_of h
  rcases zcase v1 10 (by decide) with ⟨c, hc, rfl, hv⟩ | hv
  · obtain ⟨c1, c2⟩ := crew_sums h hc
    have l1 := (h.2.2.2.2.2.2.2.1.2 c hc).1
    have cc : f11_isIn (nI c) 10 σ = some 1 := by
      rw [e_isIn, if_pos (by simp only [Int32.reduceToInt]; omega)]
    have mc : f12_isCrew (nI c) σ = some 1 := by
      rw [m_isCrew, if_pos (by omega)]
    by_cases hw : 0 ≤ v2.toInt ∧ v2.toInt ≤ 3
    · have mw : f12_within v2 0 3 σ = some 1 := by
        rw [e_within, if_pos (by simp only [Int32.reduceToInt]; exact hw)]
      by_cases e3 : v2 = 3
      · obtain ⟨w, e⟩ := m_chargedTo hr (h_span h) c hc
        refine ⟨zs (gch σ c) (mF σ), pI σ 12 0 56 w, ?_, ?_, Inv_56 h w⟩
        · unfold f11_ofCrew
          rw [cc, zc1_s, if_neg (by decide), e3, if_neg (by decide), if_neg (by decide), if_neg (by decide), if_pos rfl, e_chargedTo h c, zc1_s]
        · unfold f12_ofCrew
          rw [mc, zc1_s, if_neg (by decide), mw, zc1_s, if_neg (by decide), e3, if_pos (by decide), e]
      · have n3 : ¬ (3 : Int32) ≤ v2 := by
          rw [i_le]
          rw [i_eq] at e3
          simp only [Int32.reduceToInt] at e3 ⊢
          omega
        by_cases e0 : v2 = 0
        · refine Ok3.same h (r := gI σ 1339 0 c) ?_ ?_
          · unfold f11_ofCrew
            rw [cc, zc1_s, if_neg (by decide), if_pos e0, c1, zc1_s]
          · unfold f12_ofCrew
            rw [mc, zc1_s, if_neg (by decide), mw, zc1_s, if_neg (by decide), if_neg n3, if_pos e0, zix_s hc (by decide)]
        · by_cases e1 : v2 = 1
          · refine Ok3.same h (r := gI σ 1337 0 c) ?_ ?_
            · unfold f11_ofCrew
              rw [cc, zc1_s, if_neg (by decide), if_neg e0, if_pos e1, zix_s hc (by decide), l1]
            · unfold f12_ofCrew
              rw [mc, zc1_s, if_neg (by decide), mw, zc1_s, if_neg (by decide), if_neg n3, if_neg e0, if_pos e1, zix_s hc (by decide)]
          · have e2 : v2 = 2 := by
              rw [i_eq] at e0 e1 e3 ⊢
              simp only [Int32.reduceToInt] at e0 e1 e3 ⊢
              omega
            refine Ok3.same h (r := gI σ 1338 0 c) ?_ ?_
            · unfold f11_ofCrew
              rw [cc, zc1_s, if_neg (by decide), if_neg e0, if_neg e1, if_pos e2, c2, zc1_s]
            · unfold f12_ofCrew
              rw [mc, zc1_s, if_neg (by decide), mw, zc1_s, if_neg (by decide), if_neg n3, if_neg e0, if_neg e1, zix_s hc (by decide)]
    · refine Ok3.same h (r := -1) ?_ ?_
      · have z : ∀ k : Int32, 0 ≤ k.toInt ∧ k.toInt ≤ 3 → ¬ v2 = k := fun k hk e => hw (by rw [e]; exact hk)
        unfold f11_ofCrew
        rw [cc, zc1_s, if_neg (by decide), if_neg (z 0 (by decide)), if_neg (z 1 (by decide)), if_neg (z 2 (by decide)), if_neg (z 3 (by decide))]
      · unfold f12_ofCrew
        rw [mc, zc1_s, if_neg (by decide), e_within, zc1_s, if_pos (by rw [t01]; simp only [Int32.reduceToInt]; exact hw)]
  · refine Ok3.same h (r := -1) ?_ ?_
    · unfold f11_ofCrew
      rw [e_isIn, zc1_s, if_pos (by rw [t01]; simp only [Int32.reduceToInt]; omega)]
    · unfold f12_ofCrew
      rw [m_isCrew, zc1_s, if_pos (by rw [t01]; omega)]
/-! SOURCE -/
def flg (σ : zSt) (f : Nat) (v : Int32) : Bool := !decide (gI σ 1316 0 (kd σ f) &&& v = 0)
theorem m_hasFlag {σ : zSt} (h : RI σ) {f : Nat} (hf : f < mF σ) (v : Int32) : f12_hasFlag (nI f) v σ = some (b01 (flg σ f v)) := by
  obtain ⟨k1, k2, k3⟩ := F_kd h hf
  unfold f12_hasFlag flg
  rw [zix_s (F_lt h hf) (by decide), k1, zix_s k3 (by decide)]
  by_cases e : gI σ 1316 0 (kd σ f) &&& v = 0
  · rw [if_pos e, decide_eq_true e]; rfl
  · rw [if_neg e, decide_eq_false e]; rfl
theorem e_has {σ : zSt} (h : Inv σ) {f : Nat} (hf : f < mF σ) (v : Int32) : f7_has (kd σ f) v σ = some (b01 (flg σ f v)) := by
  obtain ⟨k1, k2, k3⟩ := F_kd (RI_of h) hf
  unfold f7_has flg
  rw [(A_K h k2).2.2.2.1]
  by_cases e : gI σ 1316 0 (kd σ f) &&& v = 0
  · rw [if_pos e, decide_eq_true e]; rfl
  · rw [if_neg e, decide_eq_false e]; rfl
def pab (σ : zSt) (d : Int32) (f g : Nat) : Bool := decide (hm σ g = hm σ f ∧ gI σ 1319 0 g = gI σ 1319 0 f + 4) && (flg σ g 1 && lft σ g d)
def lkb (σ : zSt) (d : Int32) (f : Nat) : Option Nat := zfirst (pab σ d f) 0 (mF σ)
theorem e_leakAbove {σ : zSt} (h : Inv σ) {f : Nat} (d : Int32) (hf : f < mF σ) : f11_leakAbove f d σ = some (lkb σ d f) := by
  obtain ⟨n1, n2, n3⟩ := N_f h
  have hr := RI_of h
  unfold f11_leakAbove lkb
  rw [lfirst (f11_leakAbove_L2 f d σ) (some none) (pab σ d f) (fun g => some (some g)) (mF σ) (by omega) (fun n g hg => ?_) (fun n => ?_) (zfuel_pos (by omega))]
  · cases zfirst (pab σ d f) 0 (mF σ) <;> rfl
  · have hl := F_lt hr hg
    obtain ⟨r1, r2, r3, r4⟩ := F_R h hg
    obtain ⟨q1, q2, q3, q4⟩ := F_R h hf
    rw [f11_leakAbove_L2, n1, if_neg (zn_nle hg (by omega)), zix_s hl (by decide), zlt_s, r1, zoc_s, zlt_s, r3, zlt_s, q3, zlt_s, zlt_s, zlt_s, r4, zlt_s, zoc_s, e_has h hg, zc1_s, e_isLeftOn _ (A_F h hg).2.1 (F_RS hr hg), zc1_s, (F_I h hg).1, (F_I h hf).1]
    simp only [some_eq, b2_and, t01]
    unfold pab
    by_cases e : hm σ g = hm σ f ∧ gI σ 1319 0 g = gI σ 1319 0 f + 4
    · rw [if_neg (fun h => h e), decide_eq_true e]
      cases flg σ g 1
      · rfl
      · cases lft σ g d <;> rfl
    · rw [if_pos e, decide_eq_false e]
      rfl
  · rw [f11_leakAbove_L2, n1, if_pos (zn_rle _)]
theorem m_leakAbove {σ : zSt} (h : RI σ) {f : Nat} (d : Int32) (hf : f < mF σ) : f12_leakAbove (nI f) d σ = some (o2i (lkb σ d f)) := by
  obtain ⟨n1, n2⟩ := h.2.2.1
  unfold f12_leakAbove lkb
  rw [lfirst (f12_leakAbove_L2 (nI f) d σ) (some (-1)) (pab σ d f) (fun g => some (nI g)) (mF σ) (by omega) (fun n g hg => ?_) (fun n => ?_) (zfuel_pos (by omega))]
  · cases zfirst (pab σ d f) 0 (mF σ) <;> rfl
  · have hl := F_lt h hg
    have hlf := F_lt h hf
    obtain ⟨m1, m2, m3⟩ := F_hm h hg
    obtain ⟨p1, p2, p3⟩ := F_hm h hf
    have hrm := (F_RF h hg).2.2.1
    rw [f12_leakAbove_L2, n1, if_neg (zn_nle hg (by omega)), zlt_s, zlt_s, zix_s hl (by decide), zix_s hlf (by decide), zix_s hl (by decide), zix_s hlf (by decide), m_hasFlag h hg, zc1_s, m_isLeft _ hl (F_RS h hg), zc1_s, m1, p1]
    simp only [nI_inj (show g < 2 ^ 31 by omega) (show f < 2 ^ 31 by omega), nI_inj (show hm σ g < 2 ^ 31 by omega) (show hm σ f < 2 ^ 31 by omega)]
    unfold pab
    by_cases e0 : g = f
    · rw [if_pos e0, decide_eq_false]
      · rfl
      · rintro ⟨-, e⟩
        rw [e0] at e hrm
        rw [i_eq, i_addp (by unfold btw at hrm; simp only [Int32.reduceToInt]; omega)] at e
        simp only [Int32.reduceToInt] at e
        omega
    · rw [if_neg e0]
      by_cases e1 : hm σ g = hm σ f
      · rw [if_pos e1]
        by_cases e2 : gI σ 1319 0 g = gI σ 1319 0 f + 4
        · rw [if_pos e2, decide_eq_true ⟨e1, e2⟩]
          cases flg σ g 1
          · rfl
          · cases lft σ g d <;> rfl
        · rw [if_neg e2, decide_eq_false fun h => e2 h.2]
          rfl
      · rw [if_neg e1, decide_eq_false fun h => e1 h.1]
        rfl
  · rw [f12_leakAbove_L2, n1, if_pos (zn_rle _)]
/-- the chain of leaks -/
def chn (σ : zSt) (d : Int32) : Nat → Nat → Nat
  | 0, f => f
  | k + 1, f => if flg σ f 4 then (match lkb σ d f with | none => f | some g => chn σ d k g) else f
theorem lkb_some {σ : zSt} {d : Int32} {f g : Nat} (h : lkb σ d f = some g) : g < mF σ ∧ gI σ 1319 0 g = gI σ 1319 0 f + 4 := by
  obtain ⟨h1, h2, h3, -⟩ := zfirst_some (mF σ) 0 g h
  unfold pab at h3
  rw [Bool.and_eq_true, decide_eq_true_eq] at h3
  exact ⟨by omega, h3.1.2⟩
theorem e_source {σ : zSt} (h : Inv σ) (d : Int32) (K60 K74 : Option Nat → Option Int32) (hK : ∀ f, f < mF σ → K60 (some f) = some (nI f) ∧ K74 (some f) = some (nI f)) : ∀ k j f n, j + k = 3 → f < mF σ → k < n → f11_source_L30 d σ K60 K74 n (some f) (nI j) = some (nI (chn σ d k f)) := by
  have hr := RI_of h
  intro k
  induction k with
  | zero =>
    intro j f n hj hf hn
    obtain ⟨n, rfl⟩ : ∃ q, n = q + 1 := ⟨n - 1, by omega⟩
    obtain rfl : j = 3 := by omega
    rw [f11_source_L30, if_pos (by decide), (hK f hf).2]
    rfl
  | succ k ih =>
    intro j f n hj hf hn
    obtain ⟨n, rfl⟩ : ∃ q, n = q + 1 := ⟨n - 1, by omega⟩
    rw [f11_source_L30, if_neg (by rw [i_lt, nI_ti (show j < 2 ^ 31 by omega)]; simp only [Int32.reduceToInt]; omega), zoc_s, (F_R h hf).2.2.2, zlt_s, zoc_s, e_has h hf, zc1_s, e_leakAbove h d hf, zc1_s, (hK f hf).1, (hK f hf).2]
    unfold chn
    cases flg σ f 4
    · rfl
    · rw [if_neg (show ¬ b01 true = 0 by decide), if_pos rfl]
      cases e : lkb σ d f with
      | none => rw [zoc_n]
      | some g =>
        rw [zoc_s, zlt_s, nI_suc j (by omega)]
        exact ih (j + 1) g n (by omega) (lkb_some e).1 (by omega)
theorem m_source {σ : zSt} (h : RI σ) (d : Int32) : ∀ (k f n : Nat), f < mF σ → 8 ≤ (gI σ 1319 0 f).toInt + 4 * k → k < n → f12_source_L50 d σ n (nI f) (if flg σ f 4 then o2i (lkb σ d f) else -1) = some (nI (chn σ d k f)) := by
  intro k
  induction k with
  | zero =>
    intro f n hf hk hn
    obtain ⟨n, rfl⟩ : ∃ q, n = q + 1 := ⟨n - 1, by omega⟩
    have hrm := (F_RF h hf).2.2.1
    have : (if flg σ f 4 then o2i (lkb σ d f) else -1) = (-1 : Int32) := by
      cases e : lkb σ d f with
      | none => split <;> rfl
      | some g =>
        obtain ⟨g1, g2⟩ := lkb_some e
        have hrg := (F_RF h g1).2.2.1
        unfold btw at hrm hrg
        rw [i_eq, i_addp (by simp only [Int32.reduceToInt]; omega)] at g2
        simp only [Int32.reduceToInt] at g2
        omega
    rw [this, f12_source_L50, if_pos (by decide)]
    rfl
  | succ k ih =>
    intro f n hf hk hn
    obtain ⟨n, rfl⟩ : ∃ q, n = q + 1 := ⟨n - 1, by omega⟩
    unfold chn
    cases flg σ f 4
    · simp only [Bool.false_eq_true, if_false]
      rw [f12_source_L50]
      exact if_pos (by decide)
    · rw [if_pos rfl, if_pos rfl]
      cases e : lkb σ d f with
      | none =>
        rw [f12_source_L50, if_pos (by decide)]
      | some g =>
        obtain ⟨g1, g2⟩ := lkb_some e
        have hrm := (F_RF h hf).2.2.1
        have hgl := F_lt h g1
        have ih := ih g n g1 (by
          unfold btw at hrm
          rw [i_eq, i_addp (by simp only [Int32.reduceToInt]; omega)] at g2
          simp only [Int32.reduceToInt] at g2
          omega) (by omega)
        rw [f12_source_L50, if_neg (show ¬ o2i (some g) < 0 by
          show ¬ nI g < 0
          rw [i_lt, nI_ti (by omega)]
          simp only [Int32.reduceToInt]
          omega)]
        show zc1 (f12_hasFlag (nI g) 4 σ) _ = some (nI (chn σ d k g))
        rw [m_hasFlag h g1, zc1_s, zlt_s, show o2i (some g) = nI g from rfl, m_leakAbove h d g1, zc1_s, ← ih]
        cases flg σ g 4 <;> rfl
theorem t_source {σ : zSt} (h : Inv σ) (v1 v2 : Int32) : Ok1 (f11_source v1 v2 σ) (f12_source v1 v2 σ) := by
  have hr := RI_of h
  rcases zcase v1 (mF σ) (by have := hr.2.2.1.2; omega) with ⟨f, hf, rfl, hv⟩ | hv
  · by_cases hd : 0 ≤ v2.toInt ∧ v2.toInt < 10000
    · by_cases ht : gI σ 1322 0 f ≤ v2
      · refine ⟨nI (chn σ v2 3 f), ?_, ?_⟩
        · unfold f11_source
          rw [e_fAt h hf, zc1_s, zoc_s, e_isDay, zc1_s, if_neg (by rw [t01]; omega), (F_I h hf).2.2.2.2.1, if_pos ht]
          exact e_source h v2 _ _ (fun g hg => ⟨by rw [zoc_s, (F_R h hg).2.1], by rw [zoc_s, (F_R h hg).2.1]⟩) 3 0 f zfuel (by omega) hf (zfuel_pos (by omega))
        · unfold f12_source
          rw [m_isF hr, zc1_s, if_neg (by rw [t01]; omega), m_isDay, zc1_s, if_neg (by rw [t01]; omega), zix_s (F_lt hr hf) (by decide), if_pos ht, m_hasFlag hr hf, zc1_s, zlt_s, m_leakAbove hr v2 hf, zc1_s]
          have hrm := (F_RF hr hf).2.2.1
          rw [← m_source hr v2 3 f zfuel hf (by unfold btw at hrm; omega) (zfuel_pos (by omega))]
          cases flg σ f 4 <;> rfl
      · refine ⟨-1, ?_, ?_⟩
        · unfold f11_source
          rw [e_fAt h hf, zc1_s, zoc_s, e_isDay, zc1_s, if_neg (by rw [t01]; omega), (F_I h hf).2.2.2.2.1, if_neg ht]
        · unfold f12_source
          rw [m_isF hr, zc1_s, if_neg (by rw [t01]; omega), m_isDay, zc1_s, if_neg (by rw [t01]; omega), zix_s (F_lt hr hf) (by decide), if_neg ht]
    · refine ⟨-1, ?_, ?_⟩
      · unfold f11_source
        rw [e_fAt h hf, zc1_s, zoc_s, e_isDay, zc1_s, if_pos (by rw [t01]; omega)]
      · unfold f12_source
        rw [m_isF hr, zc1_s, if_neg (by rw [t01]; omega), m_isDay, zc1_s, if_pos (by rw [t01]; omega)]
  · refine ⟨-1, ?_, ?_⟩
    · unfold f11_source
      rw [e_fAt_o h hv, zc1_s, zoc_n]
    · unfold f12_source
      rw [m_isF hr, zc1_s, if_pos (by rw [t01]; exact hv)]
