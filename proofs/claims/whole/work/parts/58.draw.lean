def sby (σ : zSt) (c f : Nat) : Bool := decide (sT σ f (sz σ f - 1) = 2 ∧ lcr σ f = nI c)
theorem m_isSaidBy {σ : zSt} {f : Nat} (c : Nat) (hf : f < 200) (H : RS σ f) : f12_isSaidBy (nI f) (nI c) σ = some (b01 (sby σ c f)) := by
  unfold f12_isSaidBy sby
  rw [m_stateNow hf H.1 ⟨H.2.1, H.2.2.1⟩, zc1_s, zlt_s, m_lastCrew hf H, zc1_s]
  show (if sT σ f (sz σ f - 1) = 2 then _ else _) = _
  by_cases e : sT σ f (sz σ f - 1) = 2
  · rw [if_pos e]
    by_cases e2 : lcr σ f = nI c
    · rw [if_pos e2, decide_eq_true ⟨e, e2⟩]; rfl
    · rw [if_neg e2, decide_eq_false fun h => e2 h.2]; rfl
  · rw [if_neg e, decide_eq_false fun h => e h.1]; rfl
theorem e_isSaidNowBy' {σ : zSt} {f : Nat} (c : Nat) (hq : btw 0 (qday σ) 9999) (H : vS1 σ f) (hd : 0 ≤ (gI σ 1322 0 f).toInt) : f1_isSaidNowBy f (nI c) σ = some (b01 (sby σ c f)) := by
  have hl := e_lastCrew hq H hd
  obtain ⟨s1, s2, s3, s4, s5, -⟩ := H
  unfold f1_isSaidNowBy sby
  rw [e_now s2 ⟨s3, s4⟩, zc1_s, zlt_s, hl, zc1_s, (s5 (sz σ f - 1) (by omega)).2.1]
  by_cases e : sT σ f (sz σ f - 1) = 2
  · rw [if_pos e]
    by_cases e2 : lcr σ f = nI c
    · rw [if_pos e2, decide_eq_true ⟨e, e2⟩]; rfl
    · rw [if_neg e2, decide_eq_false fun h => e2 h.2]; rfl
  · rw [if_neg e, decide_eq_false fun h => e h.1]; rfl
theorem e_isSaidNowBy {σ : zSt} (h : Inv σ) {f : Nat} (c : Nat) (hf : f < mF σ) : f1_isSaidNowBy f (nI c) σ = some (b01 (sby σ c f)) := e_isSaidNowBy' c (N_q h).2 (A_F h hf).2.1 (F_RF (RI_of h) hf).2.2.2.2.2.2.1.1
theorem RY_sby {s σ : zSt} (x : RY s σ) : sby s = sby σ := by
  obtain ⟨b1, b2, b3, b4, -⟩ := RY_b x
  funext c f
  unfold sby
  rw [RY_lcr x, b1, b4]
/-- how many of the next d -/
def cnt (p : Nat → Bool) (i : Nat) : Nat → Nat
  | 0 => 0
  | d + 1 => (if p i then 1 else 0) + cnt p (i + 1) d
theorem cnt_le (p : Nat → Bool) : ∀ d i, cnt p i d ≤ d
  | 0, _ => Nat.le_refl _
  | d + 1, i => by
    have := cnt_le p d (i + 1)
    unfold cnt
    split <;> omega
theorem cnt_end (p : Nat → Bool) : ∀ d i, cnt p i (d + 1) = cnt p i d + (if p (i + d) then 1 else 0)
  | 0, i => by
    show (if p i then 1 else 0) + 0 = 0 + (if p (i + 0) then 1 else 0)
    rw [Nat.add_zero, Nat.add_zero, Nat.zero_add]
  | d + 1, i => by
    have := cnt_end p d (i + 1)
    rw [show i + 1 + d = i + (d + 1) by omega] at this
    rw [show cnt p i (d + 1 + 1) = (if p i then 1 else 0) + cnt p (i + 1) (d + 1) from rfl, this, show cnt p i (d + 1) = (if p i then 1 else 0) + cnt p (i + 1) d from rfl]
    omega
theorem zs_cnt (p : Nat → Bool) : ∀ n, n < 10000 → zs (fun i => if b01 (p i) = 0 then 0 else 1) n = nI (cnt p 0 n)
  | 0, _ => rfl
  | n + 1, hn => by
    have hc := cnt_le p n 0
    show zs _ n + (if b01 (p n) = 0 then 0 else 1) = _
    rw [zs_cnt p n (by omega), cnt_end, Nat.zero_add]
    cases p n
    · rw [if_pos (by rfl), if_neg (by decide), i_add0]; rfl
    · rw [if_neg (by decide), if_pos rfl]
      exact nI_suc _ (by omega)
theorem e_drawC {σ : zSt} (h : Inv σ) (c : Nat) (K : Int32 → Option (Int32 × zSt)) : f11_draw_L15 (nI c) σ K zfuel 0 0 = K (nI (cnt (sby σ c) 0 (mF σ))) := by
  obtain ⟨n1, n2, n3⟩ := N_f h
  rw [lsumK (f11_draw_L15 (nI c) σ K) K (fun i => if b01 (sby σ c i) = 0 then 0 else 1) (mF σ) (by omega) (fun n s f hf => ?_) (fun n s => ?_) (zfuel_pos (by omega)), zs_cnt _ _ (by omega)]
  · have hl := F_lt (RI_of h) hf
    rw [f11_draw_L15, n1, if_neg (zn_nle hf (by omega)), zix_s hl (by decide), zlt_s, (F_R h hf).1, zoc_s, e_isSaidNowBy h c hf, zc1_s, zlt_s, zlt_s]
  · rw [f11_draw_L15, n1, if_pos (zn_rle _)]
theorem m_drawC {σ : zSt} (h : RI σ) (c : Nat) (K : Int32 → Option (Int32 × zSt)) : f12_draw_L13 (nI c) σ K zfuel 0 0 = K (nI (cnt (sby σ c) 0 (mF σ))) := by
  obtain ⟨n1, n2⟩ := h.2.2.1
  rw [lsumK (f12_draw_L13 (nI c) σ K) K (fun i => if b01 (sby σ c i) = 0 then 0 else 1) (mF σ) (by omega) (fun n s f hf => ?_) (fun n s => ?_) (zfuel_pos (by omega)), zs_cnt _ _ (by omega)]
  · have hl := F_lt h hf
    rw [f12_draw_L13, n1, if_neg (zn_nle hf (by omega)), m_isSaidBy c hl (F_RS h hf), zc1_s, zlt_s, zlt_s]
  · rw [f12_draw_L13, n1, if_pos (zn_rle _)]
/-- both go to the same place -/
theorem draw_both {s1 s2 : zSt} {c N : Nat} {p : Nat → Bool} (hN : N ≤ 200) (n1 : gI s1 11 0 5 = nI N) (h1 : ∀ f, f < N → gR s1 1204 0 f = some f ∧ f1_isSaidNowBy f (nI c) s1 = some (b01 (p f))) (h2 : ∀ f, f < N → f12_isSaidBy (nI f) (nI c) s2 = some (b01 (p f))) :
    ∀ d i l n m, i + d = N → l < cnt p i d → d < n → d < m → ∃ j : Int32, f11_draw_L86 (nI c) s1 n (nI l) (nI i) = some (j, s1) ∧ f12_draw_L80 (nI c) s2 m (nI l) (nI i) = some (j, s2) := by
  intro d
  induction d with
  | zero =>
    intro i l n m hi hl
    unfold cnt at hl
    omega
  | succ d ih =>
    intro i l n m hi hl hn hm
    obtain ⟨n, rfl⟩ : ∃ q, n = q + 1 := ⟨n - 1, by omega⟩
    obtain ⟨m, rfl⟩ : ∃ q, m = q + 1 := ⟨m - 1, by omega⟩
    have hiN : i < N := by omega
    have hc := cnt_le p (d + 1) i
    have e : cnt p i (d + 1) = (if p i then 1 else 0) + cnt p (i + 1) d := rfl
    obtain ⟨r1, r2⟩ := h1 i hiN
    rw [f11_draw_L86, f12_draw_L80, n1, if_neg (zn_nle hiN (by omega)), zix_s (show i < 200 by omega) (by decide), zlt_s, r1, zoc_s, r2, zc1_s, zlt_s, h2 i hiN, zc1_s, zlt_s]
    cases hp : p i
    · rw [hp] at e
      show ∃ j, f11_draw_L86 (nI c) s1 n (nI l) (nI i + 1) = some (j, s1) ∧ f12_draw_L80 (nI c) s2 m (nI l - 0) (nI i + 1) = some (j, s2)
      rw [nI_suc i (by omega), show nI l - 0 = nI l from Int32.sub_zero _]
      exact ih (i + 1) l n m (by omega) (by rw [e] at hl; simpa using hl) (by omega) (by omega)
    · rw [hp] at e
      show ∃ j, (if nI l = 0 then some (nI i, s1) else f11_draw_L86 (nI c) s1 n (nI l + -1) (nI i + 1)) = some (j, s1) ∧ (if nI l ≤ 0 then some (nI i, s2) else f12_draw_L80 (nI c) s2 m (nI l - 1) (nI i + 1)) = some (j, s2)
      by_cases hl0 : l = 0
      · subst hl0
        rw [if_pos (show nI 0 = 0 from rfl), if_pos (show nI 0 ≤ 0 by decide)]
        exact ⟨_, rfl, rfl⟩
      · obtain ⟨l, rfl⟩ : ∃ q, l = q + 1 := ⟨l - 1, by omega⟩
        rw [if_neg (show ¬ nI (l + 1) = 0 by show ¬ nI (l + 1) = nI 0; rw [nI_inj (by omega) (by omega)]; omega), if_neg (show ¬ nI (l + 1) ≤ 0 by rw [i_le, nI_ti (show l + 1 < 2 ^ 31 by omega)]; simp only [Int32.reduceToInt]; omega), nI_suc i (by omega), nm1 (nI (l + 1)), sub1 l (by omega)]
        exact ih (i + 1) l n m (by omega) (by rw [e] at hl; simp only [if_true] at hl; omega) (by omega) (by omega)
theorem iushr8 (x : Int32) : ∃ n, n < 2 ^ 24 ∧ zop_iushr x 8 = nI n := by
  refine ⟨(x.toUInt32 >>> 8).toNat, ?_, ?_⟩
  · have h := x.toUInt32.toNat_lt
    rw [UInt32.toNat_shiftRight, show UInt32.toNat 8 % 32 = 8 by decide, Nat.shiftRight_eq_div_pow]
    omega
  · unfold zop_iushr
    rw [show ((8 : Int32).toUInt32 &&& Int32.toUInt32 31) = 8 by decide]
    show _ = Int32.ofNat _
    rw [← UInt32.toInt32_ofNat', UInt32.ofNat_toNat]
theorem irem_nI (x m : Nat) (hx : x < 2 ^ 31) (hm : 0 < m ∧ m < 1000) : zop_irem (nI x) (nI m) = nI (x % m) := by
  have h := e_rem (x := nI x) (d := m) (by rw [nI_ti hx]; omega) hm
  have h2 := Nat.mod_lt x hm.1
  rw [i_eq, h, nI_ti hx, nI_ti (by omega)]
  omega
theorem t_draw {σ : zSt} (h : Inv σ) (v1 : Int32) : Ok2 (f11_draw v1 σ) (f12_draw v1) := by
  have hr := RI_of h
  have hN := hr.2.2.1.2
  rcases zcase v1 10 (by decide) with ⟨c, hc, rfl, hv⟩ | hv
  · have hcl := cnt_le (sby σ c) (mF σ) 0
    by_cases e0 : cnt (sby σ c) 0 (mF σ) = 0
    · refine Ok2.same h (r := -4) ?_ ?_
      · unfold f11_draw
        rw [e_isIn, zc1_s, if_neg (by rw [t01]; simp only [Int32.reduceToInt]; omega), e_drawC h, e0, if_pos (by rfl)]
      · unfold f12_draw
        rw [m_isCrew, zc1_s, if_neg (by rw [t01]; omega), m_drawC hr, e0, if_pos (by rfl)]
    · obtain ⟨m, hm⟩ : ∃ m, m = cnt (sby σ c) 0 (mF σ) := ⟨_, rfl⟩
      have hm0 : nI m ≠ 0 := by
        show nI m ≠ nI 0
        rw [Ne, nI_inj (by omega) (by omega)]
        omega
      have hz : gI σ 11 0 9 = gI σ 12 0 55 := h.2.2.1.2.2.2.2.2.2.2.2.2.2.2.2.2.2
      obtain ⟨z, hz'⟩ : ∃ z, z = gI σ 11 0 9 * 1103515245 + 12345 := ⟨_, rfl⟩
      obtain ⟨x, hx, hx2⟩ := iushr8 z
      have x1 : RY (pI σ 11 0 9 z) σ := RY.rf.I (by omega)
      have x2 : RY (pI (pI σ 11 0 9 z) 12 0 55 z) σ := x1.I (by omega)
      have hr1 : RI (pI σ 11 0 9 z) := RI_Y x1 hr
      have hr2 : RI (pI (pI σ 11 0 9 z) 12 0 55 z) := RI_Y x2 hr
      have hmF : mF (pI σ 11 0 9 z) = mF σ := (RY_b x1).2.2.2.2.2.2.1
      have hmF2 : mF (pI (pI σ 11 0 9 z) 12 0 55 z) = mF σ := (RY_b x2).2.2.2.2.2.2.1
      have hsb : sby (pI σ 11 0 9 z) = sby σ := RY_sby x1
      have hsb2 : sby (pI (pI σ 11 0 9 z) 12 0 55 z) = sby σ := RY_sby x2
      have hS' : vS (pI σ 11 0 9 z) := fr_vS_I rfl h.2.2.2.2.2.2.1
      have hl : x % m < m := Nat.mod_lt _ (by omega)
      obtain ⟨j, j1, j2⟩ := draw_both (s1 := pI σ 11 0 9 z) (s2 := pI (pI σ 11 0 9 z) 12 0 55 z) (c := c) (N := mF σ) (p := sby σ c) hN (N_f h).1
        (fun f hf => by
          obtain ⟨s1, s2, s3, s4, s5, -⟩ := (A_F h hf).2.1
          refine ⟨(F_R h hf).1, ?_⟩
          rw [← hsb]
          exact e_isSaidNowBy' c (by exact (N_q h).2) (hS' f (by rw [mF_e h] at hf; exact hf)) (by exact (F_RF hr hf).2.2.2.2.2.2.1.1))
        (fun f hf => by
          rw [← hsb2]
          exact m_isSaidBy c (F_lt hr hf) (F_RS hr2 (by rw [hmF2]; exact hf)))
        (mF σ) 0 (x % m) zfuel zfuel (by omega) (by omega) (zfuel_pos (by omega)) (zfuel_pos (by omega))
      refine ⟨j, pI σ 11 0 9 z, pI (pI σ 11 0 9 z) 12 0 55 z, ?_, h.1, ?_, ?_⟩
      · unfold f11_draw
        rw [e_isIn, zc1_s, if_neg (by rw [t01]; simp only [Int32.reduceToInt]; omega), e_drawC h, ← hm, if_neg hm0, zlt_s, ← hz', gI_pI, if_pos ⟨rfl, rfl, rfl⟩]
        unfold znz
        rw [if_neg hm0, hx2, irem_nI x m (by omega) (by omega), zlt_s]
        exact j1
      · unfold f12_draw
        rw [m_isCrew, zc1_s, if_neg (by rw [t01]; omega), m_drawC hr1, hsb, hmF, ← hm, if_neg hm0, zlt_s]
        rw [show gI (pI σ 11 0 9 z) 12 0 55 = gI σ 12 0 55 from rfl, ← hz, ← hz', gI_pI, if_pos ⟨rfl, rfl, rfl⟩]
        unfold znz
        rw [if_neg hm0, hx2, irem_nI x m (by omega) (by omega), zlt_s]
        exact j2
      · obtain ⟨hO, hC, hN, hH, hK, hF, hS, hL, hG, hD, hT, hX, hZ⟩ := h
        refine ⟨hO, hC, ?_, (by repeat (first | assumption | refine fr_vC_I rfl ?_ | refine fr_vN_I rfl ?_ | refine fr_vH_I rfl ?_ | refine fr_vK_I rfl ?_ | refine fr_vF_I rfl ?_ | refine fr_vS_I rfl ?_ | refine fr_vL_I rfl ?_ | refine fr_vG_I rfl ?_ | refine fr_vD_I rfl ?_ | refine fr_vT_I rfl ?_ | refine fr_vX_I rfl ?_ | refine fr_vZ_I rfl ?_)), (by repeat (first | assumption | refine fr_vC_I rfl ?_ | refine fr_vN_I rfl ?_ | refine fr_vH_I rfl ?_ | refine fr_vK_I rfl ?_ | refine fr_vF_I rfl ?_ | refine fr_vS_I rfl ?_ | refine fr_vL_I rfl ?_ | refine fr_vG_I rfl ?_ | refine fr_vD_I rfl ?_ | refine fr_vT_I rfl ?_ | refine fr_vX_I rfl ?_ | refine fr_vZ_I rfl ?_)), (by repeat (first | assumption | refine fr_vC_I rfl ?_ | refine fr_vN_I rfl ?_ | refine fr_vH_I rfl ?_ | refine fr_vK_I rfl ?_ | refine fr_vF_I rfl ?_ | refine fr_vS_I rfl ?_ | refine fr_vL_I rfl ?_ | refine fr_vG_I rfl ?_ | refine fr_vD_I rfl ?_ | refine fr_vT_I rfl ?_ | refine fr_vX_I rfl ?_ | refine fr_vZ_I rfl ?_)), (by repeat (first | assumption | refine fr_vC_I rfl ?_ | refine fr_vN_I rfl ?_ | refine fr_vH_I rfl ?_ | refine fr_vK_I rfl ?_ | refine fr_vF_I rfl ?_ | refine fr_vS_I rfl ?_ | refine fr_vL_I rfl ?_ | refine fr_vG_I rfl ?_ | refine fr_vD_I rfl ?_ | refine fr_vT_I rfl ?_ | refine fr_vX_I rfl ?_ | refine fr_vZ_I rfl ?_)), (by repeat (first | assumption | refine fr_vC_I rfl ?_ | refine fr_vN_I rfl ?_ | refine fr_vH_I rfl ?_ | refine fr_vK_I rfl ?_ | refine fr_vF_I rfl ?_ | refine fr_vS_I rfl ?_ | refine fr_vL_I rfl ?_ | refine fr_vG_I rfl ?_ | refine fr_vD_I rfl ?_ | refine fr_vT_I rfl ?_ | refine fr_vX_I rfl ?_ | refine fr_vZ_I rfl ?_)), (by repeat (first | assumption | refine fr_vC_I rfl ?_ | refine fr_vN_I rfl ?_ | refine fr_vH_I rfl ?_ | refine fr_vK_I rfl ?_ | refine fr_vF_I rfl ?_ | refine fr_vS_I rfl ?_ | refine fr_vL_I rfl ?_ | refine fr_vG_I rfl ?_ | refine fr_vD_I rfl ?_ | refine fr_vT_I rfl ?_ | refine fr_vX_I rfl ?_ | refine fr_vZ_I rfl ?_)), (by repeat (first | assumption | refine fr_vC_I rfl ?_ | refine fr_vN_I rfl ?_ | refine fr_vH_I rfl ?_ | refine fr_vK_I rfl ?_ | refine fr_vF_I rfl ?_ | refine fr_vS_I rfl ?_ | refine fr_vL_I rfl ?_ | refine fr_vG_I rfl ?_ | refine fr_vD_I rfl ?_ | refine fr_vT_I rfl ?_ | refine fr_vX_I rfl ?_ | refine fr_vZ_I rfl ?_)), (by repeat (first | assumption | refine fr_vC_I rfl ?_ | refine fr_vN_I rfl ?_ | refine fr_vH_I rfl ?_ | refine fr_vK_I rfl ?_ | refine fr_vF_I rfl ?_ | refine fr_vS_I rfl ?_ | refine fr_vL_I rfl ?_ | refine fr_vG_I rfl ?_ | refine fr_vD_I rfl ?_ | refine fr_vT_I rfl ?_ | refine fr_vX_I rfl ?_ | refine fr_vZ_I rfl ?_)), (by repeat (first | assumption | refine fr_vC_I rfl ?_ | refine fr_vN_I rfl ?_ | refine fr_vH_I rfl ?_ | refine fr_vK_I rfl ?_ | refine fr_vF_I rfl ?_ | refine fr_vS_I rfl ?_ | refine fr_vL_I rfl ?_ | refine fr_vG_I rfl ?_ | refine fr_vD_I rfl ?_ | refine fr_vT_I rfl ?_ | refine fr_vX_I rfl ?_ | refine fr_vZ_I rfl ?_)), (by repeat (first | assumption | refine fr_vC_I rfl ?_ | refine fr_vN_I rfl ?_ | refine fr_vH_I rfl ?_ | refine fr_vK_I rfl ?_ | refine fr_vF_I rfl ?_ | refine fr_vS_I rfl ?_ | refine fr_vL_I rfl ?_ | refine fr_vG_I rfl ?_ | refine fr_vD_I rfl ?_ | refine fr_vT_I rfl ?_ | refine fr_vX_I rfl ?_ | refine fr_vZ_I rfl ?_))⟩
        simp only [vN, qday] at hN ⊢
        simp [gI_pI, gN_I, hN]
  · refine Ok2.same h (r := -1) ?_ ?_
    · unfold f11_draw
      rw [e_isIn, zc1_s, if_pos (by rw [t01]; simp only [Int32.reduceToInt]; omega)]
    · unfold f12_draw
      rw [m_isCrew, zc1_s, if_pos (by rw [t01]; omega)]
