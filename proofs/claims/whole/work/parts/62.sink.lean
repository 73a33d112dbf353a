def psk (σ : zSt) (i f : Nat) : Bool := decide (hm σ f = i) && (lft σ f (qday σ) && decide (gsy σ f (qday σ) = 2))
theorem gsy_flg {σ : zSt} (h : RI σ) {f : Nat} (hf : f < mF σ) {d : Int32} (e : gsy σ f d = 2) : flg σ f 2 = true := by
  cases e2 : flg σ f 2
  · have h0 := rdn_flg h hf e2
    unfold gsy gsn at e
    rw [if_pos (show nrd σ f d < 3 by have := nrd_le (σ := σ) (f := f) (d := d); omega)] at e
    exact absurd e (by decide)
  · rfl
theorem e_isSinking {σ : zSt} (h : Inv σ) (i : Nat) : f11_isSinking i σ = some (b01 (zan (psk σ i) (mF σ))) := by
  obtain ⟨n1, n2, n3⟩ := N_f h
  have q1 := (N_q h).1
  have hr := RI_of h
  unfold f11_isSinking
  rw [zan_first, lfirst (f11_isSinking_L2 i σ) (some 0) (psk σ i) (fun _ => some 1) (mF σ) (by omega) (fun n f hf => ?_) (fun n => ?_) (zfuel_pos (by omega))]
  · cases zfirst (psk σ i) 0 (mF σ) <;> rfl
  · have hl := F_lt hr hf
    obtain ⟨r1, r2, r3, r4⟩ := F_R h hf
    rw [f11_isSinking_L2, n1, if_neg (zn_nle hf (by omega)), zix_s hl (by decide), zlt_s, r1, zoc_s, zlt_s, r3, zlt_s, zlt_s, q1, e_isLeftOn _ (A_F h hf).2.1 (F_RS hr hf), zc1_s, e_gaugeSays h hf, zc1_s]
    simp only [some_eq]
    unfold psk
    by_cases e : hm σ f = i
    · rw [if_pos e, decide_eq_true e]
      cases lft σ f (qday σ)
      · rfl
      · rw [if_neg (show ¬ b01 true = 0 by decide)]
        by_cases e2 : gsy σ f (qday σ) = 2
        · rw [if_pos e2, decide_eq_true e2]; rfl
        · rw [if_neg e2, decide_eq_false e2]; rfl
    · rw [if_neg e, decide_eq_false e]; rfl
  · rw [f11_isSinking_L2, n1, if_pos (zn_rle _)]
theorem m_sinks {σ : zSt} (h : RI σ) {i : Nat} (hi : i < 40) : f12_sinks (nI i) σ = some (b01 (zan (psk σ i) (mF σ))) := by
  obtain ⟨n1, n2⟩ := h.2.2.1
  unfold f12_sinks
  have key : ∀ d f m, f + d = mF σ → d < m → f12_sinks_L4 (nI i) σ m (b01 (zan (psk σ i) f)) (nI f) = some (b01 (zan (psk σ i) (mF σ))) := by
    intro d
    induction d with
    | zero =>
      intro f m hi hq
      obtain ⟨m, rfl⟩ : ∃ q, m = q + 1 := ⟨m - 1, by omega⟩
      obtain rfl : f = mF σ := by omega
      rw [f12_sinks_L4, n1, if_pos (zn_rle _)]
      cases zan (psk σ i) (mF σ) <;> rfl
    | succ d ih =>
      intro f m hfd hq
      obtain ⟨m, rfl⟩ : ∃ q, m = q + 1 := ⟨m - 1, by omega⟩
      have hf : f < mF σ := by omega
      have hl := F_lt h hf
      rw [← ih (f + 1) m (by omega) (by omega), f12_sinks_L4, n1, if_neg (zn_nle hf (by omega)), zlt_s, zlt_s, zix_s hl (by decide), zlt_s, m_hasFlag h hf, zc1_s, show gI σ 12 0 0 = qday σ from rfl, m_isLeft _ hl (F_RS h hf), zc1_s, m_gaugeOf h hf, zc1_s, nI_suc f (by omega)]
      simp only [hm_eq h hf hi]
      show _ = f12_sinks_L4 (nI i) σ m (b01 (zan (psk σ i) f || psk σ i f)) (nI (f + 1))
      cases zan (psk σ i) f
      · rw [if_pos (show b01 false = 0 from rfl)]
        unfold psk
        by_cases e : hm σ f = i
        · rw [if_pos e, decide_eq_true e]
          by_cases e2 : gsy σ f (qday σ) = 2
          · rw [if_pos e2, decide_eq_true e2, gsy_flg h hf e2]
            cases lft σ f (qday σ) <;> rfl
          · rw [if_neg e2, decide_eq_false e2]
            cases flg σ f 2 <;> cases lft σ f (qday σ) <;> rfl
        · rw [if_neg e, decide_eq_false e]; rfl
      · rfl
  exact key (mF σ) 0 zfuel (by omega) (zfuel_pos (by omega))
/-- how many, the least, the greatest plot -/
noncomputable def skF (σ : zSt) (v : Int32) (i : Nat) (s : Int32 × Int32 × Int32) : Int32 × Int32 × Int32 :=
  if gI σ 1301 0 i = v ∧ zan (psk σ i) (mF σ) = true then (s.1 + 1, (if s.1 = 0 then gI σ 1302 0 i else zmin s.2.1 (gI σ 1302 0 i)), zmax s.2.2 (gI σ 1302 0 i)) else s
noncomputable def sk (σ : zSt) (v : Int32) (n : Nat) : Int32 × Int32 × Int32 := zfold (skF σ v) (0, -1, -1) n
theorem sk_in {σ : zSt} (h : RI σ) (v : Int32) : ∀ n, n ≤ mH σ → ∃ c, c ≤ n ∧ (sk σ v n).1 = nI c ∧ ((c = 0 ∧ (sk σ v n).2.1 = -1) ∨ (0 < c ∧ 0 ≤ ((sk σ v n).2.1).toInt))
  | 0, _ => ⟨0, Nat.le_refl _, rfl, Or.inl ⟨rfl, rfl⟩⟩
  | n + 1, hn => by
    obtain ⟨c, c1, c2, c3⟩ := sk_in h v n (by omega)
    have hp := (h.2.2.2.2.2.1 n (by omega)).2.1
    have h40 := h.1.2
    have e : sk σ v (n + 1) = skF σ v n (sk σ v n) := rfl
    rw [e]
    unfold skF
    by_cases q : gI σ 1301 0 n = v ∧ zan (psk σ n) (mF σ) = true
    · rw [if_pos q]
      refine ⟨c + 1, by omega, ?_, Or.inr ⟨by omega, ?_⟩⟩
      · show (sk σ v n).1 + 1 = _
        rw [c2, nI_suc c (by omega)]
      · show 0 ≤ (if (sk σ v n).1 = 0 then gI σ 1302 0 n else zmin (sk σ v n).2.1 (gI σ 1302 0 n)).toInt
        unfold btw at hp
        rcases c3 with ⟨z1, z2⟩ | ⟨z1, z2⟩
        · rw [c2, z1, if_pos (show nI 0 = 0 from rfl)]
          exact hp.1
        · rw [c2, if_neg (show ¬ nI c = 0 by show ¬ nI c = nI 0; rw [nI_inj (by omega) (by omega)]; omega)]
          unfold zmin
          split
          · exact hp.1
          · exact z2
    · rw [if_neg q]
      exact ⟨c, by omega, c2, c3⟩
theorem e_sinking {σ : zSt} (h : Inv σ) (v w : Int32) (K : Int32 → Int32 → Int32 → Option Int32) : f11_sinking_L30 v w σ K zfuel 0 (-1) (-1) 0 = K (sk σ v (mH σ)).1 (sk σ v (mH σ)).2.1 (sk σ v (mH σ)).2.2 := by
  obtain ⟨n1, n2, n3⟩ := N_h h
  refine lfold (fun n (s : Int32 × Int32 × Int32) i => f11_sinking_L30 v w σ K n s.1 s.2.1 s.2.2 i) (fun s => K s.1 s.2.1 s.2.2) (skF σ v) (mH σ) (0, -1, -1) (by omega) (fun n i hi => ?_) (fun n => ?_) (fuel := zfuel) (zfuel_pos (by omega))
  · have a := A_H h hi
    show f11_sinking_L30 v w σ K (n + 1) (sk σ v i).1 (sk σ v i).2.1 (sk σ v i).2.2 (nI i) = f11_sinking_L30 v w σ K n (skF σ v i (sk σ v i)).1 (skF σ v i (sk σ v i)).2.1 (skF σ v i (sk σ v i)).2.2 (nI i + 1)
    rw [f11_sinking_L30, n1, if_neg (zn_nle hi (by omega)), zix_s (show i < 40 by omega) (by decide), zlt_s, a.1, zoc_s, zlt_s, a.2.1, a.2.2.1, e_isSinking h i, zc1_s]
    unfold skF
    by_cases e : gI σ 1301 0 i = v
    · rw [if_pos e]
      cases e2 : zan (psk σ i) (mF σ)
      · rw [if_pos (show b01 false = 0 from rfl), if_neg (fun hh => by cases hh.2)]
        rfl
      · rw [if_neg (show ¬ b01 true = 0 by decide), if_pos ⟨e, rfl⟩, zlt_s]
        by_cases e3 : (sk σ v i).1 = 0
        · rw [if_pos e3]
          dsimp only
          rw [if_pos e3]
          rfl
        · rw [if_neg e3]
          dsimp only
          rw [if_neg e3]
          rfl
    · rw [if_neg e, if_neg (fun hh => e hh.1)]
      rfl
  · show f11_sinking_L30 v w σ K (n + 1) _ _ _ (nI (mH σ)) = _
    rw [f11_sinking_L30, n1, if_pos (zn_rle _)]
theorem m_sinking {σ : zSt} (h : RI σ) (v w : Int32) (K : Int32 → Int32 → Int32 → Option Int32) : f12_sinking_L32 v w σ K zfuel 0 (-1) (-1) 0 = K (sk σ v (mH σ)).1 (sk σ v (mH σ)).2.1 (sk σ v (mH σ)).2.2 := by
  obtain ⟨n1, n3⟩ := h.1
  refine lfold (fun n (s : Int32 × Int32 × Int32) i => f12_sinking_L32 v w σ K n s.1 s.2.1 s.2.2 i) (fun s => K s.1 s.2.1 s.2.2) (skF σ v) (mH σ) (0, -1, -1) (by omega) (fun n i hi => ?_) (fun n => ?_) (fuel := zfuel) (zfuel_pos (by omega))
  · show f12_sinking_L32 v w σ K (n + 1) (sk σ v i).1 (sk σ v i).2.1 (sk σ v i).2.2 (nI i) = f12_sinking_L32 v w σ K n (skF σ v i (sk σ v i)).1 (skF σ v i (sk σ v i)).2.1 (skF σ v i (sk σ v i)).2.2 (nI i + 1)
    have i40 : i < 40 := by omega
    obtain ⟨c, c1, c2, c3⟩ := sk_in h v i (by omega)
    rw [f12_sinking_L32, n1, if_neg (zn_nle hi (by omega)), zix_s i40 (by decide), zlt_s, m_sinks h i40, zc1_s]
    unfold skF
    by_cases e : gI σ 1301 0 i = v
    · rw [if_pos e]
      cases e2 : zan (psk σ i) (mF σ)
      · rw [if_pos (show b01 false = 0 from rfl), if_neg (fun hh => by cases hh.2)]
        rfl
      · rw [if_neg (show ¬ b01 true = 0 by decide), if_pos ⟨e, rfl⟩]
        have z : ∀ k : Nat → Option Int32, zix (nI i) 40 k = k i := fun k => zix_s i40 (by decide) k
        simp only [zlt_s, z]
        have mx : ∀ J : Int32 → Option Int32, (if gI σ 1302 0 i ≤ (sk σ v i).2.2 then J (sk σ v i).2.2 else J (gI σ 1302 0 i)) = J (zmax (sk σ v i).2.2 (gI σ 1302 0 i)) := fun J => by
          unfold zmax
          by_cases q : gI σ 1302 0 i ≤ (sk σ v i).2.2
          · rw [if_pos q, if_neg (by rw [i_lt]; rw [i_le] at q; omega)]
          · rw [if_neg q, if_pos (by rw [i_lt]; rw [i_le] at q; omega)]
        rcases c3 with ⟨z1, z2⟩ | ⟨z1, z2⟩
        · rw [z2, if_pos (show (-1 : Int32) < 0 by decide), c2, z1, if_pos (show nI 0 = 0 from rfl)]
          exact mx fun y => f12_sinking_L32 v w σ K n (nI 0 + 1) (gI σ 1302 0 i) y (nI i + 1)
        · rw [if_neg (show ¬ (sk σ v i).2.1 < 0 by rw [i_lt]; simp only [Int32.reduceToInt]; omega), c2, if_neg (show ¬ nI c = 0 by show ¬ nI c = nI 0; rw [nI_inj (by omega) (by omega)]; omega)]
          unfold zmin
          by_cases q : (sk σ v i).2.1 ≤ gI σ 1302 0 i
          · rw [if_pos q, if_neg (show ¬ gI σ 1302 0 i < (sk σ v i).2.1 by rw [i_lt]; rw [i_le] at q; omega)]
            exact mx fun y => f12_sinking_L32 v w σ K n (nI c + 1) (sk σ v i).2.1 y (nI i + 1)
          · rw [if_neg q, if_pos (show gI σ 1302 0 i < (sk σ v i).2.1 by rw [i_lt]; rw [i_le] at q; omega)]
            exact mx fun y => f12_sinking_L32 v w σ K n (nI c + 1) (gI σ 1302 0 i) y (nI i + 1)
    · rw [if_neg e, if_neg (fun hh => e hh.1)]
      rfl
  · show f12_sinking_L32 v w σ K (n + 1) _ _ _ (nI (mH σ)) = _
    rw [f12_sinking_L32, n1, if_pos (zn_rle _)]
theorem t_sinking {σ : zSt} (h : Inv σ) (v1 v2 : Int32) : Ok1 (f11_sinking v1 v2 σ) (f12_sinking v1 v2 σ) := by
  have hr := RI_of h
  unfold f11_sinking f12_sinking
  rw [e_isIn, zc1_s, e_isIn, zc1_s, e_sinking h, e_within, zc1_s, e_within, zc1_s, m_sinking hr]
  simp only [t01, Int32.reduceToInt]
  by_cases c1 : 0 ≤ v1.toInt ∧ v1.toInt < 8
  · rw [if_neg (show ¬ ¬ (0 ≤ v1.toInt ∧ v1.toInt < 8) by omega), if_neg (show ¬ ¬ (0 ≤ v1.toInt ∧ v1.toInt ≤ 7) by omega)]
    by_cases c2 : 0 ≤ v2.toInt ∧ v2.toInt < 3
    · rw [if_neg (show ¬ ¬ (0 ≤ v2.toInt ∧ v2.toInt < 3) by omega), if_neg (show ¬ ¬ (0 ≤ v2.toInt ∧ v2.toInt ≤ 2) by omega)]
      simp only [ite_some]
      exact ⟨_, rfl, rfl⟩
    · rw [if_pos c2, if_pos (show ¬ (0 ≤ v2.toInt ∧ v2.toInt ≤ 2) by omega)]
      exact ⟨_, rfl, rfl⟩
  · rw [if_pos c1, if_pos (show ¬ (0 ≤ v1.toInt ∧ v1.toInt ≤ 7) by omega)]
    exact ⟨_, rfl, rfl⟩
