/-! doubles: the reference -/
theorem m_isEyeIn {σ : zSt} (h : RI σ) {i : Nat} (hi : i < 40) (e : Nat) : f12_isEyeIn (nI e) (nI i) σ = some (b01 (hsl σ e i)) := by
  obtain ⟨n1, n2⟩ := h.2.2.1
  unfold f12_isEyeIn hsl
  have key : ∀ d f m, f + d = mF σ → d < m → f12_isEyeIn_L5 (nI e) (nI i) σ m (b01 (zan (fun f => lsE σ e f && decide (hm σ f = i)) f)) (nI f) = some (b01 (zan (fun f => lsE σ e f && decide (hm σ f = i)) (mF σ))) := by
    intro d
    induction d with
    | zero =>
      intro f m hf hq
      obtain ⟨m, rfl⟩ : ∃ q, m = q + 1 := ⟨m - 1, by omega⟩
      obtain rfl : f = mF σ := by omega
      rw [f12_isEyeIn_L5, n1, if_pos (zn_rle _), zbo_b]
    | succ d ih =>
      intro f m hf hq
      obtain ⟨m, rfl⟩ : ∃ q, m = q + 1 := ⟨m - 1, by omega⟩
      have hf2 : f < mF σ := by omega
      have hl := F_lt h hf2
      have hs := hm_eq h hf2 hi
      rw [← ih (f + 1) m (by omega) (by omega), f12_isEyeIn_L5, n1, if_neg (zn_nle hf2 (by omega))]
      simp only [zlt_s, zix_s hl (show 200 < 2 ^ 31 by decide), nI_suc f (show f + 1 < 2 ^ 31 by omega), b01_0]
      rw [show zan (fun f => lsE σ e f && decide (hm σ f = i)) (f + 1) = (zan (fun f => lsE σ e f && decide (hm σ f = i)) f || (lsE σ e f && decide (hm σ f = i))) from rfl, show lsE σ e f = (!decide (gI σ 1324 0 f = 0) && decide (gI σ 1323 0 f = nI e)) from rfl]
      cases zan (fun f => lsE σ e f && decide (hm σ f = i)) f
      · rw [if_pos rfl]
        by_cases c1 : gI σ 1324 0 f = 0
        · rw [if_pos c1, decide_eq_true c1]; rfl
        · rw [if_neg c1, decide_eq_false c1]
          by_cases c2 : gI σ 1323 0 f = nI e
          · rw [if_pos c2, decide_eq_true c2]
            by_cases c3 : hm σ f = i
            · rw [if_pos (by rw [hs]; exact c3), decide_eq_true c3]; rfl
            · rw [if_neg (by rw [hs]; exact c3), decide_eq_false c3]; rfl
          · rw [if_neg c2, decide_eq_false c2]; rfl
      · rw [if_neg (by decide)]; rfl
  exact key (mF σ) 0 zfuel (by omega) (zfuel_pos (by omega))
theorem m_firstTold {σ : zSt} (h : RI σ) {i r k : Nat} (hi : i < 40) (hr : r < 12) (hk : k < 20) (e : Nat) : f12_firstTold (nI e) (nI i) (nI r) (nI k) σ = some (o2i (ftd σ e i r k)) := by
  obtain ⟨n1, n2⟩ := h.2.2.1
  unfold f12_firstTold ftd
  rw [lfirst (f12_firstTold_L3 (nI e) (nI i) (nI r) (nI k) σ) (some (-1)) (pft σ e i r k) (fun f => some (nI f)) (mF σ) (by omega) (fun n f hf => ?_) (fun n => ?_) (zfuel_pos (by omega))]
  · cases zfirst (pft σ e i r k) 0 (mF σ) <;> rfl
  · have hl := F_lt h hf
    have hs := hm_eq h hf hi
    obtain ⟨r1, r2⟩ := rm_in h hf
    obtain ⟨d1, d2, d3⟩ := F_kd h hf
    rw [f12_firstTold_L3, n1, if_neg (zn_nle hf (by omega))]
    simp only [zlt_s, zix_s hl (show 200 < 2 ^ 31 by decide)]
    rw [r2, d1]
    unfold pft lsE
    simp only [nI_inj (show rmn σ f < 2 ^ 31 by omega) (show r < 2 ^ 31 by omega), nI_inj (show kd σ f < 2 ^ 31 by omega) (show k < 2 ^ 31 by omega)]
    by_cases c1 : gI σ 1324 0 f = 0
    · rw [if_pos c1, decide_eq_true c1]; rfl
    · rw [if_neg c1, decide_eq_false c1]
      by_cases c2 : gI σ 1323 0 f = nI e
      · rw [if_pos c2, decide_eq_true c2]
        by_cases c3 : hm σ f = i
        · rw [if_pos (by rw [hs]; exact c3), decide_eq_true c3]
          by_cases c4 : rmn σ f = r
          · rw [if_pos c4, decide_eq_true c4]
            by_cases c5 : kd σ f = k
            · rw [if_pos c5, decide_eq_true c5]; rfl
            · rw [if_neg c5, decide_eq_false c5]; rfl
          · rw [if_neg c4, decide_eq_false c4]; rfl
        · rw [if_neg (by rw [hs]; exact c3), decide_eq_false c3]; rfl
      · rw [if_neg c2, decide_eq_false c2]; rfl
  · rw [f12_firstTold_L3, n1, if_pos (zn_rle _)]
def g1 (σ : zSt) (a b i r k : Nat) : Int32 := if (ftd σ a i r k).isSome && (ftd σ b i r k).isSome then 1 else 0
def g2 (σ : zSt) (a b i r k : Nat) : Int32 := if (ftd σ a i r k).isSome && !(ftd σ b i r k).isSome then 1 else 0
def g4 (σ : zSt) (a b i r k : Nat) : Int32 := match ftd σ a i r k with | none => 0 | some f => match ftd σ b i r k with | none => 0 | some g => gI σ 1321 0 f - gI σ 1321 0 g
theorem m_dbl124 {σ : zSt} (h : RI σ) {i r : Nat} (hi : i < 40) (hr : r < 12) (a b : Nat) (w3 w4 w10 : Int32) (K : Int32 → Int32 → Int32 → Int32 → Option Int32) (v5 v6 v7 v8 : Int32) : f12_doubles_L124 (nI a) (nI b) w3 w4 (nI i) w10 (nI r) σ K zfuel v5 v6 v7 v8 0 = K (v5 + zs (g1 σ a b i r) (mK σ)) (v6 + zs (g2 σ a b i r) (mK σ)) (v7 + zs (g2 σ b a i r) (mK σ)) (v8 + zs (g4 σ a b i r) (mK σ)) := by
  obtain ⟨n1, n2⟩ := h.2.1
  have key : ∀ d k m, k + d = mK σ → d < m → f12_doubles_L124 (nI a) (nI b) w3 w4 (nI i) w10 (nI r) σ K m (v5 + zs (g1 σ a b i r) k) (v6 + zs (g2 σ a b i r) k) (v7 + zs (g2 σ b a i r) k) (v8 + zs (g4 σ a b i r) k) (nI k) = K (v5 + zs (g1 σ a b i r) (mK σ)) (v6 + zs (g2 σ a b i r) (mK σ)) (v7 + zs (g2 σ b a i r) (mK σ)) (v8 + zs (g4 σ a b i r) (mK σ)) := by
    intro d
    induction d with
    | zero =>
      intro k m hk hq
      obtain ⟨m, rfl⟩ : ∃ q, m = q + 1 := ⟨m - 1, by omega⟩
      obtain rfl : k = mK σ := by omega
      rw [f12_doubles_L124, n1, if_pos (zn_rle _)]
    | succ d ih =>
      intro k m hk hq
      obtain ⟨m, rfl⟩ : ∃ q, m = q + 1 := ⟨m - 1, by omega⟩
      have hk2 : k < mK σ := by omega
      have ih' := ih (k + 1) m (by omega) (by omega)
      rw [f12_doubles_L124, n1, if_neg (zn_nle hk2 (by omega)), m_firstTold h hi hr (by omega), zc1_s, m_firstTold h hi hr (by omega), zc1_s]
      simp only [zlt_s, nI_suc k (show k + 1 < 2 ^ 31 by omega)]
      rw [show zs (g1 σ a b i r) (k + 1) = zs (g1 σ a b i r) k + g1 σ a b i r k from rfl, show zs (g2 σ a b i r) (k + 1) = zs (g2 σ a b i r) k + g2 σ a b i r k from rfl, show zs (g2 σ b a i r) (k + 1) = zs (g2 σ b a i r) k + g2 σ b a i r k from rfl, show zs (g4 σ a b i r) (k + 1) = zs (g4 σ a b i r) k + g4 σ a b i r k from rfl, ← i_assoc, ← i_assoc, ← i_assoc, ← i_assoc] at ih'
      unfold g1 g2 g4 at ih' ⊢
      have m1 : ((-1 : Int32) < 0) = True := eq_true (by decide)
      have m2 : ((0 : Int32) ≤ -1) = False := eq_false (by decide)
      cases e1 : ftd σ a i r k with
      | none =>
        rw [e1] at ih'
        cases e2 : ftd σ b i r k with
        | none =>
          rw [e2] at ih'
          simp only [o2i, m1, m2, if_true, if_false]
          exact ih'
        | some g =>
          have hg := (ftd_some e2).1
          have s1 : (nI g < 0) = False := eq_false (nn0 (by have := h.2.2.1.2; omega))
          have s2 : ((0 : Int32) ≤ nI g) = True := eq_true (le0 (by have := h.2.2.1.2; omega))
          rw [e2] at ih'
          simp only [o2i, m1, m2, s1, s2, if_true, if_false]
          exact ih'
      | some f =>
        have hf := (ftd_some e1).1
        have f1 : (nI f < 0) = False := eq_false (nn0 (by have := h.2.2.1.2; omega))
        have f2 : ((0 : Int32) ≤ nI f) = True := eq_true (le0 (by have := h.2.2.1.2; omega))
        rw [e1] at ih'
        cases e2 : ftd σ b i r k with
        | none =>
          rw [e2] at ih'
          simp only [o2i, m1, m2, f1, f2, if_true, if_false]
          exact ih'
        | some g =>
          have hg := (ftd_some e2).1
          have s1 : (nI g < 0) = False := eq_false (nn0 (by have := h.2.2.1.2; omega))
          have s2 : ((0 : Int32) ≤ nI g) = True := eq_true (le0 (by have := h.2.2.1.2; omega))
          rw [e2] at ih'
          simp only [o2i, f1, f2, s1, s2, if_true, if_false, zix_s (F_lt h hf) (show 200 < 2 ^ 31 by decide), zix_s (F_lt h hg) (show 200 < 2 ^ 31 by decide)]
          exact ih'
  have := key (mK σ) 0 zfuel (by omega) (zfuel_pos (by omega))
  rw [show zs (g1 σ a b i r) 0 = 0 from rfl, show zs (g2 σ a b i r) 0 = 0 from rfl, show zs (g2 σ b a i r) 0 = 0 from rfl, show zs (g4 σ a b i r) 0 = 0 from rfl, i_add0, i_add0, i_add0, i_add0] at this
  exact this
def dsum (σ : zSt) (g : Nat → Nat → Nat → Int32) (i n : Nat) : Int32 := zs (fun r => zs (fun k => g i r k) (mK σ)) n
theorem m_dbl109 {σ : zSt} (h : RI σ) {i : Nat} (hi : i < 40) (a b : Nat) (w3 w4 : Int32) (c : Bool) (K : Int32 → Int32 → Int32 → Int32 → Option Int32) (v5 v6 v7 v8 : Int32) : f12_doubles_L109 (nI a) (nI b) w3 w4 (nI i) (b01 c) σ K zfuel v5 v6 v7 v8 0 = K (v5 + if c then dsum σ (g1 σ a b) i 12 else 0) (v6 + if c then dsum σ (g2 σ a b) i 12 else 0) (v7 + if c then dsum σ (g2 σ b a) i 12 else 0) (v8 + if c then dsum σ (g4 σ a b) i 12 else 0) := by
  cases c
  · rw [show zfuel = 999999 + 1 from rfl, f12_doubles_L109, if_neg (show ¬ (12 : Int32) ≤ 0 by decide), if_pos (show b01 false = 0 from rfl), if_neg (by decide), if_neg (by decide), if_neg (by decide), if_neg (by decide), i_add0, i_add0, i_add0, i_add0]
  · have key : ∀ d r m, r + d = 12 → d < m → f12_doubles_L109 (nI a) (nI b) w3 w4 (nI i) (b01 true) σ K m (v5 + dsum σ (g1 σ a b) i r) (v6 + dsum σ (g2 σ a b) i r) (v7 + dsum σ (g2 σ b a) i r) (v8 + dsum σ (g4 σ a b) i r) (nI r) = K (v5 + dsum σ (g1 σ a b) i 12) (v6 + dsum σ (g2 σ a b) i 12) (v7 + dsum σ (g2 σ b a) i 12) (v8 + dsum σ (g4 σ a b) i 12) := by
      intro d
      induction d with
      | zero =>
        intro r m hr hq
        obtain ⟨m, rfl⟩ : ∃ q, m = q + 1 := ⟨m - 1, by omega⟩
        obtain rfl : r = 12 := by omega
        rw [f12_doubles_L109, if_pos (by decide)]
      | succ d ih =>
        intro r m hr hq
        obtain ⟨m, rfl⟩ : ∃ q, m = q + 1 := ⟨m - 1, by omega⟩
        rw [f12_doubles_L109, if_neg (show ¬ (12 : Int32) ≤ nI r by rw [i_le, nI_ti (by omega)]; simp only [Int32.reduceToInt]; omega), if_neg (show ¬ b01 true = 0 by decide), m_dbl124 h hi (show r < 12 by omega), zlt_s, nI_suc r (by omega), ← ih (r + 1) m (by omega) (by omega)]
        rw [i_assoc, i_assoc, i_assoc, i_assoc]
        rfl
    have := key 12 0 zfuel (by omega) (zfuel_pos (by omega))
    rw [show dsum σ (g1 σ a b) i 0 = 0 from rfl, show dsum σ (g2 σ a b) i 0 = 0 from rfl, show dsum σ (g2 σ b a) i 0 = 0 from rfl, show dsum σ (g4 σ a b) i 0 = 0 from rfl, i_add0, i_add0, i_add0, i_add0] at this
    rw [if_pos rfl, if_pos rfl, if_pos rfl, if_pos rfl]
    exact this
def hsum (σ : zSt) (a b : Nat) (g : Nat → Nat → Nat → Int32) (i : Nat) : Int32 := if hsl σ a i && hsl σ b i then dsum σ g i 12 else 0
def hmany (σ : zSt) (a b : Nat) (i : Nat) : Int32 := if b01 (hsl σ a i && hsl σ b i) = 0 then 0 else 1
theorem m_dbl55 {σ : zSt} (h : RI σ) (a b : Nat) (w3 : Int32) (K : Int32 → Int32 → Int32 → Int32 → Int32 → Option Int32) : f12_doubles_L55 (nI a) (nI b) w3 σ K zfuel 0 0 0 0 0 0 = K (zs (hmany σ a b) (mH σ)) (zs (hsum σ a b (g1 σ a b)) (mH σ)) (zs (hsum σ a b (g2 σ a b)) (mH σ)) (zs (hsum σ a b (g2 σ b a)) (mH σ)) (zs (hsum σ a b (g4 σ a b)) (mH σ)) := by
  obtain ⟨n1, n2⟩ := h.1
  have key : ∀ d i m, i + d = mH σ → d < m → f12_doubles_L55 (nI a) (nI b) w3 σ K m (zs (hmany σ a b) i) (zs (hsum σ a b (g1 σ a b)) i) (zs (hsum σ a b (g2 σ a b)) i) (zs (hsum σ a b (g2 σ b a)) i) (zs (hsum σ a b (g4 σ a b)) i) (nI i) = K (zs (hmany σ a b) (mH σ)) (zs (hsum σ a b (g1 σ a b)) (mH σ)) (zs (hsum σ a b (g2 σ a b)) (mH σ)) (zs (hsum σ a b (g2 σ b a)) (mH σ)) (zs (hsum σ a b (g4 σ a b)) (mH σ)) := by
    intro d
    induction d with
    | zero =>
      intro i m hi hq
      obtain ⟨m, rfl⟩ : ∃ q, m = q + 1 := ⟨m - 1, by omega⟩
      obtain rfl : i = mH σ := by omega
      rw [f12_doubles_L55, n1, if_pos (zn_rle _)]
    | succ d ih =>
      intro i m hi hq
      obtain ⟨m, rfl⟩ : ∃ q, m = q + 1 := ⟨m - 1, by omega⟩
      have hi2 : i < mH σ := by omega
      have hi4 : i < 40 := by omega
      have ih' := ih (i + 1) m (by omega) (by omega)
      have body : ∀ c : Bool, (hsl σ a i && hsl σ b i) = c → (zlt (zs (hmany σ a b) i + (if b01 c = 0 then 0 else 1) : Int32) fun x12 => f12_doubles_L109 (nI a) (nI b) w3 x12 (nI i) (b01 c) σ (fun (a55 : Int32) (a56 : Int32) (a57 : Int32) (a58 : Int32) => zlt (nI i + 1 : Int32) fun x59 => f12_doubles_L55 (nI a) (nI b) w3 σ K m x12 a55 a56 a57 a58 x59) zfuel (zs (hsum σ a b (g1 σ a b)) i) (zs (hsum σ a b (g2 σ a b)) i) (zs (hsum σ a b (g2 σ b a)) i) (zs (hsum σ a b (g4 σ a b)) i) 0) = K (zs (hmany σ a b) (mH σ)) (zs (hsum σ a b (g1 σ a b)) (mH σ)) (zs (hsum σ a b (g2 σ a b)) (mH σ)) (zs (hsum σ a b (g2 σ b a)) (mH σ)) (zs (hsum σ a b (g4 σ a b)) (mH σ)) := fun c hc => by
        rw [zlt_s, m_dbl109 h hi4, zlt_s, nI_suc i (by omega), ← ih', ← hc]
        rfl
      rw [f12_doubles_L55, n1, if_neg (zn_nle hi2 (by omega)), m_isEyeIn h hi4, zc1_s, m_isEyeIn h hi4]
      rw [zlt_s, zlt_s, zc1_s]
      cases q1 : hsl σ a i
      · rw [if_pos (show b01 false = 0 from rfl)]
        exact body false (by rw [q1]; rfl)
      · rw [if_neg (show ¬ b01 true = 0 by decide)]
        cases q2 : hsl σ b i
        · rw [if_pos (show b01 false = 0 from rfl)]
          exact body false (by rw [q1, q2]; rfl)
        · rw [if_neg (show ¬ b01 true = 0 by decide)]
          exact body true (by rw [q1, q2]; rfl)
  exact key (mH σ) 0 zfuel (by omega) (zfuel_pos (by omega))
/-- the sums are the same -/
theorem hs_sum {σ : zSt} (h : RI σ) (a b e : Nat) (g : Nat → Nat → Nat → Int32) (φ : Nat → Int32) (ψ : Nat → Int32) (hg : ∀ i r k, i < mH σ → (if hsl σ a i && hsl σ b i then g i r k else 0) = match ftd σ e i r k with | some f => φ f | none => 0) (hψ : ∀ f, f < mF σ → ψ f = if fth σ e f = some f then φ f else 0) : zs (hsum σ a b g) (mH σ) = zs ψ (mF σ) := by
  rw [zs_congr (mF σ) hψ, ← zs_first h]
  refine zs_congr _ fun i hi => ?_
  unfold hsum dsum
  by_cases c : (hsl σ a i && hsl σ b i) = true
  · rw [if_pos c]
    refine zs_congr _ fun r _ => zs_congr _ fun k _ => ?_
    have q := hg i r k hi
    rw [if_pos c] at q
    exact q
  · rw [if_neg c]
    have : ∀ r k, (match ftd σ e i r k with | some f => φ f | none => 0) = 0 := fun r k => by rw [← hg i r k hi, if_neg c]
    rw [zs_congr 12 (h := fun _ => 0) fun r _ => ?_, zs_zero]
    exact (zs_congr (h := fun _ => 0) (mK σ) fun k _ => this r k).trans (zs_zero _)
theorem hsl_of {σ : zSt} {e i r k f : Nat} (q : ftd σ e i r k = some f) : hsl σ e i = true := by
  obtain ⟨q1, q2, q3, -⟩ := ftd_some q
  exact (zan_iff _).mpr ⟨f, q1, by
    show (lsE σ e f && decide (hm σ f = i)) = true
    rw [q2, decide_eq_true q3]; rfl⟩
theorem fth_of {σ : zSt} {e e' i r k f : Nat} (q : ftd σ e i r k = some f) : fth σ e' f = ftd σ e' i r k ∧ hm σ f = i := by
  obtain ⟨q1, q2, q3, q4, q5⟩ := ftd_some q
  refine ⟨?_, q3⟩
  unfold fth
  rw [q3, q4, q5]
theorem dbl_sums {σ : zSt} (h : RI σ) (a b : Nat) : zs (hsum σ a b (g1 σ a b)) (mH σ) = zs (tol σ a b true) (mF σ) ∧ zs (hsum σ a b (g1 σ a b)) (mH σ) = zs (tol σ b a true) (mF σ) ∧ zs (hsum σ a b (g2 σ a b)) (mH σ) = zs (tol σ a b false) (mF σ) ∧ zs (hsum σ a b (g2 σ b a)) (mH σ) = zs (tol σ b a false) (mF σ) ∧ zs (hsum σ a b (g4 σ a b)) (mH σ) = zs (hrs σ a b) (mF σ) := by
  refine ⟨?_, ?_, ?_, ?_, ?_⟩
  · refine hs_sum h a b a _ (fun f => if hsl σ a (hm σ f) && hsl σ b (hm σ f) then (if (fth σ b f).isSome = true then 1 else 0) else 0) _ (fun i r k _ => ?_) (fun f _ => rfl)
    unfold g1
    cases e : ftd σ a i r k with
    | none => exact ite_self _
    | some f =>
      obtain ⟨w1, w2⟩ := fth_of (e' := b) e
      show _ = (if hsl σ a (hm σ f) && hsl σ b (hm σ f) then (if (fth σ b f).isSome = true then (1 : Int32) else 0) else 0)
      rw [w1, w2]
      rfl
  · refine hs_sum h a b b _ (fun f => if hsl σ b (hm σ f) && hsl σ a (hm σ f) then (if (fth σ a f).isSome = true then 1 else 0) else 0) _ (fun i r k _ => ?_) (fun f _ => rfl)
    unfold g1
    cases e : ftd σ b i r k with
    | none =>
      cases (ftd σ a i r k).isSome <;> exact ite_self _
    | some f =>
      obtain ⟨w1, w2⟩ := fth_of (e' := a) e
      show _ = (if hsl σ b (hm σ f) && hsl σ a (hm σ f) then (if (fth σ a f).isSome = true then (1 : Int32) else 0) else 0)
      rw [w1, w2, Bool.and_comm (hsl σ b i), Bool.and_comm _ (some f).isSome]
      rfl
  · refine hs_sum h a b a _ (fun f => if hsl σ a (hm σ f) && hsl σ b (hm σ f) then (if (fth σ b f).isSome = false then 1 else 0) else 0) _ (fun i r k _ => ?_) (fun f _ => rfl)
    unfold g2
    cases e : ftd σ a i r k with
    | none => exact ite_self _
    | some f =>
      obtain ⟨w1, w2⟩ := fth_of (e' := b) e
      show _ = (if hsl σ a (hm σ f) && hsl σ b (hm σ f) then (if (fth σ b f).isSome = false then (1 : Int32) else 0) else 0)
      rw [w1, w2]
      cases (ftd σ b i r k).isSome <;> rfl
  · refine hs_sum h a b b _ (fun f => if hsl σ b (hm σ f) && hsl σ a (hm σ f) then (if (fth σ a f).isSome = false then 1 else 0) else 0) _ (fun i r k _ => ?_) (fun f _ => rfl)
    unfold g2
    cases e : ftd σ b i r k with
    | none => exact ite_self _
    | some f =>
      obtain ⟨w1, w2⟩ := fth_of (e' := a) e
      show _ = (if hsl σ b (hm σ f) && hsl σ a (hm σ f) then (if (fth σ a f).isSome = false then (1 : Int32) else 0) else 0)
      rw [w1, w2, Bool.and_comm (hsl σ b i)]
      cases (ftd σ a i r k).isSome <;> rfl
  · refine hs_sum h a b a _ (fun f => match fth σ b f with | none => 0 | some g => gI σ 1321 0 f - gI σ 1321 0 g) _ (fun i r k _ => ?_) (fun f _ => rfl)
    unfold g4
    cases e : ftd σ a i r k with
    | none => exact ite_self _
    | some f =>
      obtain ⟨w1, w2⟩ := fth_of (e' := b) e
      show (if hsl σ a i && hsl σ b i then (match ftd σ b i r k with | none => (0 : Int32) | some g => gI σ 1321 0 f - gI σ 1321 0 g) else 0) = (match fth σ b f with | none => (0 : Int32) | some g => gI σ 1321 0 f - gI σ 1321 0 g)
      rw [w1]
      cases e2 : ftd σ b i r k with
      | none => exact ite_self _
      | some g =>
        rw [hsl_of e, hsl_of e2]
        rfl
theorem t_doubles {σ : zSt} (h : Inv σ) (v1 v2 v3 : Int32) : Ok1 (f11_doubles v1 v2 v3 σ) (f12_doubles v1 v2 v3 σ) := by
  have hr := RI_of h
  by_cases c1 : 0 ≤ v1.toInt ∧ v1.toInt < 10
  · by_cases c2 : 0 ≤ v2.toInt ∧ v2.toInt < 10
    · by_cases c3 : v1 = v2
      · refine ⟨-2000000000, ?_, ?_⟩
        · unfold f11_doubles
          rw [e_isIn, if_pos (show 0 ≤ v1.toInt ∧ v1.toInt < (10 : Int32).toInt from c1), zc1_s, if_neg (by decide), e_isIn, if_pos (show 0 ≤ v2.toInt ∧ v2.toInt < (10 : Int32).toInt from c2), zc1_s, if_neg (by decide), if_pos c3]
        · unfold f12_doubles
          rw [e_within, if_pos (by simp only [Int32.reduceToInt]; omega), zc1_s, if_neg (by decide), e_within, if_pos (by simp only [Int32.reduceToInt]; omega), zc1_s, if_neg (by decide), if_pos c3]
      · by_cases c4 : 0 ≤ v3.toInt ∧ v3.toInt < 6
        · obtain ⟨a, ha⟩ : ∃ a, a = v1.toInt.toNat := ⟨_, rfl⟩
          obtain ⟨b, hb⟩ : ∃ b, b = v2.toInt.toNat := ⟨_, rfl⟩
          have e1 : v1 = nI a := by rw [ha]; exact i_ofNat c1.1
          have e2 : v2 = nI b := by rw [hb]; exact i_ofNat c2.1
          obtain ⟨s1, s2, s3, s4, s5⟩ := dbl_sums hr a b
          have t1 : f11_toldByOne (nI a) (nI b) 1 σ = _ := e_toldByOne h a b true
          have t2 : f11_toldByOne (nI a) (nI b) 0 σ = _ := e_toldByOne h a b false
          have t3 : f11_toldByOne (nI b) (nI a) 0 σ = _ := e_toldByOne h b a false
          have t4 : f11_toldByOne (nI b) (nI a) 1 σ = _ := e_toldByOne h b a true
          have k2 : f12_doubles v1 v2 v3 σ = (zlt (fun (a69 : Int32) => if v3 = 0 then some (zs (hmany σ a b) (mH σ)) else if v3 = 1 then some (zs (hsum σ a b (g1 σ a b)) (mH σ)) else if v3 = 2 then some (zs (hsum σ a b (g2 σ a b)) (mH σ)) else if v3 = 3 then some (zs (hsum σ a b (g2 σ b a)) (mH σ)) else if v3 = 4 then some a69 else some (zs (hsum σ a b (g4 σ a b)) (mH σ))) fun j70 => if zs (hsum σ a b (g1 σ a b)) (mH σ) + zs (hsum σ a b (g2 σ b a)) (mH σ) = 0 then j70 0 else znz (zs (hsum σ a b (g1 σ a b)) (mH σ) + zs (hsum σ a b (g2 σ b a)) (mH σ)) (j70 (zop_idiv (10000 * zs (hsum σ a b (g2 σ b a)) (mH σ)) (zs (hsum σ a b (g1 σ a b)) (mH σ) + zs (hsum σ a b (g2 σ b a)) (mH σ))))) := by
            unfold f12_doubles
            rw [e_within, if_pos (by simp only [Int32.reduceToInt]; omega), zc1_s, if_neg (by decide), e_within, if_pos (by simp only [Int32.reduceToInt]; omega), zc1_s, if_neg (by decide), if_neg c3, e_within, if_pos (by simp only [Int32.reduceToInt]; omega), zc1_s, if_neg (by decide), e1, e2, m_dbl55 hr]
          have k1 : f11_doubles v1 v2 v3 σ = if v3 = 0 then some (zs (hmany σ a b) (mH σ)) else if v3 = 1 then some (zs (tol σ a b true) (mF σ)) else if v3 = 2 then some (zs (tol σ a b false) (mF σ)) else if v3 = 3 then some (zs (tol σ b a false) (mF σ)) else if v3 = 4 then (zlt (zs (tol σ b a false) (mF σ) + zs (tol σ b a true) (mF σ)) fun x3 => if x3 = 0 then some 0 else znz x3 (some (zop_idiv (10000 * zs (tol σ b a false) (mF σ)) x3))) else some (zs (hrs σ a b) (mF σ)) := by
            have dh : f11_doubleHomes (nI a) (nI b) σ = some (zs (hmany σ a b) (mH σ)) := e_doubleHomes h a b
            unfold f11_doubles f11_missed
            rw [e_isIn, if_pos (show 0 ≤ v1.toInt ∧ v1.toInt < (10 : Int32).toInt from c1), zc1_s, if_neg (by decide), e_isIn, if_pos (show 0 ≤ v2.toInt ∧ v2.toInt < (10 : Int32).toInt from c2), zc1_s, if_neg (by decide), if_neg c3, e_isIn, if_pos (show 0 ≤ v3.toInt ∧ v3.toInt < (6 : Int32).toInt from c4), zc1_s, if_neg (by decide), e1, e2, dh, zc1_s, t1, zc1_s, t2, zc1_s, t3, zc1_s, zc1_s, t4, zc1_s, e_harsh h, zc1_s]
            have zr : ∀ o : Option Int32, (zc1 o fun r => some r) = o := fun o => by cases o <;> rfl
            rw [zr]
          rw [k1, k2]
          have ex : ∀ o : Option Int32, (∃ r, o = some r) → ∀ o', o = o' → Ok1 o o' := fun o ⟨r, hr⟩ o' e => ⟨r, hr, e ▸ hr⟩
          rw [zlt_s, zlt_s, s2, s4, s3, s5, i_comm (zs (tol σ b a true) (mF σ))]
          by_cases q : zs (tol σ b a false) (mF σ) + zs (tol σ b a true) (mF σ) = 0
          · rw [if_pos q, if_pos q]
            rw [← s2, ← s1]
            refine ex _ ?_ _ rfl
            repeat' split
            all_goals exact ⟨_, rfl⟩
          · rw [if_neg q, if_neg q]
            unfold znz
            rw [if_neg q, if_neg q]
            rw [← s2, ← s1]
            refine ex _ ?_ _ rfl
            repeat' split
            all_goals exact ⟨_, rfl⟩
        · refine ⟨-2000000000, ?_, ?_⟩
          · unfold f11_doubles
            rw [e_isIn, if_pos (show 0 ≤ v1.toInt ∧ v1.toInt < (10 : Int32).toInt from c1), zc1_s, if_neg (by decide), e_isIn, if_pos (show 0 ≤ v2.toInt ∧ v2.toInt < (10 : Int32).toInt from c2), zc1_s, if_neg (by decide), if_neg c3, e_isIn, if_neg (show ¬ (0 ≤ v3.toInt ∧ v3.toInt < (6 : Int32).toInt) from c4), zc1_s, if_pos rfl]
          · unfold f12_doubles
            rw [e_within, if_pos (by simp only [Int32.reduceToInt]; omega), zc1_s, if_neg (by decide), e_within, if_pos (by simp only [Int32.reduceToInt]; omega), zc1_s, if_neg (by decide), if_neg c3, e_within, if_neg (by simp only [Int32.reduceToInt]; omega), zc1_s, if_pos rfl]
    · refine ⟨-2000000000, ?_, ?_⟩
      · unfold f11_doubles
        rw [e_isIn, if_pos (show 0 ≤ v1.toInt ∧ v1.toInt < (10 : Int32).toInt from c1), zc1_s, if_neg (by decide), e_isIn, if_neg (show ¬ (0 ≤ v2.toInt ∧ v2.toInt < (10 : Int32).toInt) from c2), zc1_s, if_pos rfl]
      · unfold f12_doubles
        rw [e_within, if_pos (by simp only [Int32.reduceToInt]; omega), zc1_s, if_neg (by decide), e_within, if_neg (by simp only [Int32.reduceToInt]; omega), zc1_s, if_pos rfl]
  · refine ⟨-2000000000, ?_, ?_⟩
    · unfold f11_doubles
      rw [e_isIn, if_neg (show ¬ (0 ≤ v1.toInt ∧ v1.toInt < (10 : Int32).toInt) from c1), zc1_s, if_pos rfl]
    · unfold f12_doubles
      rw [e_within, if_neg (by simp only [Int32.reduceToInt]; omega), zc1_s, if_pos rfl]
