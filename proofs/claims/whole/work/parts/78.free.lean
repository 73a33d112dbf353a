/-! freeings as the reference reads them -/
noncomputable def rfT (K : Int32 → zSt → Option (Int32 × zSt)) (n : Nat) (v3 v4 a5 a6 : Int32) (s7 : zSt) : Option (Int32 × zSt) :=
    zlt (fun (a10 : Int32) (a11 : Int32) =>
    zlt (fun (a14 : Int32) =>
    zlt (pI s7 12 0 67 ((gI s7 12 0 67) + (if a14 = 0 then 0 else 1))) fun s21 =>
    f12_readFreeing_L14 K n a10 a11 a14 s21) fun j15 =>
    zlt (j15 0) fun j22 =>
    if 0 ≤ (gI s7 12 0 69) then (j22) else
    zc1 (f12_byteAt s7) fun r24 =>
    if r24 = 59 then (j15 1) else
    j22) fun j12 =>
    if 0 ≤ (gI s7 12 0 69) then (j12 v3 v4) else
    if a6 = 0 then (j12 v3 v4) else
    if v4 = 0 then (j12 a5 1) else
    j12 v3 v4
theorem rf_L14 (K : Int32 → zSt → Option (Int32 × zSt)) (n : Nat) (v3 v4 v5 : Int32) (σ : zSt) : f12_readFreeing_L14 K (n + 1) v3 v4 v5 σ = if v5 = 0 then K v3 σ else zc2 (f12_sum σ) fun r3 s4 => if 0 ≤ gI s4 12 0 69 then rfT K n v3 v4 r3 1 s4 else zc1 (f12_byteAt s4) fun r25 => if r25 = 58 then (zlt (pI s4 12 0 67 ((gI s4 12 0 67) + 1)) fun s26 => zlt (if r3 = 0 then 0 else 1 : Int32) fun x31 => zc2 (f12_sum s26) fun r32 s33 => rfT K n v3 v4 r32 x31 s33) else rfT K n v3 v4 r3 1 s4 := by
  rw [f12_readFreeing_L14]
  rfl
theorem le0 {p : Nat} (h : p < 2 ^ 31) : (0 : Int32) ≤ nI p := by
  rw [i_le, nI_ti h]
  simp only [Int32.reduceToInt]
  omega
theorem rfT_bad {σ : zSt} (K : Int32 → zSt → Option (Int32 × zSt)) {m p : Nat} (hp : p < 2 ^ 31) (v3 v4 a5 a6 a2 o2 : Int32) : rfT K (m + 1) v3 v4 a5 a6 (rdS σ a2 (nI p) o2) = K v3 (rdS σ a2 (nI p) o2) := by
  unfold rfT
  simp only [zlt_s, rdS_69, rdS_67, rdS_p67]
  rw [if_pos (le0 hp), if_pos (le0 hp), rf_L14, if_pos rfl, if_pos trivial, i_add0]
theorem rfT_ok {b : Nat → Int32} {n : Nat} {σ : zSt} (B : RB σ b n) (K : Int32 → zSt → Option (Int32 × zSt)) {m a2 : Nat} (h2 : a2 ≤ 900) (gv a5 o2 : Int32) (hs hd : Bool) : rfT K m gv (b01 hs) a5 (b01 hd) (rdS σ (nI a2) (-1) o2) = if bt b n a2 = 59 then f12_readFreeing_L14 K m (if hs = false ∧ hd = true then a5 else gv) (b01 (hs || hd)) 1 (rdS σ (nI (a2 + 1)) (-1) o2) else f12_readFreeing_L14 K m (if hs = false ∧ hd = true then a5 else gv) (b01 (hs || hd)) 0 (rdS σ (nI a2) (-1) o2) := by
  unfold rfT
  simp only [zlt_s, rdS_69, rdS_67, rdS_p67]
  have l0 : ((0 : Int32) ≤ -1) = False := eq_false (by decide)
  have e1 : nI a2 + (if (1 : Int32) = 0 then 0 else 1) = nI (a2 + 1) := nI_suc a2 (by omega)
  have e0 : nI a2 + (if True then 0 else 1) = nI a2 := i_add0 _
  simp only [l0, if_false, m_byteAt B (show a2 ≤ 1000 by omega), zc1_s, e1, e0]
  cases hs <;> cases hd <;> rfl
def Orf (b : Nat → Int32) (n : Nat) (H : Nat → Int32) (a : Nat) (hs : Bool) (gv v F : Int32) (a' : Nat) : Prop :=
  (∃ p, p ≤ n ∧ F = nI p ∧ ∀ dg, Rf b n a 0 dg true false = some p) ∨
  (F = -1 ∧ a' ≤ n ∧ (a' < n → ∀ dg, Rf b n a 0 dg true false = some a') ∧ (a' = n → (∀ dg, Rf b n a 0 dg true false = none) ∧ (hs = true → v = gv) ∧ (hs = false → ∀ V S, V 0 = 0 → S 0 = 43 → v = Gf b n H a 0 V S true 0)))
/-- behind a part: at e -/
theorem l_part {b : Nat → Int32} {n : Nat} {H : Nat → Int32} {σ : zSt} (B : RB σ b n) (K : Int32 → zSt → Option (Int32 × zSt)) {a e m : Nat} (hae : a < e) (hen : e ≤ n) (t hd hs : Bool) (gv a5 : Int32) (hgv : hs = false → gv = 0) (hS : zch 4 (bt b n e) = false) (h58 : t = false → ¬ bt b n e = 58)
    (hR : ∀ dg, ∃ dg', Rf b n a 0 dg true false = Rf b n e 0 dg' false t ∧ dcd b n e dg') (hG : nd b n e → ∀ V S, V 0 = 0 → S 0 = 43 → ∃ V' S', Gf b n H a 0 V S true 0 = Gf b n H e 0 V' S' hd 0 ∧ V' 0 = a5)
    (ih : ∀ gv hs, e < n → (hs = false → gv = 0) → ∃ v F a' o', f12_readFreeing_L14 K (m + 1) gv (b01 hs) 1 (rdS σ (nI (e + 1)) (-1) 0) = K v (rdS σ (nI a') F o') ∧ a' ≤ n + 8 ∧ Orf b n H (e + 1) hs gv v F a') :
    ∃ v F a' o', rfT K (m + 1) gv (b01 hs) a5 (b01 hd) (rdS σ (nI e) (-1) 0) = K v (rdS σ (nI a') F o') ∧ a' ≤ n + 8 ∧ Orf b n H a hs gv v F a' := by
  have hn := B.2.1
  rw [rfT_ok B K (by omega)]
  by_cases c59 : bt b n e = 59
  · obtain ⟨hl, hb⟩ := bt_eq c59 (by decide)
    rw [if_pos c59]
    obtain ⟨v, F, a', o', i1, i2, i3⟩ := ih (if hs = false ∧ hd = true then a5 else gv) (hs || hd) hl (fun h => by
      cases hs
      · cases hd
        · exact hgv rfl
        · cases h
      · cases h)
    have R9 : ∀ dg, ∃ dg', Rf b n a 0 dg true false = Rf b n (e + 1) 0 dg' true false := fun dg => by
      obtain ⟨dg', k1, k2⟩ := hR dg
      refine ⟨dg', ?_⟩
      rw [k1, Rf_s hl, hb, if_neg (by decide), if_neg (show ¬ (dig 59 = true ∧ 0 < dg' ∧ dg' < 5) from fun h => absurd h.1 (by decide)), if_neg (by intro h; exact absurd h.1 (by decide)), if_pos (Or.inr ⟨rfl, Or.inl rfl⟩)]
      cases t <;> rfl
    refine ⟨v, F, a', o', i1, i2, ?_⟩
    rcases i3 with ⟨p, p1, p2, p3⟩ | ⟨p1, p2, p3, p4⟩
    · refine Or.inl ⟨p, p1, p2, fun dg => ?_⟩
      obtain ⟨dg', k⟩ := R9 dg
      rw [k, p3]
    · refine Or.inr ⟨p1, p2, fun h dg => ?_, fun h => ⟨fun dg => ?_, fun h1 => ?_, fun h1 V S hV hS => ?_⟩⟩
      · obtain ⟨dg', k⟩ := R9 dg
        rw [k, p3 h]
      · obtain ⟨dg', k⟩ := R9 dg
        rw [k, (p4 h).1]
      · have := (p4 h).2.1 (by rw [h1]; rfl)
        rw [this, h1]
        rfl
      · obtain ⟨V', S', k1, k2⟩ := hG (show dig (bt b n e) = false by rw [c59]; decide) V S hV hS
        rw [k1, Gf_s hl, hb, if_neg (by decide), if_neg (by decide), if_pos rfl]
        cases hd
        · rw [if_neg (by decide)]
          exact (p4 h).2.2 (by rw [h1]; rfl) _ _ ups_at ups_at
        · rw [if_pos rfl, k2]
          have := (p4 h).2.1 (by rw [h1]; rfl)
          rw [this, h1]
          rfl
  · rw [if_neg c59, rf_L14, if_pos rfl]
    refine ⟨_, -1, e, 0, rfl, by omega, Or.inr ⟨rfl, hen, fun h dg => ?_, fun h => ⟨fun dg => ?_, fun h1 => ?_, fun h1 V S hV hS2 => ?_⟩⟩⟩
    · obtain ⟨dg', k1, k2⟩ := hR dg
      unfold dcd at k2
      rw [bt_lt h] at k2 c59 hS h58
      rw [k1, Rf_s h, if_neg (by decide), if_neg (fun q => k2 q.1 q.2), if_neg (fun q => absurd q.2 (Nat.lt_irrefl 0)), if_neg (by
        rintro (q | ⟨_, q | ⟨q1, q2⟩⟩)
        · rw [hS] at q; cases q
        · exact c59 q
        · exact h58 q2 q1)]
    · obtain ⟨dg', k1, k2⟩ := hR dg
      subst h
      rw [k1, Rf_e, if_neg (by simp)]
    · rw [h1]
      rfl
    · subst h
      obtain ⟨V', S', k1, k2⟩ := hG (show dig (bt b e e) = false by rw [bt_ge (Nat.le_refl _)]; decide) V S hV hS2
      rw [k1, Gf_e, k2, h1, hgv h1]
      cases hd <;> rfl
theorem l_rf {b : Nat → Int32} {n : Nat} {H : Nat → Int32} {σ : zSt} (B : RB σ b n) (hH : ∀ j, j < 5 → gI σ 1377 0 j = H j) (K : Int32 → zSt → Option (Int32 × zSt)) : ∀ q a gv hs m, a ≤ n → n - a < q → q + 1 < m → (hs = false → gv = 0) → ∃ v F a' o', f12_readFreeing_L14 K m gv (b01 hs) 1 (rdS σ (nI a) (-1) 0) = K v (rdS σ (nI a') F o') ∧ a' ≤ n + 8 ∧ Orf b n H a hs gv v F a' := by
  have hn := B.2.1
  intro q
  induction q with
  | zero => intro a gv hs m _ h; exact absurd h (Nat.not_lt_zero _)
  | succ q ih =>
    intro a gv hs m ha hq hm hgv
    obtain ⟨m, rfl⟩ : ∃ r, m = r + 2 := ⟨m - 2, by omega⟩
    obtain ⟨r, s, e1, e2⟩ := m_sum B hH ha
    rw [rf_L14, if_neg (by decide), e1, zc2_s]
    dsimp only
    rcases e2 with ⟨p, a', o', h1, h2, h3, h4⟩ | ⟨a1, h1, h2, h3, h4, h5, h6⟩
    · rw [h3, rdS_69, if_pos (le0 (by omega)), rfT_bad K (by omega)]
      exact ⟨gv, nI p, a', o', rfl, by omega, Or.inl ⟨p, h1, rfl, fun dg => h4 dg false⟩⟩
    · rw [h3, rdS_69, if_neg (by decide), m_byteAt B (by omega), zc1_s]
      by_cases c58 : bt b n a1 = 58
      · obtain ⟨hl, hb⟩ := bt_eq c58 (by decide)
        rw [if_pos c58, rdS_67, nI_suc a1 (by omega), rdS_p67, zlt_s, zlt_s]
        have R8 : ∀ dg, ∃ dg', Rf b n a 0 dg true false = Rf b n (a1 + 1) 0 dg' true true := fun dg => by
          obtain ⟨dg', k1, k2⟩ := h5 dg false
          refine ⟨dg', ?_⟩
          rw [k1, Rf_s hl, hb, if_neg (by decide), if_neg (show ¬ (dig 58 = true ∧ 0 < dg' ∧ dg' < 5) from fun h => absurd h.1 (by decide)), if_neg (by intro h; exact absurd h.1 (by decide)), if_pos (Or.inr ⟨rfl, Or.inr ⟨rfl, rfl⟩⟩)]
          rfl
        obtain ⟨r2, s2, f1, f2⟩ := m_sum B hH (show a1 + 1 ≤ n by omega)
        rw [show nI 0 = 0 from rfl, f1, zc2_s]
        dsimp only
        rcases f2 with ⟨p, a', o', g1, g2, g3, g4⟩ | ⟨a2, g1, g2, g3, g4, g5, g6⟩
        · rw [g3, rfT_bad K (by omega)]
          refine ⟨gv, nI p, a', o', rfl, by omega, Or.inl ⟨p, g1, rfl, fun dg => ?_⟩⟩
          obtain ⟨dg', k⟩ := R8 dg
          rw [k, g4]
        · rw [g3, show (if r = 0 then (0 : Int32) else 1) = b01 (!decide (r = 0)) by
            by_cases h : r = 0
            · rw [if_pos h, decide_eq_true h]; rfl
            · rw [if_neg h, decide_eq_false h]; rfl]
          refine l_part B K (by omega) g2 true (!decide (r = 0)) hs gv r2 hgv g4 (by intro h; cases h) (fun dg => ?_) (fun hnd V S hV hS => ?_) (fun gv hs hl2 hg => ih (a2 + 1) gv hs (m + 1) (by omega) (by omega) (by omega) hg)
          · obtain ⟨dg', k⟩ := R8 dg
            obtain ⟨dg2, k2, k3⟩ := g5 dg' true
            exact ⟨dg2, by rw [k, k2], k3⟩
          · obtain ⟨V1, S1, k1, k2, k3⟩ := h6 (show dig (bt b n a1) = false by rw [c58]; decide) V S true hV hS
            obtain ⟨V2, S2, k4, k5, k6⟩ := g6 hnd (ups V1 0 0) (ups S1 0 43) (!decide (r = 0)) ups_at ups_at
            refine ⟨V2, S2, ?_, k6⟩
            rw [k1, Gf_s hl, hb, if_neg (by decide), if_pos rfl, k3, k4]
      · rw [if_neg c58]
        refine l_part B K h1 h2 false true hs gv r hgv h4 (fun _ => c58) (fun dg => h5 dg false) (fun hnd V S hV hS => ?_) (fun gv hs hl2 hg => ih (a1 + 1) gv hs (m + 1) (by omega) (by omega) (by omega) hg)
        obtain ⟨V1, S1, k1, k2, k3⟩ := h6 hnd V S true hV hS
        exact ⟨V1, S1, k1, k3⟩
def bgT (σ : zSt) (v1 v2 : Int32) : zSt := pI (pI σ 12 0 66 v1) 12 0 68 v2
theorem m_begin {σ : zSt} (v1 v2 : Int32) : f12_beginText v1 v2 σ = some ((), rdS (bgT σ v1 v2) 0 (-1) 0) := by
  unfold f12_beginText bgT rdS
  rw [zlt_s, zlt_s, zlt_s, zlt_s, zlt_s, pI_c (k := 67) (k' := 68) (by decide)]
theorem m_readFreeing {b : Nat → Int32} {n : Nat} {H : Nat → Int32} {σ : zSt} {v1 : Int32} (B : RB (bgT σ v1 (nI n)) b n) (hH : ∀ j, j < 5 → gI σ 1377 0 j = H j) : ∃ v a' o', f12_readFreeing v1 (nI n) σ = some (v, rdS (bgT σ v1 (nI n)) (nI a') (ofo (frR b n 0 0 0 true false)) o') ∧ (frR b n 0 0 0 true false = none → ∀ V S, V 0 = 0 → S 0 = 43 → v = frG b n H n 0 0 V S true 0) := by
  have hn := B.2.1
  unfold f12_readFreeing
  rw [m_begin, zc2_s]
  have hH2 : ∀ j, j < 5 → gI (bgT σ v1 (nI n)) 1377 0 j = H j := fun j hj => by
    unfold bgT
    rw [gI_ne (by decide), gI_ne (by decide), hH j hj]
  obtain ⟨v, F, a', o', e1, e2, e3⟩ := l_rf B hH2 (fun a34 s35 => if 0 ≤ (gI s35 12 0 69) then (some (a34, s35)) else if (gI s35 12 0 68) ≤ (gI s35 12 0 67) then (some (a34, s35)) else zc2 (f12_wrong s35) fun r36 s37 => some (r36, s37)) (n + 1) 0 0 false zfuel (by omega) (by omega) (zfuel_pos (by omega)) (fun _ => rfl)
  have e1' : f12_readFreeing_L14 (fun a34 s35 => if 0 ≤ (gI s35 12 0 69) then (some (a34, s35)) else if (gI s35 12 0 68) ≤ (gI s35 12 0 67) then (some (a34, s35)) else zc2 (f12_wrong s35) fun r36 s37 => some (r36, s37)) zfuel 0 0 1 (rdS (bgT σ v1 (nI n)) 0 (-1) 0) = _ := e1
  rw [e1']
  rw [rdS_69, rdS_67, rdS_k (k := 68) (by decide), B.1]
  have rz : Rf b n 0 0 0 true false = frR b n 0 0 0 true false := rfl
  rcases e3 with ⟨p, p1, p2, p3⟩ | ⟨p1, p2, p3, p4⟩
  · rw [p2, if_pos (le0 (by omega))]
    have := p3 0
    rw [rz] at this
    refine ⟨v, a', o', ?_, fun h => ?_⟩
    · rw [this]; rfl
    · rw [this] at h; cases h
  · rw [p1, if_neg (by decide)]
    by_cases c : a' = n
    · have := (p4 c).1 0
      rw [rz] at this
      rw [c, if_pos (zn_rle _)]
      refine ⟨v, n, o', ?_, fun _ V S hV hS => ?_⟩
      · rw [this]; rfl
      · exact (p4 c).2.2 rfl V S hV hS
    · have := p3 (by omega) 0
      rw [rz] at this
      rw [if_neg (zn_nle (show a' < n by omega) (by omega)), m_wrong, zc2_s]
      refine ⟨0, a', o', ?_, fun h => ?_⟩
      · rw [this]; rfl
      · rw [this] at h; cases h
