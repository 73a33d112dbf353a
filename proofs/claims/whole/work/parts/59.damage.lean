/-! DAMAGE -/
def dla (σ : zSt) (f : Nat) : Int32 := gI σ 1322 0 f - gI σ 12 0 40
def dlb (σ : zSt) (f : Nat) : Int32 := gI σ 1322 0 f - 1
def dx (σ : zSt) (f g : Nat) : Int32 := lsp (sT σ g) (sD σ g) (dla σ f) (dlb σ f) (sz σ g)
def near (σ : zSt) (f g : Nat) : Prop := hm σ g = hm σ f ∧ gI σ 1319 0 g = gI σ 1319 0 f ∧ ¬ gI σ 1320 0 g = gI σ 1320 0 f
noncomputable def dF (σ : zSt) (f g : Nat) (s : Option Nat × Int32) : Option Nat × Int32 :=
  if hm σ g = hm σ f then (if gI σ 1319 0 g = gI σ 1319 0 f then (if gI σ 1320 0 g = gI σ 1320 0 f then s else (if dx σ f g = -1 then s else (if sD σ g (nT (dx σ f g)) < s.2 then s else (some g, sD σ g (nT (dx σ f g)))))) else s) else s
noncomputable def dml (σ : zSt) (f n : Nat) : Option Nat × Int32 := zfold (dF σ f) (none, -1) n
noncomputable def dmg (σ : zSt) (f : Nat) : Option Nat := (dml σ f (mF σ)).1
def dcr (σ : zSt) (f g : Nat) : Int32 := atp (sC σ g) (sz σ g) (dx σ f g)
theorem dml_lt {σ : zSt} {f : Nat} : ∀ n g, (dml σ f n).1 = some g → g < n ∧ ¬ dx σ f g = -1
  | 0, g, h => by cases h
  | n + 1, g, h => by
    have ih := dml_lt (σ := σ) (f := f) n g
    have e : dml σ f (n + 1) = dF σ f n (dml σ f n) := rfl
    rw [e] at h
    unfold dF at h
    repeat' split at h
    all_goals first | (have := ih h; exact ⟨by omega, this.2⟩) | skip
    rename_i h1 h2 h3 h4 h5
    cases h
    exact ⟨by omega, h4⟩
theorem dla_lt {σ : zSt} (h : RI σ) (hs : btw 0 (gI σ 12 0 40) 60) {f : Nat} (hf : f < mF σ) (x : Int32) (hx : 0 ≤ x.toInt ∧ x.toInt ≤ 9999) : ((gI σ 1322 0 f - x).toInt = (gI σ 1322 0 f).toInt - x.toInt) ∧ (dla σ f).toInt = (gI σ 1322 0 f).toInt - (gI σ 12 0 40).toInt ∧ (dlb σ f).toInt = (gI σ 1322 0 f).toInt - 1 := by
  have hd := (F_RF h hf).2.2.2.2.2.2.1
  have hq := h.2.2.2.1
  unfold btw at hs hq
  refine ⟨i_subp (by omega), i_subp (by omega), ?_⟩
  unfold dlb
  rw [i_subp (by simp only [Int32.reduceToInt]; omega)]
  rfl
theorem atp_day {σ : zSt} (h : RI σ) {g : Nat} (hg : g < mF σ) {x : Int32} (hx : x = -1 ∨ ∃ j, j < sz σ g ∧ x = nI j) : (atp (sD σ g) (sz σ g) x = -1 ↔ x = -1) ∧ (x ≠ -1 → atp (sD σ g) (sz σ g) x = sD σ g (nT x)) := by
  have hS := F_RS h hg
  have h0 := (F_RF h hg).2.2.2.2.2.2.1
  rcases hx with rfl | ⟨j, hj, rfl⟩
  · refine ⟨⟨fun _ => rfl, fun _ => ?_⟩, fun h => absurd rfl h⟩
    unfold atp
    rw [ti_m1, if_neg (by omega)]
  · have hd := (hS.2.2.2.1 j hj).2.2
    have h30 := hS.2.2.1
    have e : atp (sD σ g) (sz σ g) (nI j) = sD σ g j := by
      unfold atp nT
      rw [nI_ti (by omega), if_pos (by omega)]
      rfl
    have e2 : nT (nI j) = j := by
      unfold nT
      rw [nI_ti (by omega)]
      rfl
    rw [e, e2]
    refine ⟨⟨fun h => ?_, fun h => ?_⟩, fun _ => rfl⟩
    · rw [i_eq, ti_m1] at h
      omega
    · rw [i_eq, ti_m1, nI_ti (by omega)] at h
      omega
theorem dx_in {σ : zSt} {f g : Nat} : dx σ f g = -1 ∨ ∃ j, j < sz σ g ∧ dx σ f g = nI j := by
  rcases lsp_in (T := sT σ g) (D := sD σ g) (a := dla σ f) (b := dlb σ f) (sz σ g) with h | ⟨j, h1, h2, -⟩
  · exact Or.inl h
  · exact Or.inr ⟨j, h1, h2⟩
theorem e_saidAheadOf {σ : zSt} (h : Inv σ) {f g : Nat} (hf : f < mF σ) (hg : g < mF σ) : f11_saidAheadOf f g σ = some (dx σ f g) := by
  have h7 : gI σ 11 0 7 = gI σ 12 0 40 := h.2.2.1.2.2.2.2.2.2.2.2.2.2.2.1
  unfold f11_saidAheadOf
  rw [(F_I h hf).2.2.2.2.1, h7, e_lastSaid _ _ (A_F h hg).2.1, zc1_s]
  rfl
theorem e_damager {σ : zSt} (h : Inv σ) {f : Nat} (hf : f < mF σ) : f11_damager f σ = some (dmg σ f) := by
  obtain ⟨n1, n2, n3⟩ := N_f h
  have hr := RI_of h
  unfold f11_damager dmg
  have := lfold (β := Option Nat) (fun n (s : Option Nat × Int32) i => f11_damager_L7 f σ n s.1 s.2 i) (fun s => some s.1) (dF σ f) (mF σ) (none, -1) (by omega) (fun n g hg => ?_) (fun n => ?_) (fuel := zfuel) (zfuel_pos (by omega))
  · exact this
  · have hl := F_lt hr hg
    obtain ⟨r1, r2, r3, r4⟩ := F_R h hg
    obtain ⟨q1, q2, q3, q4⟩ := F_R h hf
    obtain ⟨i1, i2, i3, i4, i5, -⟩ := F_I h hg
    obtain ⟨j1, j2, j3, j4, j5, -⟩ := F_I h hf
    obtain ⟨d1, d2⟩ := atp_day hr hg (dx_in (σ := σ) (f := f) (g := g))
    show f11_damager_L7 f σ (n + 1) (zfold (dF σ f) (none, -1) g).1 (zfold (dF σ f) (none, -1) g).2 (nI g) = f11_damager_L7 f σ n (dF σ f g (zfold (dF σ f) (none, -1) g)).1 (dF σ f g (zfold (dF σ f) (none, -1) g)).2 (nI g + 1)
    rw [f11_damager_L7, n1, if_neg (zn_nle hg (by omega)), zix_s hl (by decide), zlt_s, r1, zoc_s, zlt_s, r3, zlt_s, q3, zlt_s, i1, j1, i2, j2, e_saidAheadOf h hf hg, zc1_s, e_dayAt _ (A_F h hg).2.1, zc1_s]
    generalize hs : zfold (dF σ f) (none, -1) g = s
    unfold dF
    simp only [some_eq]
    by_cases c1 : hm σ g = hm σ f
    · rw [if_pos c1, if_pos c1]
      by_cases c2 : gI σ 1319 0 g = gI σ 1319 0 f
      · rw [if_pos c2, if_pos c2]
        by_cases c3 : gI σ 1320 0 g = gI σ 1320 0 f
        · rw [if_pos c3, if_pos c3]; rfl
        · rw [if_neg c3, if_neg c3]
          by_cases c4 : dx σ f g = -1
          · rw [if_pos (d1.mpr c4), if_pos c4]; rfl
          · rw [if_neg (fun e => c4 (d1.mp e)), if_neg c4, d2 c4]
            by_cases c5 : sD σ g (nT (dx σ f g)) < s.2
            · rw [if_pos c5, if_pos c5]; rfl
            · rw [if_neg c5, if_neg c5]; rfl
      · rw [if_neg c2, if_neg c2]; rfl
    · rw [if_neg c1, if_neg c1]; rfl
  · show f11_damager_L7 f σ (n + 1) _ _ (nI (mF σ)) = _
    rw [f11_damager_L7, n1, if_pos (zn_rle _)]
theorem e_chargedCrew {σ : zSt} (h : Inv σ) {f : Nat} (hf : f < mF σ) : f11_chargedCrew f σ = some (match dmg σ f with | none => -4 | some g => dcr σ f g) := by
  unfold f11_chargedCrew
  rw [e_damager h hf, zc1_s]
  cases e : dmg σ f with
  | none => rw [zoc_n]
  | some g =>
    have hg := (dml_lt (mF σ) g e).1
    rw [zoc_s, e_saidAheadOf h hf hg, zc1_s, e_crewAt _ (A_F h hg).2.1, zc1_s]
    rfl
/-! of the reference -/
def inn (T D C : Nat → Int32) (a b : Int32) (g : Nat) (s : Int32 × Int32 × Int32) : Nat → Int32 × Int32 × Int32
  | 0 => s
  | j + 1 => if T j = 2 ∧ ¬ D j < a ∧ ¬ b < D j ∧ ¬ D j < (inn T D C a b g s j).2.1 then (nI g, D j, C j) else inn T D C a b g s j
theorem inn_c {T D C : Nat → Int32} {a b : Int32} {g : Nat} {s : Int32 × Int32 × Int32} : ∀ n, n < 1000 → (∀ i j, i ≤ j → j < n → (D i).toInt ≤ (D j).toInt) → inn T D C a b g s n = if lsp T D a b n = -1 then s else (if D (nT (lsp T D a b n)) < s.2.1 then s else (nI g, D (nT (lsp T D a b n)), C (nT (lsp T D a b n))))
  | 0, _, _ => by
    unfold inn lsp
    rw [if_pos rfl]
  | n + 1, hn, hD => by
    have ih := inn_c (T := T) (D := D) (C := C) (a := a) (b := b) (g := g) (s := s) n (by omega) fun i j h1 h2 => hD i j h1 (by omega)
    have e2 : nT (nI n) = n := by
      unfold nT
      rw [nI_ti (by omega)]
      rfl
    have e3 : ¬ nI n = -1 := by
      rw [i_eq, ti_m1, nI_ti (by omega)]
      omega
    show (if T n = 2 ∧ ¬ D n < a ∧ ¬ b < D n ∧ ¬ D n < (inn T D C a b g s n).2.1 then (nI g, D n, C n) else inn T D C a b g s n) = _
    unfold lsp
    by_cases c : T n = 2 ∧ ¬ D n < a ∧ ¬ b < D n
    · rw [if_pos c, if_neg e3, e2]
      rw [ih]
      rcases lsp_in (T := T) (D := D) (a := a) (b := b) n with h | ⟨j, h1, h2, -⟩
      · rw [h, if_pos rfl]
        by_cases c2 : D n < s.2.1
        · rw [if_neg (fun h => h.2.2.2 c2), if_pos c2]
        · rw [if_pos ⟨c.1, c.2.1, c.2.2, c2⟩, if_neg c2]
      · have e4 : nT (nI j) = j := by
          unfold nT
          rw [nI_ti (by omega)]
          rfl
        have e5 : ¬ nI j = -1 := by
          rw [i_eq, ti_m1, nI_ti (by omega)]
          omega
        have hjn := hD j n (by omega) (by omega)
        rw [h2, if_neg e5, e4]
        by_cases c2 : D j < s.2.1
        · rw [if_pos c2]
          by_cases c3 : D n < s.2.1
          · rw [if_neg (fun h => h.2.2.2 c3), if_pos c3]
          · rw [if_pos ⟨c.1, c.2.1, c.2.2, c3⟩, if_neg c3]
        · rw [if_neg c2]
          have c3 : ¬ D n < s.2.1 := by
            rw [i_lt] at c2 ⊢
            omega
          have c4 : ¬ D n < D j := by
            rw [i_lt]
            omega
          rw [if_pos ⟨c.1, c.2.1, c.2.2, c4⟩, if_neg c3]
    · rw [if_neg (fun h => c ⟨h.1, h.2.1, h.2.2.1⟩), if_neg c, ih]
theorem pI_pI {σ : zSt} {t i k : Nat} {v w : Int32} : pI (pI σ t i k v) t i k w = pI σ t i k w := by
  unfold pI
  congr 1
  funext a b c
  show zup (zup σ.1 t i k v) t i k w a b c = zup σ.1 t i k w a b c
  unfold zup
  by_cases h : a = t ∧ b = i ∧ c = k
  · rw [if_pos h, if_pos h]
  · rw [if_neg h, if_neg h, if_neg h]
theorem pI_self {σ : zSt} {t i k : Nat} : pI σ t i k (gI σ t i k) = σ := by
  have e : zup σ.1 t i k (gI σ t i k) = σ.1 := by
    funext a b c
    unfold zup
    by_cases h : a = t ∧ b = i ∧ c = k
    · rw [if_pos h, h.1, h.2.1, h.2.2]; rfl
    · rw [if_neg h]
  unfold pI
  rw [e]
def o2i (o : Option Nat) : Int32 := match o with
  | none => -1
  | some g => nI g
def ocr (σ : zSt) (f : Nat) (o : Option Nat) (c : Int32) : Int32 := match o with
  | none => c
  | some g => dcr σ f g
theorem m_dmg84 {σ : zSt} (h : RI σ) (hs : btw 0 (gI σ 12 0 40) 60) {f g : Nat} (hf : f < mF σ) (hg : g < mF σ) (K : Int32 → Int32 → zSt → Option (Int32 × zSt)) (s : Int32 × Int32 × Int32) : f12_damageBy_L84 (nI f) (nI g) 1 K zfuel s.1 s.2.1 (nI (30 * g)) (pI σ 12 0 56 s.2.2) = K (inn (sT σ g) (sD σ g) (sC σ g) (dla σ f) (dlb σ f) g s (sz σ g)).1 (inn (sT σ g) (sD σ g) (sC σ g) (dla σ f) (dlb σ f) g s (sz σ g)).2.1 (pI σ 12 0 56 (inn (sT σ g) (sD σ g) (sC σ g) (dla σ f) (dlb σ f) g s (sz σ g)).2.2) := by
  have hS := F_RS h hg
  have hl := F_lt h hg
  have hlf := F_lt h hf
  obtain ⟨s1, s2, s3, s4, -⟩ := hS
  have key : ∀ m j n, j + m = sz σ g → m < n → f12_damageBy_L84 (nI f) (nI g) 1 K n (inn (sT σ g) (sD σ g) (sC σ g) (dla σ f) (dlb σ f) g s j).1 (inn (sT σ g) (sD σ g) (sC σ g) (dla σ f) (dlb σ f) g s j).2.1 (nI (30 * g + j)) (pI σ 12 0 56 (inn (sT σ g) (sD σ g) (sC σ g) (dla σ f) (dlb σ f) g s j).2.2) = K (inn (sT σ g) (sD σ g) (sC σ g) (dla σ f) (dlb σ f) g s (sz σ g)).1 (inn (sT σ g) (sD σ g) (sC σ g) (dla σ f) (dlb σ f) g s (sz σ g)).2.1 (pI σ 12 0 56 (inn (sT σ g) (sD σ g) (sC σ g) (dla σ f) (dlb σ f) g s (sz σ g)).2.2) := by
    intro m
    induction m with
    | zero =>
      intro j n hj hn
      obtain ⟨n, rfl⟩ : ∃ q, n = q + 1 := ⟨n - 1, by omega⟩
      obtain rfl : j = sz σ g := by omega
      rw [f12_damageBy_L84, zix_s hl (by decide), gI_ne (show 1329 ≠ 12 by decide), s1, nI_row30 g _ (by omega), if_pos (zn_rle _)]
    | succ m ih =>
      intro j n hj hn
      obtain ⟨n, rfl⟩ : ∃ q, n = q + 1 := ⟨n - 1, by omega⟩
      have ih := ih (j + 1) n (by omega) (by omega)
      obtain ⟨t1, t2, t3, t4⟩ := s4 j (by omega)
      have hq := h.2.2.2.1.2
      have hd0 := (F_RF h hg).2.2.2.2.2.2.1.1
      obtain ⟨x1, x2, x3⟩ := dla_lt h hs hf (sD σ g j) (by omega)
      have k6 : 30 * g + j < 6000 := by omega
      rw [f12_damageBy_L84, zix_s hl (by decide)]
      rw [gI_ne (show 1329 ≠ 12 by decide), gI_ne (show 1322 ≠ 12 by decide), gI_ne (show 1327 ≠ 12 by decide), gI_ne (show 1326 ≠ 12 by decide), gI_ne (show 1328 ≠ 12 by decide), gI_nk (show ¬ (12 = 12 ∧ 40 = 56) by decide)]
      rw [s1, nI_row30 g _ (by omega), if_neg (zn_nle (show 30 * g + j < 30 * g + sz σ g by omega) (by omega)), if_neg (by decide), zix_s hlf (by decide), zix_s k6 (by decide), zlt_s, zix_s k6 (by decide), zlt_s, zix_s k6 (by decide), zix_s k6 (by decide), zlt_s, zix_s k6 (by decide), zlt_s]
      dsimp only
      simp only [zlt_s, pI_pI, nI_suc (30 * g + j) (show 30 * g + j + 1 < 2 ^ 31 by omega)]
      generalize hI : inn (sT σ g) (sD σ g) (sC σ g) (dla σ f) (dlb σ f) g s j = I
      have hI1 : inn (sT σ g) (sD σ g) (sC σ g) (dla σ f) (dlb σ f) g s (j + 1) = if sT σ g j = 2 ∧ ¬ sD σ g j < dla σ f ∧ ¬ dlb σ f < sD σ g j ∧ ¬ sD σ g j < I.2.1 then (nI g, sD σ g j, sC σ g j) else I := by
        rw [← hI]
        rfl
      rw [hI1] at ih
      show (if sT σ g j = 2 then _ else _) = _
      by_cases c1 : sT σ g j = 2
      · rw [if_pos c1]
        by_cases c2 : gI σ 1322 0 f - sD σ g j < 1
        · rw [if_pos (show gI σ 1322 0 f - gI σ 1327 0 (30 * g + j) < 1 from c2)]
          rw [if_neg (fun hh => hh.2.2.1 (by rw [i_lt, x3]; rw [i_lt, x1] at c2; simp only [Int32.reduceToInt] at c2; omega))] at ih
          exact ih
        · rw [if_neg (show ¬ gI σ 1322 0 f - gI σ 1327 0 (30 * g + j) < 1 from c2)]
          by_cases c3 : gI σ 12 0 40 < gI σ 1322 0 f - sD σ g j
          · rw [if_pos (show gI σ 12 0 40 < gI σ 1322 0 f - gI σ 1327 0 (30 * g + j) from c3)]
            rw [if_neg (fun hh => hh.2.1 (by rw [i_lt, x2]; rw [i_lt, x1] at c3; omega))] at ih
            exact ih
          · rw [if_neg (show ¬ gI σ 12 0 40 < gI σ 1322 0 f - gI σ 1327 0 (30 * g + j) from c3)]
            by_cases c4 : sD σ g j < I.2.1
            · rw [if_pos (show gI σ 1327 0 (30 * g + j) < I.2.1 from c4)]
              rw [if_neg (fun hh => hh.2.2.2 c4)] at ih
              exact ih
            · rw [if_neg (show ¬ gI σ 1327 0 (30 * g + j) < I.2.1 from c4)]
              rw [if_pos ⟨c1, by rw [i_lt, x2]; rw [i_lt, x1] at c3; omega, by rw [i_lt, x3]; rw [i_lt, x1] at c2; simp only [Int32.reduceToInt] at c2; omega, c4⟩] at ih
              exact ih
      · rw [if_neg c1]
        rw [if_neg (fun hh => c1 hh.1)] at ih
        exact ih
  exact key (sz σ g) 0 zfuel (by omega) (zfuel_pos (by omega))
theorem m_damageBy {σ : zSt} (h : RI σ) (hs : btw 0 (gI σ 12 0 40) 60) {f : Nat} (hf : f < mF σ) : f12_damageBy (nI f) σ = some (o2i (dmg σ f), pI σ 12 0 56 (ocr σ f (dmg σ f) (gI σ 12 0 56))) := by
  obtain ⟨n1, n2⟩ := h.2.2.1
  have hlf := F_lt h hf
  unfold f12_damageBy dmg
  have key : ∀ d g n, g + d = mF σ → d < n → f12_damageBy_L7 (nI f) n (o2i (dml σ f g).1) (dml σ f g).2 (nI g) (pI σ 12 0 56 (ocr σ f (dml σ f g).1 (gI σ 12 0 56))) = some (o2i (dml σ f (mF σ)).1, pI σ 12 0 56 (ocr σ f (dml σ f (mF σ)).1 (gI σ 12 0 56))) := by
    intro d
    induction d with
    | zero =>
      intro g n hg hn
      obtain ⟨n, rfl⟩ : ∃ q, n = q + 1 := ⟨n - 1, by omega⟩
      obtain rfl : g = mF σ := by omega
      rw [f12_damageBy_L7, gI_nk (show ¬ (12 = 12 ∧ 36 = 56) by decide), n1, if_pos (zn_rle _)]
    | succ d ih =>
      intro g n hg hn
      obtain ⟨n, rfl⟩ : ∃ q, n = q + 1 := ⟨n - 1, by omega⟩
      have hgN : g < mF σ := by omega
      have hl := F_lt h hgN
      obtain ⟨m1, m2, m3⟩ := F_hm h hgN
      obtain ⟨p1, p2, p3⟩ := F_hm h hf
      have hS := F_RS h hgN
      have ih := ih (g + 1) n (by omega) (by omega)
      have stay : ∀ (K : Int32 → Int32 → zSt → Option (Int32 × zSt)) (b c : Int32) (u : Int32), f12_damageBy_L84 (nI f) (nI g) 0 K zfuel b c (nI (30 * g)) (pI σ 12 0 56 u) = K b c (pI σ 12 0 56 u) := fun K b c u => by
        have hz : zfuel = 999999 + 1 := rfl
        have h30 := hS.2.2.1
        rw [hz, f12_damageBy_L84, zix_s hl (by decide), gI_ne (show 1329 ≠ 12 by decide), hS.1, nI_row30 g _ (by omega), if_neg (zn_nle (show 30 * g < 30 * g + sz σ g by have := hS.2.1; omega) (by omega)), if_pos rfl]
      have e : dml σ f (g + 1) = dF σ f g (dml σ f g) := rfl
      rw [e] at ih
      generalize hd : dml σ f g = s at ih ⊢
      rw [f12_damageBy_L7]
      rw [gI_nk (show ¬ (12 = 12 ∧ 36 = 56) by decide), gI_ne (show 1318 ≠ 12 by decide), gI_ne (show 1319 ≠ 12 by decide), gI_ne (show 1320 ≠ 12 by decide)]
      rw [n1, if_neg (zn_nle hgN (by omega)), zlt_s, zlt_s]
      dsimp only
      have e30 : (30 : Int32) * nI g = nI (30 * g) := nI_mul' 30 g (by omega) (by omega) (by omega)
      simp only [zlt_s, e30, stay]
      rw [zix_s hl (by decide), zix_s hlf (by decide), zix_s hl (by decide), zix_s hlf (by decide), zix_s hl (by decide), zix_s hlf (by decide), m1, p1]
      simp only [nI_inj (show g < 2 ^ 31 by omega) (show f < 2 ^ 31 by omega), nI_inj (show hm σ g < 2 ^ 31 by omega) (show hm σ f < 2 ^ 31 by omega), nI_suc g (show g + 1 < 2 ^ 31 by omega)]
      unfold dF at ih
      by_cases c0 : g = f
      · subst c0
        rw [if_pos rfl]
        rw [if_pos rfl, if_pos rfl, if_pos rfl] at ih
        exact ih
      rw [if_neg c0]
      by_cases c1 : hm σ g = hm σ f
      · rw [if_pos c1] at ih ⊢
        by_cases c2 : gI σ 1319 0 g = gI σ 1319 0 f
        · rw [if_pos c2] at ih ⊢
          by_cases c3 : gI σ 1320 0 g = gI σ 1320 0 f
          · rw [if_pos c3] at ih ⊢
            exact ih
          · rw [if_neg c3] at ih ⊢
            have hh := m_dmg84 h hs hf hgN (fun a22 a23 s24 => f12_damageBy_L7 (nI f) n a22 a23 (nI (g + 1)) s24) (o2i s.1, s.2, ocr σ f s.1 (gI σ 12 0 56))
            rw [inn_c (sz σ g) (by have := hS.2.2.1; omega) hS.2.2.2.2.1] at hh
            have hh2 : f12_damageBy_L84 (nI f) (nI g) 1 (fun a22 a23 s24 => f12_damageBy_L7 (nI f) n a22 a23 (nI (g + 1)) s24) zfuel (o2i s.1) s.2 (nI (30 * g)) (pI σ 12 0 56 (ocr σ f s.1 (gI σ 12 0 56))) = _ := hh
            refine hh2.trans ?_
            rw [show lsp (sT σ g) (sD σ g) (dla σ f) (dlb σ f) (sz σ g) = dx σ f g from rfl]
            by_cases c4 : dx σ f g = -1
            · rw [if_pos c4] at ih ⊢
              exact ih
            · rw [if_neg c4] at ih ⊢
              by_cases c5 : sD σ g (nT (dx σ f g)) < s.2
              · rw [if_pos c5] at ih
                rw [if_pos c5]
                exact ih
              · rw [if_neg c5] at ih
                rw [if_neg c5]
                have e9 : dcr σ f g = sC σ g (nT (dx σ f g)) := by
                  unfold dcr
                  rcases dx_in (σ := σ) (f := f) (g := g) with hx | ⟨j, hj, hx⟩
                  · exact absurd hx c4
                  · rw [hx]
                    unfold atp nT
                    rw [nI_ti (by have := hS.2.2.1; omega), if_pos (by omega)]
                have e10 : ocr σ f (some g) (gI σ 12 0 56) = sC σ g (nT (dx σ f g)) := e9
                rw [e10] at ih
                exact ih
        · rw [if_neg c2] at ih ⊢
          exact ih
      · rw [if_neg c1] at ih ⊢
        exact ih
  have := key (mF σ) 0 zfuel (by omega) (zfuel_pos (by omega))
  rw [show pI σ 12 0 56 (ocr σ f (dml σ f 0).1 (gI σ 12 0 56)) = σ from pI_self] at this
  exact this
