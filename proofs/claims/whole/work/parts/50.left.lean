theorem ite_some {α : Type} {c : Prop} [Decidable c] (a b : α) : (if c then some a else some b) = some (if c then a else b) := by split <;> rfl
/-! the state on a day, and whether it is left -/
def stn (σ : zSt) (f : Nat) (d : Int32) : Int32 := zon (sD σ f) (sT σ f) d (-1) (sz σ f)
theorem zpl_pos {x : Int32} (h : 0 ≤ x.toInt) : zpl x = x := by
  unfold zpl
  rw [if_neg (by rw [i_lt]; simp only [Int32.reduceToInt]; omega)]
theorem zon_pl {D T : Nat → Int32} {d : Int32} : ∀ n, (∀ j, j < n → 0 ≤ (T j).toInt) → zon D T d (-4) n = zpl (zon D T d (-1) n)
  | 0, _ => rfl
  | n + 1, h => by
    show (if d < D n then zon D T d (-4) n else T n) = zpl (if d < D n then zon D T d (-1) n else T n)
    by_cases e : d < D n
    · rw [if_pos e, if_pos e]
      exact zon_pl n fun j hj => h j (by omega)
    · rw [if_neg e, if_neg e, zpl_pos (h n (by omega))]
theorem m_stateOn' {σ : zSt} {f : Nat} (d : Int32) (hf : f < 200) (H : RS σ f) : f12_stateOn (nI f) d σ = some (stn σ f d) := by
  obtain ⟨s1, s2, s3, -⟩ := H
  have key : ∀ m j n, j + m = sz σ f → m < n → f12_stateOn_L8 (nI f) d σ n (zon (sD σ f) (sT σ f) d (-1) j) (nI (30 * f + j)) = some (zon (sD σ f) (sT σ f) d (-1) (sz σ f)) := by
    intro m
    induction m with
    | zero =>
      intro j n hj hn
      obtain ⟨n, rfl⟩ : ∃ q, n = q + 1 := ⟨n - 1, by omega⟩
      rw [f12_stateOn_L8, zix_s hf (by decide), s1, nI_row30 f _ (by omega), if_pos (by rw [i_le, show j = sz σ f by omega]; omega), show j = sz σ f by omega]
    | succ m ih =>
      intro j n hj hn
      obtain ⟨n, rfl⟩ : ∃ q, n = q + 1 := ⟨n - 1, by omega⟩
      rw [f12_stateOn_L8, zix_s hf (by decide), s1, nI_row30 f _ (by omega), if_neg (by rw [i_le, nI_ti (show 30 * f + j < 2 ^ 31 by omega), nI_ti (show 30 * f + sz σ f < 2 ^ 31 by omega)]; omega), zix_s (by omega) (by decide), zlt_s]
      have := ih (j + 1) n (by omega) (by omega)
      by_cases e : d < sD σ f j
      · rw [if_pos (show d < gI σ 1327 0 (30 * f + j) from e)]
        show f12_stateOn_L8 (nI f) d σ n _ (nI (30 * f + j) + 1) = _
        rw [nI_suc (30 * f + j) (by omega)]
        rw [show zon (sD σ f) (sT σ f) d (-1) (j + 1) = zon (sD σ f) (sT σ f) d (-1) j from if_pos e] at this
        exact this
      · rw [if_neg (show ¬ d < gI σ 1327 0 (30 * f + j) from e), zix_s (by omega) (by decide)]
        show f12_stateOn_L8 (nI f) d σ n _ (nI (30 * f + j) + 1) = _
        rw [nI_suc (30 * f + j) (by omega)]
        rw [show zon (sD σ f) (sT σ f) d (-1) (j + 1) = sT σ f j from if_neg e] at this
        exact this
  unfold f12_stateOn
  rw [zlt_s, show (30 : Int32) = nI 30 from rfl, nI_mul' 30 f (by omega) (by omega) (by omega)]
  exact key (sz σ f) 0 zfuel (by omega) (zfuel_pos (by omega))
theorem e_onDay' {σ : zSt} {f : Nat} (d : Int32) (H : vS1 σ f) : f4_onDay f d σ = some (zpl (stn σ f d)) := by
  rw [e_onDay d H, zon_pl (sz σ f) fun j hj => (H.2.2.2.2.1 j hj).2.2.2.1.1]
  rfl
theorem stn_in {σ : zSt} {f : Nat} (d : Int32) (H : RS σ f) : stn σ f d = -1 ∨ btw 0 (stn σ f d) 4 := zon_in fun j hj => (H.2.2.2.1 j hj).1
def lfv (x : Int32) : Int32 := if x < 0 then 0 else if x = 3 then 0 else if x = 4 then 0 else 1
def lft (σ : zSt) (f : Nat) (d : Int32) : Bool := lfv (stn σ f d) == 1
theorem lfv_b (x : Int32) : lfv x = b01 (lfv x == 1) := by
  unfold lfv
  repeat' split
  all_goals rfl
theorem m_isLeft {σ : zSt} {f : Nat} (d : Int32) (hf : f < 200) (H : RS σ f) : f12_isLeft (nI f) d σ = some (b01 (lft σ f d)) := by
  unfold f12_isLeft
  rw [m_stateOn' d hf H, zc1_s, zlt_s]
  unfold lft
  rw [← lfv_b]
  unfold lfv
  repeat' split
  all_goals rfl
theorem e_isLeftOn {σ : zSt} {f : Nat} (d : Int32) (H : vS1 σ f) (H' : RS σ f) : f1_isLeftOn f d σ = some (b01 (lft σ f d)) := by
  unfold f1_isLeftOn
  rw [e_onDay' d H, zc1_s, zlt_s]
  unfold lft
  rw [← lfv_b]
  rcases stn_in d H' with e | e
  · rw [e]; rfl
  · rw [zpl_pos e.1]
    unfold lfv
    rw [if_neg (show ¬ stn σ f d = -4 by
      rw [i_eq]
      have := e.1
      have h4 : (-4 : Int32).toInt = -4 := by decide
      omega), if_neg (show ¬ stn σ f d < 0 by rw [i_lt]; have := e.1; simp only [Int32.reduceToInt]; omega)]
    repeat' split
    all_goals rfl
theorem b01_0 (b : Bool) : (b01 b = 0) ↔ b = false := by cases b <;> simp [b01]
theorem b01_1 (b : Bool) : (b01 b = 1) ↔ b = true := by cases b <;> simp [b01]
/-! how often SAID, found false -/
theorem e_isSaidAt {σ : zSt} {f j : Nat} (c : Int32) (H : vS1 σ f) (hj : j < sz σ f) : f4_isSaidAt f (nI j) c σ = some (if sT σ f j = 2 ∧ (c = -1 ∨ sC σ f j = c) then 1 else 0) := by
  obtain ⟨t1, t2, t3, -⟩ := H.2.2.2.2.1 j hj
  have h30 := H.2.2.2.1
  unfold f4_isSaidAt
  rw [zix_s (show j < 30 by omega) (by decide), zlt_s, t2]
  by_cases e : sT σ f j = 2
  · rw [if_pos e, zlt_s]
    by_cases e2 : c = -1
    · rw [if_pos e2, if_pos ⟨e, Or.inl e2⟩]
    · rw [if_neg e2, zix_s (show j < 30 by omega) (by decide), t3]
      by_cases e3 : sC σ f j = c
      · rw [if_pos e3, if_pos ⟨e, Or.inr e3⟩]
      · rw [if_neg e3, if_neg (by rintro ⟨-, h | h⟩ <;> contradiction)]
  · rw [if_neg e, if_neg (fun h => e h.1)]
theorem if01 {P : Prop} [Decidable P] : (if (if P then (1 : Int32) else 0) = 0 then (0 : Int32) else 1) = if P then 1 else 0 := by
  by_cases h : P <;> simp [h]
theorem kS_zs (st cr : Nat → Int32) (c : Int32) : ∀ n, kS st cr c n = zs (fun j => if st j = 2 ∧ (c = -1 ∨ cr j = c) then 1 else 0) n
  | 0 => rfl
  | n + 1 => by
    show kS st cr c n + _ = zs _ n + _
    rw [kS_zs st cr c n]
theorem kF_zs (st cr : Nat → Int32) (c : Int32) : ∀ n, kF st cr c n = zs (fun j => if (st j = 2 ∧ (c = -1 ∨ cr j = c)) ∧ st (j + 1) = 0 then 1 else 0) n
  | 0 => rfl
  | n + 1 => by
    show kF st cr c n + _ = zs _ n + _
    rw [kF_zs st cr c n]
theorem e_timesSaid {σ : zSt} {f : Nat} (c : Int32) (H : vS1 σ f) : f4_timesSaid f c σ = some (kS (sT σ f) (sC σ f) c (sz σ f)) := by
  rw [kS_zs]
  have s2 := H.2.1
  have s4 := H.2.2.2.1
  unfold f4_timesSaid
  refine lsum (f4_timesSaid_L4 f c σ) _ (sz σ f) (by omega) (fun n s i hi => ?_) (fun n s => ?_) (zfuel_pos (by omega))
  · rw [f4_timesSaid_L4, s2, if_neg (zn_nle hi (by omega)), e_isSaidAt c H hi, zc1_s, if01, zlt_s, zlt_s]
  · rw [f4_timesSaid_L4, s2, if_pos (zn_rle _)]
theorem e_timesFalse {σ : zSt} {f : Nat} (c : Int32) (H : vS1 σ f) : f4_timesFalse f c σ = some (kF (sT σ f) (sC σ f) c (sz σ f - 1)) := by
  rw [kF_zs]
  have s2 := H.2.1
  have s3 := H.2.2.1
  have s4 := H.2.2.2.1
  unfold f4_timesFalse
  refine lsum (f4_timesFalse_L4 f c σ) _ (sz σ f - 1) (by omega) (fun n s i hi => ?_) (fun n s => ?_) (zfuel_pos (by omega))
  · have t2 := (H.2.2.2.2.1 (i + 1) (by omega)).2.1
    rw [f4_timesFalse_L4, s2, nI_suc i (by omega), if_neg (zn_nle (show i + 1 < sz σ f by omega) (by omega)), e_isSaidAt c H (by omega), zc1_s, zlt_s, zlt_s, zix_s (show i + 1 < 30 by omega) (by decide), t2]
    by_cases e : sT σ f i = 2 ∧ (c = -1 ∨ sC σ f i = c)
    · rw [if_pos e, if_neg (by decide)]
      by_cases e2 : sT σ f (i + 1) = 0
      · rw [if_pos e2, if_pos ⟨e, e2⟩]; rfl
      · rw [if_neg e2, if_neg (fun h => e2 h.2)]; rfl
    · rw [if_neg e, if_pos rfl, if_neg (fun h => e h.1)]; rfl
  · rw [f4_timesFalse_L4, s2, nI_suc (sz σ f - 1) (by omega), show sz σ f - 1 + 1 = sz σ f by omega, if_pos (zn_rle _)]
/-! the last one SAID -/
def lcp (T C : Nat → Int32) : Nat → Int32
  | 0 => -1
  | n + 1 => if T n = 2 then C n else lcp T C n
def lcr (σ : zSt) (f : Nat) : Int32 := lcp (sT σ f) (sC σ f) (sz σ f)
theorem m_lastCrew {σ : zSt} {f : Nat} (hf : f < 200) (H : RS σ f) : f12_lastCrew (nI f) σ = some (lcr σ f) := by
  obtain ⟨s1, s2, s3, -⟩ := H
  have key : ∀ m j n, j + m = sz σ f → m < n → f12_lastCrew_L7 (nI f) σ n (lcp (sT σ f) (sC σ f) j) (nI (30 * f + j)) = some (lcp (sT σ f) (sC σ f) (sz σ f)) := by
    intro m
    induction m with
    | zero =>
      intro j n hj hn
      obtain ⟨n, rfl⟩ : ∃ q, n = q + 1 := ⟨n - 1, by omega⟩
      rw [f12_lastCrew_L7, zix_s hf (by decide), s1, nI_row30 f _ (by omega), if_pos (by rw [i_le, show j = sz σ f by omega]; omega), show j = sz σ f by omega]
    | succ m ih =>
      intro j n hj hn
      obtain ⟨n, rfl⟩ : ∃ q, n = q + 1 := ⟨n - 1, by omega⟩
      rw [f12_lastCrew_L7, zix_s hf (by decide), s1, nI_row30 f _ (by omega), if_neg (by rw [i_le, nI_ti (show 30 * f + j < 2 ^ 31 by omega), nI_ti (show 30 * f + sz σ f < 2 ^ 31 by omega)]; omega), zix_s (by omega) (by decide), zlt_s]
      have := ih (j + 1) n (by omega) (by omega)
      by_cases e : sT σ f j = 2
      · rw [if_pos (show gI σ 1326 0 (30 * f + j) = 2 from e), zix_s (by omega) (by decide)]
        show f12_lastCrew_L7 (nI f) σ n _ (nI (30 * f + j) + 1) = _
        rw [nI_suc (30 * f + j) (by omega)]
        rw [show lcp (sT σ f) (sC σ f) (j + 1) = sC σ f j from if_pos e] at this
        exact this
      · rw [if_neg (show ¬ gI σ 1326 0 (30 * f + j) = 2 from e)]
        show f12_lastCrew_L7 (nI f) σ n _ (nI (30 * f + j) + 1) = _
        rw [nI_suc (30 * f + j) (by omega)]
        rw [show lcp (sT σ f) (sC σ f) (j + 1) = lcp (sT σ f) (sC σ f) j from if_neg e] at this
        exact this
  unfold f12_lastCrew
  rw [zlt_s, show (30 : Int32) = nI 30 from rfl, nI_mul' 30 f (by omega) (by omega) (by omega)]
  exact key (sz σ f) 0 zfuel (by omega) (zfuel_pos (by omega))
theorem nm1 (x : Int32) : x + -1 = x - 1 := (Int32.sub_eq_add_neg x 1).symm
/-- the place of the last one SAID between two days -/
def lsp (T D : Nat → Int32) (a b : Int32) : Nat → Int32
  | 0 => -1
  | n + 1 => if T n = 2 ∧ ¬ D n < a ∧ ¬ b < D n then nI n else lsp T D a b n
theorem e_lastSaid {σ : zSt} {f : Nat} (a b : Int32) (H : vS1 σ f) : f4_lastSaid f a b σ = some (lsp (sT σ f) (sD σ f) a b (sz σ f)) := by
  have s2 := H.2.1
  have s3 := H.2.2.1
  have s4 := H.2.2.2.1
  have key : ∀ m n, m ≤ sz σ f → m < n → f4_lastSaid_L7 f a b σ n (nI m - 1) = some (lsp (sT σ f) (sD σ f) a b m) := by
    intro m
    induction m with
    | zero =>
      intro n h hn
      obtain ⟨n, rfl⟩ : ∃ q, n = q + 1 := ⟨n - 1, by omega⟩
      rw [f4_lastSaid_L7, if_pos (by decide +kernel)]
      rfl
    | succ m ih =>
      intro n h hn
      obtain ⟨n, rfl⟩ : ∃ q, n = q + 1 := ⟨n - 1, by omega⟩
      obtain ⟨t1, t2, t3, -⟩ := H.2.2.2.2.1 m (by omega)
      have ih := ih n (by omega) (by omega)
      rw [sub1' (m + 1) (by omega), Nat.add_sub_cancel, f4_lastSaid_L7, if_neg (by rw [i_lt, nI_ti (show m < 2 ^ 31 by omega)]; simp only [Int32.reduceToInt]; omega), zix_s (show m < 30 by omega) (by decide), zlt_s, zlt_s, t2]
      rw [nm1 (nI m), ih, zix_s (show m < 30 by omega) (by decide), t1, zix_s (show m < 30 by omega) (by decide), t1]
      show _ = some (if sT σ f m = 2 ∧ ¬ sD σ f m < a ∧ ¬ b < sD σ f m then nI m else lsp (sT σ f) (sD σ f) a b m)
      by_cases e1 : sT σ f m = 2
      · rw [if_pos e1]
        by_cases e2 : sD σ f m < a
        · rw [if_pos e2, if_neg (fun h => h.2.1 e2)]
        · rw [if_neg e2]
          by_cases e3 : b < sD σ f m
          · rw [if_pos e3, if_neg (fun h => h.2.2 e3)]
          · rw [if_neg e3, if_pos ⟨e1, e2, e3⟩]
      · rw [if_neg e1, if_neg (fun h => e1 h.1)]
  unfold f4_lastSaid
  rw [zlt_s, s2]
  exact key (sz σ f) zfuel (Nat.le_refl _) (zfuel_pos (by omega))
theorem lsp_in {T D : Nat → Int32} {a b : Int32} : ∀ n, lsp T D a b n = -1 ∨ ∃ j, j < n ∧ lsp T D a b n = nI j ∧ T j = 2
  | 0 => Or.inl rfl
  | n + 1 => by
    show (if _ then nI n else lsp T D a b n) = -1 ∨ ∃ j, j < n + 1 ∧ (if T n = 2 ∧ ¬ D n < a ∧ ¬ b < D n then nI n else lsp T D a b n) = nI j ∧ T j = 2
    by_cases e : T n = 2 ∧ ¬ D n < a ∧ ¬ b < D n
    · rw [if_pos e]
      exact Or.inr ⟨n, by omega, rfl, e.1⟩
    · rw [if_neg e]
      rcases lsp_in (T := T) (D := D) (a := a) (b := b) n with h | ⟨j, h1, h2, h3⟩
      · exact Or.inl h
      · exact Or.inr ⟨j, by omega, h2, h3⟩
/-- what stands at such a place, -1 for none -/
def atp (C : Nat → Int32) (n : Nat) (x : Int32) : Int32 := if 0 ≤ x.toInt ∧ x.toInt < n then C (nT x) else -1
theorem e_crewAt {σ : zSt} {f : Nat} (x : Int32) (H : vS1 σ f) : f4_crewAt f x σ = some (atp (sC σ f) (sz σ f) x) := by
  have s2 := H.2.1
  have s4 := H.2.2.2.1
  unfold f4_crewAt atp
  rw [s2]
  rcases zcase x (sz σ f) (by omega) with ⟨j, hj, rfl, hv⟩ | hv
  · have t3 := (H.2.2.2.2.1 j hj).2.2.1
    rw [e_at_in hj (Nat.le_refl _) (by omega), zc1_s, if_neg (by decide), zix_s (show j < 30 by omega) (by decide), t3, if_pos hv]
    unfold nT
    rw [nI_ti (by omega)]
    rfl
  · rw [e_at_out (by omega) hv, zc1_s, if_pos rfl, if_neg hv]
theorem e_dayAt {σ : zSt} {f : Nat} (x : Int32) (H : vS1 σ f) : f4_dayAt f x σ = some (atp (sD σ f) (sz σ f) x) := by
  have s2 := H.2.1
  have s4 := H.2.2.2.1
  unfold f4_dayAt atp
  rw [s2]
  rcases zcase x (sz σ f) (by omega) with ⟨j, hj, rfl, hv⟩ | hv
  · have t3 := (H.2.2.2.2.1 j hj).1
    rw [e_at_in hj (Nat.le_refl _) (by omega), zc1_s, if_neg (by decide), zix_s (show j < 30 by omega) (by decide), t3, if_pos hv]
    unfold nT
    rw [nI_ti (by omega)]
    rfl
  · rw [e_at_out (by omega) hv, zc1_s, if_pos rfl, if_neg hv]
theorem lcp_lsp {T D C : Nat → Int32} {a b : Int32} : ∀ n m, n ≤ m → m < 2 ^ 31 → (∀ j, j < n → ¬ D j < a ∧ ¬ b < D j) → atp C m (lsp T D a b n) = lcp T C n
  | 0, m, h, hm, _ => by
    unfold atp lcp lsp
    rw [if_neg (by rw [ti_m1]; omega)]
  | n + 1, m, h, hm, hd => by
    show atp C m (if T n = 2 ∧ ¬ D n < a ∧ ¬ b < D n then nI n else lsp T D a b n) = if T n = 2 then C n else lcp T C n
    have hdn := hd n (by omega)
    by_cases e : T n = 2
    · rw [if_pos e, if_pos ⟨e, hdn⟩]
      unfold atp nT
      rw [nI_ti (show n < 2 ^ 31 by omega), if_pos (by omega)]
      rfl
    · rw [if_neg e, if_neg (fun h => e h.1)]
      exact lcp_lsp n m (by omega) hm fun j hj => hd j (by omega)
theorem e_lastCrew {σ : zSt} {f : Nat} (hq : btw 0 (qday σ) 9999) (H : vS1 σ f) (hd : 0 ≤ (gI σ 1322 0 f).toInt) : f1_lastCrew f σ = some (lcr σ f) := by
  unfold f1_lastCrew
  rw [e_lastSaid 0 9999 H, zc1_s, e_crewAt _ H, zc1_s]
  unfold lcr
  rw [lcp_lsp (sz σ f) (sz σ f) (Nat.le_refl _) (by have := H.2.2.2.1; omega) fun j hj => ?_]
  obtain ⟨-, -, -, -, -, t6⟩ := H.2.2.2.2.1 j hj
  have := hq.2
  rw [i_lt, i_lt]
  simp only [Int32.reduceToInt]
  omega
/-! PRICE -/
def prc (σ : zSt) (f : Nat) : Int32 := let p := gI σ 1315 0 (kd σ f) * gI σ 1321 0 f; if zop_idiv (gI σ 1319 0 f) 4 = 2 then zop_idiv (3 * p + 1) 2 else p
theorem m_priceOf {σ : zSt} (h : RI σ) {f : Nat} (hf : f < mF σ) : f12_priceOf (nI f) σ = some (prc σ f) := by
  have h1 := F_lt h hf
  obtain ⟨k1, k2, k3⟩ := F_kd h hf
  unfold f12_priceOf prc
  rw [zix_s h1 (by decide), k1, zix_s k3 (by decide), zix_s h1 (by decide), zlt_s, zix_s h1 (by decide)]
  by_cases e : zop_idiv (gI σ 1319 0 f) 4 = 2
  · rw [if_pos e, if_pos e]
  · rw [if_neg e, if_neg e]
theorem prc_p {a b : Int32} (ha : btw 1 a 999) (hb : btw 1 b 9) : (a * b).toInt = a.toInt * b.toInt ∧ 1 ≤ a.toInt * b.toInt ∧ a.toInt * b.toInt ≤ 8991 := by
  obtain ⟨a1, a2⟩ := ha
  obtain ⟨b1, b2⟩ := hb
  have h1 : 1 * 1 ≤ a.toInt * b.toInt := Int.mul_le_mul a1 b1 (by omega) (by omega)
  have h2 : a.toInt * b.toInt ≤ 999 * 9 := Int.mul_le_mul a2 b2 (by omega) (by omega)
  refine ⟨?_, by omega, by omega⟩
  rw [Int32.toInt_mul, Int.bmod_eq_of_le] <;> omega
theorem i_div2 {x : Int32} (h : 0 ≤ x.toInt) : (zop_idiv x 2).toInt = x.toInt / 2 := by
  unfold zop_idiv
  rw [Int32.toInt_div_of_ne_right x 2 (by decide)]
  exact Int.tdiv_eq_ediv_of_nonneg h
theorem i_addp {a b : Int32} (h : -2147483648 ≤ a.toInt + b.toInt ∧ a.toInt + b.toInt ≤ 2147483647) : (a + b).toInt = a.toInt + b.toInt := by
  rw [Int32.toInt_add, Int.bmod_eq_of_le] <;> omega
theorem i_subp {a b : Int32} (h : -2147483648 ≤ a.toInt - b.toInt ∧ a.toInt - b.toInt ≤ 2147483647) : (a - b).toInt = a.toInt - b.toInt := by
  rw [Int32.toInt_sub, Int.bmod_eq_of_le] <;> omega
theorem i_mulp {a b : Int32} (h : -2147483648 ≤ a.toInt * b.toInt ∧ a.toInt * b.toInt ≤ 2147483647) : (a * b).toInt = a.toInt * b.toInt := by
  rw [Int32.toInt_mul, Int.bmod_eq_of_le] <;> omega
theorem e_price {σ : zSt} (h : Inv σ) {f : Nat} (hf : f < mF σ) : f1_price f σ = some (prc σ f) := by
  have hr := RI_of h
  obtain ⟨k1, k2, k3⟩ := F_kd hr hf
  have hK := A_K h k2
  have hs := (F_RF hr hf).2.2.2.2.2.1
  obtain ⟨i1, i2, i3, i4, -⟩ := F_I h hf
  obtain ⟨q1, q2, q3⟩ := prc_p hK.2.2.2.2.2.1 hs
  unfold f1_price prc
  rw [zlt_s, (F_R h hf).2.2.2, zoc_s, zlt_s, hK.2.2.1, i3, i1]
  by_cases e : zop_idiv (gI σ 1319 0 f) 4 = 2
  · rw [if_pos e]
    dsimp only
    rw [if_pos e]
    congr 1
    obtain ⟨p, hp⟩ : ∃ p, p = gI σ 1315 0 (kd σ f) * gI σ 1321 0 f := ⟨_, rfl⟩
    rw [← hp] at q1 ⊢
    have e1 : (p + 1).toInt = p.toInt + 1 := i_addp (by simp only [Int32.reduceToInt]; omega)
    have e3 : (3 * p).toInt = 3 * p.toInt := i_mulp (by simp only [Int32.reduceToInt]; omega)
    have e4 : (3 * p + 1).toInt = 3 * p.toInt + 1 := by rw [i_addp (by rw [e3]; simp only [Int32.reduceToInt]; omega), e3]; rfl
    have e5 := i_div2 (x := p + 1) (by omega)
    have e6 := i_div2 (x := 3 * p + 1) (by omega)
    rw [i_eq, i_addp (by omega), e5, e6, e1, e4]
    omega
  · rw [if_neg e]
    dsimp only
    rw [if_neg e]
theorem prc_in {σ : zSt} (h : RI σ) {f : Nat} (hf : f < mF σ) : btw 1 (prc σ f) 13487 := by
  obtain ⟨k1, k2, k3⟩ := F_kd h hf
  have hs := (F_RF h hf).2.2.2.2.2.1
  have hK := h.2.2.2.2.2.2 _ k2
  obtain ⟨q1, q2, q3⟩ := prc_p hK.2.1 hs
  unfold prc btw
  obtain ⟨p, hp⟩ : ∃ p, p = gI σ 1315 0 (kd σ f) * gI σ 1321 0 f := ⟨_, rfl⟩
  rw [← hp] at q1 ⊢
  dsimp only
  by_cases e : zop_idiv (gI σ 1319 0 f) 4 = 2
  · rw [if_pos e]
    have e3 : (3 * p).toInt = 3 * p.toInt := i_mulp (by simp only [Int32.reduceToInt]; omega)
    have e4 : (3 * p + 1).toInt = 3 * p.toInt + 1 := by rw [i_addp (by rw [e3]; simp only [Int32.reduceToInt]; omega), e3]; rfl
    rw [i_div2 (by omega), e4]
    omega
  · rw [if_neg e]
    omega
