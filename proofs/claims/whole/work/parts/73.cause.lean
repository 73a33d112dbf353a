/-! sizes of groups, chances, causes -/
def isg (v : Int32) : Bool := decide (0 ≤ v.toInt ∧ v.toInt < 8 ∨ 10 ≤ v.toInt ∧ v.toInt ≤ 30)
theorem e_isGroup (v : Int32) (σ : zSt) : f11_isGroup v σ = some (b01 (isg v)) := by
  unfold f11_isGroup isg
  rw [e_isIn, zc1_s]
  simp only [zlt_s, i_lt, Int32.reduceToInt]
  by_cases h : 0 ≤ v.toInt ∧ v.toInt < 8
  · rw [if_pos h, if_neg (by decide), decide_eq_true (Or.inl h)]; rfl
  · rw [if_neg h, if_pos rfl]
    by_cases h1 : v.toInt < 10
    · rw [if_pos h1, decide_eq_false (by omega)]; rfl
    · rw [if_neg h1]
      by_cases h2 : 30 < v.toInt
      · rw [if_pos h2, decide_eq_false (by omega)]; rfl
      · rw [if_neg h2, decide_eq_true (by omega)]; rfl
theorem m_isGroup (v : Int32) (σ : zSt) : f12_isGroup v σ = some (b01 (isg v)) := by
  unfold f12_isGroup isg
  simp only [zlt_s]
  by_cases h0 : v < 0
  · rw [if_pos h0, decide_eq_false (by rw [i_lt] at h0; simp only [Int32.reduceToInt] at h0; omega)]; rfl
  · rw [if_neg h0]
    have hv : 0 ≤ v.toInt := by rw [i_lt] at h0; simp only [Int32.reduceToInt] at h0; omega
    have d1 : (zop_idiv v 10).toInt = v.toInt / 10 := e_div (d := 10) hv (by decide)
    have d2 : (zop_irem v 10).toInt = v.toInt % 10 := e_rem (d := 10) hv (by decide)
    simp only [i_eq (zop_idiv v 10), i_eq v, i_lt, d1, d2, Int32.reduceToInt]
    by_cases hh : 0 ≤ v.toInt ∧ v.toInt < 8 ∨ 10 ≤ v.toInt ∧ v.toInt ≤ 30
    · rw [decide_eq_true hh]
      show _ = some 1
      repeat' split
      all_goals first | rfl | (exfalso; omega)
    · rw [decide_eq_false hh]
      show _ = some 0
      repeat' split
      all_goals first | rfl | (exfalso; omega)
def gsz (σ : zSt) (k : Nat) (d g : Int32) (w : Bool) (i : Nat) : Bool := grp σ k g i && (!w || wth σ k d i)
def cW (σ : zSt) (k : Nat) (d : Int32) : Nat := cnt (wth σ k d) 0 (mH σ)
def cS (σ : zSt) (k : Nat) (d g : Int32) (w : Bool) : Nat := cnt (gsz σ k d g w) 0 (mH σ)
theorem cnt_mono {p q : Nat → Bool} (h : ∀ i, p i = true → q i = true) : ∀ d i, cnt p i d ≤ cnt q i d
  | 0, _ => Nat.le_refl _
  | d + 1, i => by
    have := cnt_mono h d (i + 1)
    unfold cnt
    by_cases e : p i = true
    · rw [if_pos e, if_pos (h i e)]; omega
    · rw [if_neg e]; omega
theorem e_sizeOf {σ s : zSt} (h : Inv s) (y : RY s σ) {k : Nat} (hk : k < mK σ) {d : Int32} (hw : ∀ i, i < mH σ → gI s 1218 0 i = b01 (wth σ k d i)) (g : Int32) (w : Bool) : f11_sizeOfGroup k g (b01 w) s = some (nI (cS σ k d g w)) := by
  unfold f11_sizeOfGroup cS
  have mh := (RY_b y).2.2.2.2.2.2.2.1
  have mk := (RY_b y).2.2.2.2.2.2.2.2.1
  have h40 := (N_h h).2.2
  rw [mh] at h40
  have e1 := (N_h h).1
  rw [mh] at e1
  have key : ∀ dd i m, i + dd = mH σ → dd < m → f11_sizeOfGroup_L6 k g (b01 w) s m (nI (cnt (gsz σ k d g w) 0 i)) (nI i) = some (nI (cnt (gsz σ k d g w) 0 (mH σ))) := by
    intro dd
    induction dd with
    | zero =>
      intro i m hi hq
      obtain ⟨m, rfl⟩ : ∃ q, m = q + 1 := ⟨m - 1, by omega⟩
      obtain rfl : i = mH σ := by omega
      rw [f11_sizeOfGroup_L6, e1, if_pos (zn_rle _)]
    | succ dd ih =>
      intro i m hi hq
      obtain ⟨m, rfl⟩ : ∃ q, m = q + 1 := ⟨m - 1, by omega⟩
      have hi2 : i < mH σ := by omega
      have hc := cnt_le (gsz σ k d g w) i 0
      have a1 := (A_H h (k := i) (by rw [mh]; exact hi2)).1
      have ce : cnt (gsz σ k d g w) 0 (i + 1) = cnt (gsz σ k d g w) 0 i + (if gsz σ k d g w i then 1 else 0) := by rw [cnt_end, Nat.zero_add]
      have gz : gsz σ k d g w i = (grp σ k g i && (!w || wth σ k d i)) := rfl
      have n1 := nI_suc (cnt (gsz σ k d g w) 0 i) (by omega)
      rw [← ih (i + 1) m (by omega) (by omega), f11_sizeOfGroup_L6, e1, if_neg (zn_nle hi2 (by omega)), zix_s (show i < 40 by omega) (by decide), zlt_s, a1, zoc_s, e_isOf h (by rw [mh]; exact hi2) (by rw [mk]; exact hk), RY_grp y, zc1_s]
      simp only [zlt_s, nI_suc i (show i + 1 < 2 ^ 31 by omega), n1]
      rw [zix_s (show i < 40 by omega) (by decide), hw i hi2, ce, gz]
      simp only [b01_0]
      cases grp σ k g i <;> cases w <;> cases wth σ k d i <;> rfl
  exact key (mH σ) 0 zfuel (by omega) (zfuel_pos (by omega))
theorem m_sizeOf {σ s : zSt} (h : Inv s) (y : RY s σ) {k : Nat} (hk : k < mK σ) {d : Int32} (hw : ∀ i, i < mH σ → gI s 1357 0 i = b01 (wth σ k d i)) (g : Int32) (w : Bool) : f12_sizeOf g (nI k) (b01 w) s = some (nI (cS σ k d g w)) := by
  unfold f12_sizeOf cS
  have mh := (RY_b y).2.2.2.2.2.2.2.1
  have mk := (RY_b y).2.2.2.2.2.2.2.2.1
  have h40 := (N_h h).2.2
  rw [mh] at h40
  have e1 := (N_h h).2.1
  rw [mh] at e1
  have key : ∀ dd i m, i + dd = mH σ → dd < m → f12_sizeOf_L6 g (nI k) (b01 w) s m (nI (cnt (gsz σ k d g w) 0 i)) (nI i) = some (nI (cnt (gsz σ k d g w) 0 (mH σ))) := by
    intro dd
    induction dd with
    | zero =>
      intro i m hi hq
      obtain ⟨m, rfl⟩ : ∃ q, m = q + 1 := ⟨m - 1, by omega⟩
      obtain rfl : i = mH σ := by omega
      rw [f12_sizeOf_L6, e1, if_pos (zn_rle _)]
    | succ dd ih =>
      intro i m hi hq
      obtain ⟨m, rfl⟩ : ∃ q, m = q + 1 := ⟨m - 1, by omega⟩
      have hi2 : i < mH σ := by omega
      have hc := cnt_le (gsz σ k d g w) i 0
      have ce : cnt (gsz σ k d g w) 0 (i + 1) = cnt (gsz σ k d g w) 0 i + (if gsz σ k d g w i then 1 else 0) := by rw [cnt_end, Nat.zero_add]
      have gz : gsz σ k d g w i = (grp σ k g i && (!w || wth σ k d i)) := rfl
      have n1 := nI_suc (cnt (gsz σ k d g w) 0 i) (by omega)
      rw [← ih (i + 1) m (by omega) (by omega), f12_sizeOf_L6, e1, if_neg (zn_nle hi2 (by omega)), m_isIn (RI_of h) (show i < 40 by omega) (by rw [mk]; exact hk), RY_grp y, zc1_s]
      simp only [zlt_s, nI_suc i (show i + 1 < 2 ^ 31 by omega), n1, i_add0]
      rw [zix_s (show i < 40 by omega) (by decide), hw i hi2, ce, gz]
      simp only [b01_0]
      cases grp σ k g i <;> cases w <;> cases wth σ k d i <;> rfl
  exact key (mH σ) 0 zfuel (by omega) (zfuel_pos (by omega))
/-- the chance of a group -/
noncomputable def chv (σ : zSt) (k : Nat) (d g : Int32) : Int32 := if cS σ k d g false = 0 then 10000 else Int64.toInt32 (zop_ldiv (zL (wsN (cW σ k d) (mH σ - cW σ k d) (cS σ k d g false) (cS σ k d g true) (cS σ k d g false + 1 - cS σ k d g true)) * 10000 + zL (chN (mH σ) (cS σ k d g false)) - 1) (zL (chN (mH σ) (cS σ k d g false))))
theorem cS_le (σ : zSt) (k : Nat) (d g : Int32) : cS σ k d g true ≤ cS σ k d g false ∧ cS σ k d g false ≤ mH σ ∧ cW σ k d ≤ mH σ :=
  ⟨cnt_mono (fun i hi => by
    unfold gsz at hi ⊢
    cases e : grp σ k g i
    · rw [e] at hi; exact hi
    · rfl) _ _, cnt_le _ _ _, cnt_le _ _ _⟩
theorem e_chanceOf {σ s : zSt} (h : Inv s) (y : RY s σ) {k : Nat} (hk : k < mK σ) {d : Int32} (hw : ∀ i, i < mH σ → gI s 1218 0 i = b01 (wth σ k d i)) (g : Int32) : f11_chanceOf k g (nI (cW σ k d)) s = some (chv σ k d g) := by
  have mh := (RY_b y).2.2.2.2.2.2.2.1
  have h40 := (N_h h).2.2
  rw [mh] at h40
  have e1 := (N_h h).1
  rw [mh] at e1
  obtain ⟨l1, l2, l3⟩ := cS_le σ k d g
  have s0 : f11_sizeOfGroup k g 0 s = _ := e_sizeOf h y hk hw g false
  have s1 : f11_sizeOfGroup k g 1 s = _ := e_sizeOf h y hk hw g true
  have cp := chN_p (mH σ) (cS σ k d g false) l2
  have cb := chN_b (show mH σ ≤ 41 by omega) (cS σ k d g false)
  unfold f11_chanceOf f8_chanceOfMany chv
  rw [s0, zc1_s, s1, zc1_s, e1, e_choose h40 (by omega), zc1_s]
  by_cases c0 : cS σ k d g false = 0
  · rw [c0, if_pos (show nI 0 = 0 from rfl), if_pos rfl, zc1_s]
  · rw [if_neg (show ¬ nI (cS σ k d g false) = 0 by show ¬ _ = nI 0; rw [nI_inj (by omega) (by omega)]; exact c0), if_neg c0, if_neg (show ¬ lg_cmp (zL (chN (mH σ) (cS σ k d g false))) 0 = 0 by rw [lg_cmp_eq]; exact zL_ne0 ⟨cp, by omega⟩), e_ways l3 h40 (by omega) (Nat.le_refl _) (by omega), zc1_s, znl_s ⟨cp, by omega⟩, zc1_s]
theorem m_chance28 {σ s : zSt} {W S T H : Nat} (hW : W ≤ H) (hH : H ≤ 40) (hS : S ≤ H) (hT : T ≤ S) (e58 : gI s 12 0 58 = nI W) (e13 : gI s 12 0 13 = nI H) (K : Int64 → Option Int32) : f12_chanceOf_L28 (nI S) s K zfuel 0 (nI T) = K (zL (wsN W (H - W) S T (S + 1 - T))) := by
  have key : ∀ dd j m, j + dd = S + 1 - T → dd < m → f12_chanceOf_L28 (nI S) s K m (zL (wsN W (H - W) S T j)) (nI (T + j)) = K (zL (wsN W (H - W) S T (S + 1 - T))) := by
    intro dd
    induction dd with
    | zero =>
      intro j m hj hq
      obtain ⟨m, rfl⟩ : ∃ q, m = q + 1 := ⟨m - 1, by omega⟩
      have e9 : nI S < nI (T + j) := by rw [i_lt, nI_ti (by omega), nI_ti (by omega)]; omega
      rw [f12_chanceOf_L28, if_pos e9, ite_self, show j = S + 1 - T by omega]
    | succ dd ih =>
      intro j m hj hq
      obtain ⟨m, rfl⟩ : ∃ q, m = q + 1 := ⟨m - 1, by omega⟩
      rw [f12_chanceOf_L28, e58, e13]
      by_cases c : W < T + j
      · rw [if_pos (show nI W < nI (T + j) by rw [i_lt, nI_ti (by omega), nI_ti (by omega)]; omega), show S + 1 - T = j + (dd + 1) by omega, wsN_add, wsN_hi (dd + 1) (T + j) c, Nat.add_zero]
      · have b1 := chN_b (show W ≤ 41 by omega) (T + j)
        have b2 := chN_b (show H - W ≤ 41 by omega) (S - (T + j))
        have b3 := ws1_b (a := W) (b := H - W) (n := S) (i := T + j) (by omega) (by omega)
        have b4 := ws_b (a := W) (b := H - W) (n := S) (i := T) (d := j) (by omega) (by omega)
        rw [← ih (j + 1) m (by omega) (by omega), if_neg (show ¬ nI W < nI (T + j) by rw [i_lt, nI_ti (by omega), nI_ti (by omega)]; omega), if_neg (show ¬ nI S < nI (T + j) by rw [i_lt, nI_ti (by omega), nI_ti (by omega)]; omega), m_choose (by omega) (by omega), zc1_s, nI_sub hW (by omega), nI_sub (show T + j ≤ S by omega) (by omega), m_choose (by omega) (by omega), zc1_s, zL_mul (by omega) (by omega) (by omega), zL_add (by omega), zlt_s, nI_suc (T + j) (by omega), zlt_s, wsN_end]
        rfl
  exact key (S + 1 - T) 0 zfuel (by omega) (zfuel_pos (by omega))
theorem m_chanceOf {σ s : zSt} (h : Inv s) (y : RY s σ) {k : Nat} (hk : k < mK σ) {d : Int32} (e58 : gI s 12 0 58 = nI (cW σ k d)) (hw : ∀ i, i < mH σ → gI s 1357 0 i = b01 (wth σ k d i)) (g : Int32) : f12_chanceOf g (nI k) s = some (chv σ k d g) := by
  have mh := (RY_b y).2.2.2.2.2.2.2.1
  have h40 := (N_h h).2.2
  rw [mh] at h40
  have e1 := (N_h h).2.1
  rw [mh] at e1
  obtain ⟨l1, l2, l3⟩ := cS_le σ k d g
  have s0 : f12_sizeOf g (nI k) 0 s = _ := m_sizeOf h y hk hw g false
  have s1 : f12_sizeOf g (nI k) 1 s = _ := m_sizeOf h y hk hw g true
  have cp := chN_p (mH σ) (cS σ k d g false) l2
  have cb := chN_b (show mH σ ≤ 41 by omega) (cS σ k d g false)
  unfold f12_chanceOf chv
  rw [s0, zc1_s]
  by_cases c0 : cS σ k d g false = 0
  · rw [c0, if_pos (show nI 0 = 0 from rfl), if_pos rfl]
  · rw [if_neg (show ¬ nI (cS σ k d g false) = 0 by show ¬ _ = nI 0; rw [nI_inj (by omega) (by omega)]; exact c0), if_neg c0, s1, zc1_s, m_chance28 (σ := σ) l3 h40 l2 l1 e58 e1, e1, m_choose h40 (by omega), zc1_s, znl_s ⟨cp, by omega⟩]
/-- the likeliest group: least chance below p, and which -/
noncomputable def lkF (σ : zSt) (k : Nat) (d : Int32) (g : Nat) (s : Int32 × Int32) : Int32 × Int32 := if isg (nI g) = true then (if s.2 ≤ chv σ k d (nI g) then s else (nI g, chv σ k d (nI g))) else s
noncomputable def lkl (σ : zSt) (k : Nat) (d p : Int32) (x : Int32) (n : Nat) : Int32 × Int32 := zfold (lkF σ k d) (x, p) n
theorem lkl_x (σ : zSt) (k : Nat) (d p : Int32) : ∀ n, n < 100 → ((lkl σ k d p (-4) n).1 = -4 ∧ lkl σ k d p (-1) n = (-1, (lkl σ k d p (-4) n).2)) ∨ (∃ g, g < n ∧ isg (nI g) = true ∧ (lkl σ k d p (-4) n).1 = nI g ∧ lkl σ k d p (-1) n = lkl σ k d p (-4) n)
  | 0, _ => Or.inl ⟨rfl, rfl⟩
  | n + 1, hn => by
    have ih := lkl_x σ k d p n (by omega)
    have u : ∀ x, lkl σ k d p x (n + 1) = lkF σ k d n (lkl σ k d p x n) := fun _ => rfl
    rw [u, u]
    unfold lkF
    by_cases c : isg (nI n) = true
    · rw [if_pos c, if_pos c]
      rcases ih with ⟨e1, e2⟩ | ⟨g, hg, hi, e1, e2⟩
      · rw [e2]
        by_cases c2 : (lkl σ k d p (-4) n).2 ≤ chv σ k d (nI n)
        · rw [if_pos c2, if_pos c2]
          exact Or.inl ⟨e1, rfl⟩
        · rw [if_neg c2, if_neg c2]
          exact Or.inr ⟨n, by omega, c, rfl, rfl⟩
      · rw [e2]
        by_cases c2 : (lkl σ k d p (-4) n).2 ≤ chv σ k d (nI n)
        · rw [if_pos c2]
          exact Or.inr ⟨g, by omega, hi, e1, rfl⟩
        · rw [if_neg c2]
          exact Or.inr ⟨n, by omega, c, rfl, rfl⟩
    · rw [if_neg c, if_neg c]
      rcases ih with ih | ⟨g, hg, hi, e1, e2⟩
      · exact Or.inl ih
      · exact Or.inr ⟨g, by omega, hi, e1, e2⟩
theorem lkl_p (σ : zSt) (k : Nat) (d p x : Int32) : ∀ n, (lkl σ k d p x n).2.toInt ≤ p.toInt
  | 0 => Int.le_refl _
  | n + 1 => by
    have ih := lkl_p σ k d p x n
    show (lkF σ k d n (lkl σ k d p x n)).2.toInt ≤ _
    unfold lkF
    split
    · split
      · exact ih
      · rename_i c
        rw [i_le] at c
        show (chv σ k d (nI n)).toInt ≤ _
        omega
    · exact ih
theorem e_likeliest {σ s : zSt} (h : Inv s) (y : RY s σ) {k : Nat} (hk : k < mK σ) {d : Int32} (hw : ∀ i, i < mH σ → gI s 1218 0 i = b01 (wth σ k d i)) (p : Int32) : f11_likeliestGroup k (nI (cW σ k d)) p s = some (lkl σ k d p (-4) 31).1 := by
  unfold f11_likeliestGroup
  have key : ∀ dd g m, g + dd = 31 → dd < m → f11_likeliestGroup_L10 k (nI (cW σ k d)) p s m (lkl σ k d p (-4) g).1 (lkl σ k d p (-4) g).2 (nI g) = some (lkl σ k d p (-4) 31).1 := by
    intro dd
    induction dd with
    | zero =>
      intro g m hg hq
      obtain ⟨m, rfl⟩ : ∃ q, m = q + 1 := ⟨m - 1, by omega⟩
      obtain rfl : g = 31 := by omega
      rw [f11_likeliestGroup_L10, if_pos (by decide)]
    | succ dd ih =>
      intro g m hg hq
      obtain ⟨m, rfl⟩ : ∃ q, m = q + 1 := ⟨m - 1, by omega⟩
      have hp := lkl_p σ k d p (-4) g
      have u : lkl σ k d p (-4) (g + 1) = lkF σ k d g (lkl σ k d p (-4) g) := rfl
      have ih' := ih (g + 1) m (by omega) (by omega)
      rw [u] at ih'
      unfold lkF at ih'
      rw [f11_likeliestGroup_L10, if_neg (show ¬ (30 : Int32) < nI g by rw [i_lt, nI_ti (by omega)]; simp only [Int32.reduceToInt]; omega), e_isGroup, zc1_s, zlt_s]
      simp only [zlt_s, b01_0, nI_suc g (show g + 1 < 2 ^ 31 by omega)]
      by_cases c : isg (nI g) = true
      · rw [if_pos c] at ih'
        rw [if_neg (by rw [c]; decide), e_chanceOf h y hk hw, zc1_s]
        by_cases c2 : (lkl σ k d p (-4) g).2 ≤ chv σ k d (nI g)
        · rw [if_pos c2] at ih' ⊢
          exact ih'
        · rw [if_neg c2] at ih' ⊢
          exact ih'
      · rw [if_neg c] at ih'
        rw [if_pos (by cases hh : isg (nI g) <;> simp_all), if_pos (by rw [i_le]; exact hp)]
        exact ih'
  exact key 31 0 zfuel (by omega) (zfuel_pos (by omega))
theorem m_causeOf {σ s : zSt} (h : Inv s) (y : RY s σ) {k : Nat} (hk : k < mK σ) {d : Int32} (e58 : gI s 12 0 58 = nI (cW σ k d)) (hw : ∀ i, i < mH σ → gI s 1357 0 i = b01 (wth σ k d i)) (p : Int32) : f12_causeOf (nI k) p s = some (lkl σ k d p (-1) 31).1 := by
  unfold f12_causeOf
  have key : ∀ dd g m, g + dd = 31 → dd < m → f12_causeOf_L8 (nI k) s m (lkl σ k d p (-1) g).1 (lkl σ k d p (-1) g).2 (nI g) = some (lkl σ k d p (-1) 31).1 := by
    intro dd
    induction dd with
    | zero =>
      intro g m hg hq
      obtain ⟨m, rfl⟩ : ∃ q, m = q + 1 := ⟨m - 1, by omega⟩
      obtain rfl : g = 31 := by omega
      rw [f12_causeOf_L8, if_pos (by decide)]
    | succ dd ih =>
      intro g m hg hq
      obtain ⟨m, rfl⟩ : ∃ q, m = q + 1 := ⟨m - 1, by omega⟩
      have u : lkl σ k d p (-1) (g + 1) = lkF σ k d g (lkl σ k d p (-1) g) := rfl
      have ih' := ih (g + 1) m (by omega) (by omega)
      rw [u] at ih'
      unfold lkF at ih'
      rw [f12_causeOf_L8, if_neg (show ¬ (30 : Int32) < nI g by rw [i_lt, nI_ti (by omega)]; simp only [Int32.reduceToInt]; omega), m_isGroup, zc1_s, zlt_s]
      simp only [zlt_s, b01_0, nI_suc g (show g + 1 < 2 ^ 31 by omega)]
      by_cases c : isg (nI g) = true
      · rw [if_pos c] at ih'
        rw [if_neg (by rw [c]; decide), m_chanceOf h y hk e58 hw, zc1_s, zc1_s]
        by_cases c2 : (lkl σ k d p (-1) g).2 ≤ chv σ k d (nI g)
        · rw [if_pos c2] at ih' ⊢
          exact ih'
        · rw [if_neg c2] at ih' ⊢
          exact ih'
      · rw [if_neg c] at ih'
        rw [if_pos (by cases hh : isg (nI g) <;> simp_all)]
        exact ih'
  exact key 31 0 zfuel (by omega) (zfuel_pos (by omega))
/-- the same HOMES -/
def dif (σ : zSt) (k : Nat) (g g' : Int32) (i : Nat) : Bool := !(grp σ k g i == grp σ k g' i)
theorem b01_eq (a b : Bool) : (b01 a = b01 b) ↔ a = b := by cases a <;> cases b <;> decide
theorem e_areSame {σ s : zSt} (h : Inv s) (y : RY s σ) {k : Nat} (hk : k < mK σ) (g g' : Int32) : f11_areSameHomes k g g' s = some (b01 (!zan (dif σ k g g') (mH σ))) := by
  have mh := (RY_b y).2.2.2.2.2.2.2.1
  have mk := (RY_b y).2.2.2.2.2.2.2.2.1
  have h40 := (N_h h).2.2
  rw [mh] at h40
  have e1 := (N_h h).1
  rw [mh] at e1
  unfold f11_areSameHomes
  rw [zan_first, lfirst (f11_areSameHomes_L3 k g g' s) (some 1) (dif σ k g g') (fun _ => some 0) (mH σ) (by omega) (fun n i hi => ?_) (fun n => ?_) (zfuel_pos (by omega))]
  · cases zfirst (dif σ k g g') 0 (mH σ) <;> rfl
  · have a1 := (A_H h (k := i) (by rw [mh]; exact hi)).1
    rw [f11_areSameHomes_L3, e1, if_neg (zn_nle hi (by omega)), zix_s (show i < 40 by omega) (by decide), zlt_s, a1, zoc_s, e_isOf h (by rw [mh]; exact hi) (by rw [mk]; exact hk), zc1_s, zix_s (show i < 40 by omega) (by decide), zlt_s, a1, zoc_s, e_isOf h (by rw [mh]; exact hi) (by rw [mk]; exact hk), zc1_s, RY_grp y]
    simp only [zlt_s, b01_eq]
    unfold dif
    cases grp σ k g i <;> cases grp σ k g' i <;> rfl
  · rw [f11_areSameHomes_L3, e1, if_pos (zn_rle _)]
theorem m_areSame {σ s : zSt} (h : Inv s) (y : RY s σ) {k : Nat} (hk : k < mK σ) (g g' : Int32) : f12_areSame g g' (nI k) s = some (b01 (!zan (dif σ k g g') (mH σ))) := by
  have mh := (RY_b y).2.2.2.2.2.2.2.1
  have mk := (RY_b y).2.2.2.2.2.2.2.2.1
  have h40 := (N_h h).2.2
  rw [mh] at h40
  have e1 := (N_h h).2.1
  rw [mh] at e1
  unfold f12_areSame
  have key : ∀ dd i m, i + dd = mH σ → dd < m → f12_areSame_L6 g g' (nI k) s m (b01 (!zan (dif σ k g g') i)) (nI i) = some (b01 (!zan (dif σ k g g') (mH σ))) := by
    intro dd
    induction dd with
    | zero =>
      intro i m hi hq
      obtain ⟨m, rfl⟩ : ∃ q, m = q + 1 := ⟨m - 1, by omega⟩
      obtain rfl : i = mH σ := by omega
      rw [f12_areSame_L6, e1, if_pos (zn_rle _)]
      cases zan (dif σ k g g') (mH σ) <;> rfl
    | succ dd ih =>
      intro i m hi hq
      obtain ⟨m, rfl⟩ : ∃ q, m = q + 1 := ⟨m - 1, by omega⟩
      have hi2 : i < mH σ := by omega
      rw [← ih (i + 1) m (by omega) (by omega), f12_areSame_L6, e1, if_neg (zn_nle hi2 (by omega)), m_isIn (RI_of h) (show i < 40 by omega) (by rw [mk]; exact hk), m_isIn (RI_of h) (show i < 40 by omega) (by rw [mk]; exact hk), RY_grp y]
      simp only [zlt_s, zc1_s, nI_suc i (show i + 1 < 2 ^ 31 by omega), b01_eq, b01_0]
      rw [show zan (dif σ k g g') (i + 1) = (zan (dif σ k g g') i || dif σ k g g' i) from rfl, show dif σ k g g' i = !(grp σ k g i == grp σ k g' i) from rfl]
      cases zan (dif σ k g g') i <;> cases grp σ k g i <;> cases grp σ k g' i <;> rfl
  exact key (mH σ) 0 zfuel (by omega) (zfuel_pos (by omega))
