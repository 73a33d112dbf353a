/-! GAUGES -/
def pa (σ : zSt) (f i : Nat) : Int32 := zop_idiv ((rW σ f (i + 1) - rW σ f i) * 1000) (rD σ f (i + 1) - rD σ f i)
theorem F_RG {σ : zSt} (h : RI σ) {f : Nat} (hf : f < mF σ) : RG σ f := (F_RF h hf).2.2.2.2.2.2.2.2.2.2.2
theorem rd_ne {σ : zSt} (h : RI σ) {f i : Nat} (hf : f < mF σ) (hi : i + 1 < rdn σ f) : ¬ rD σ f (i + 1) - rD σ f i = 0 := by
  obtain ⟨g1, g2, g3, g4, g5⟩ := F_RG h hf
  have a := g4 i (i + 1) (by omega) hi
  have b := (g3 i (by omega)).2
  have c := (g3 (i + 1) hi).2
  have hq := h.2.2.2.1
  unfold btw at hq
  rw [i_eq, i_subp (by omega)]
  simp only [Int32.reduceToInt]
  omega
theorem m_paceOf {σ : zSt} (h : RI σ) {f i : Nat} (hf : f < mF σ) (hi : i + 1 < rdn σ f) : f12_paceOf (nI f) (nI i) σ = some (pa σ f i) := by
  have hl := F_lt h hf
  have h12 := (F_RG h hf).2.1
  unfold f12_paceOf
  rw [nI_row12 f i (by omega), zlt_s, nI_suc (12 * f + i) (by omega), zix_s (show 12 * f + i + 1 < 2400 by omega) (by decide), zix_s (show 12 * f + i < 2400 by omega) (by decide), zix_s (show 12 * f + i + 1 < 2400 by omega) (by decide), zix_s (show 12 * f + i < 2400 by omega) (by decide)]
  unfold znz
  rw [if_neg (by exact rd_ne h hf hi)]
  rfl
/-- the gauge g of the class is that of the fault f -/
def gof (σ : zSt) (f g : Nat) : Prop := gR σ 1 f 8 = some g ∧ gI σ 3 g 2 = nI (rdn σ f) ∧ ∀ j, j < rdn σ f → gI σ 400 g j = rD σ f j ∧ gI σ 401 g j = rW σ f j
theorem gof_of {σ : zSt} (h : Inv σ) {f : Nat} (hf : f < mF σ) : (flg σ f 2 = true ∧ ∃ g, gof σ f g) ∨ (flg σ f 2 = false ∧ gR σ 1 f 8 = none ∧ rdn σ f = 0) := by
  obtain ⟨g1, g2, g3, g4, g5⟩ := (A_F h hf).2.2
  unfold flg
  rcases g5 with ⟨a, g, b1, b2, b3, b4⟩ | ⟨a, b, c⟩
  · refine Or.inl ⟨?_, g, b1, b3, b4⟩
    rw [decide_eq_false a]
    rfl
  · refine Or.inr ⟨?_, b, c⟩
    rw [decide_eq_true (Classical.not_not.mp a)]
    rfl
theorem e_paceAt {σ : zSt} (h : RI σ) {f g i : Nat} (hf : f < mF σ) (H : gof σ f g) (hi : i + 1 < rdn σ f) : f3_paceAt g (nI i) σ = some (pa σ f i) := by
  have h12 := (F_RG h hf).2.1
  obtain ⟨b1, b2, b3⟩ := H
  unfold f3_paceAt
  rw [b2, sub1' (rdn σ f) (by omega), e_isIn, nI_ti (show i < 2 ^ 31 by omega), nI_ti (show rdn σ f - 1 < 2 ^ 31 by omega), if_pos (by omega), zc1_s, if_neg (by decide), nI_suc i (by omega), zix_s (show i + 1 < 12 by omega) (by decide), zix_s (show i < 12 by omega) (by decide), zlt_s, (b3 (i + 1) hi).1, (b3 i (by omega)).1, if_neg (rd_ne h hf hi), zix_s (show i + 1 < 12 by omega) (by decide), zix_s (show i < 12 by omega) (by decide), (b3 (i + 1) hi).2, (b3 i (by omega)).2]
  unfold znz
  rw [if_neg (rd_ne h hf hi)]
  rfl
/-- how many readings up to a day -/
def nrd (σ : zSt) (f : Nat) (d : Int32) : Nat := (zfirst (fun n => decide (d < rD σ f n)) 0 (rdn σ f)).getD (rdn σ f)
theorem nrd_le {σ : zSt} {f : Nat} {d : Int32} : nrd σ f d ≤ rdn σ f := by
  unfold nrd
  cases e : zfirst (fun n => decide (d < rD σ f n)) 0 (rdn σ f) with
  | none => exact Nat.le_refl _
  | some j =>
    have := (zfirst_some _ _ _ e).2.1
    show j ≤ _
    omega
theorem zf_get {β : Type} {p : Nat → Bool} {n : Nat} (K : Nat → Option β) : (match zfirst p 0 n with | some j => K j | none => K n) = K ((zfirst p 0 n).getD n) := by
  cases zfirst p 0 n <;> rfl
theorem m_nrd {σ : zSt} (h : RI σ) {f : Nat} (hf : f < mF σ) (d : Int32) (K : Int32 → Option Int32) : f12_gaugeOf_L2 (nI f) d σ K zfuel 0 = K (nI (nrd σ f d)) := by
  obtain ⟨g1, g2, g3, g4, g5⟩ := F_RG h hf
  have hl := F_lt h hf
  unfold nrd
  rw [← zf_get (fun n => K (nI n))]
  refine lfirst (f12_gaugeOf_L2 (nI f) d σ K) (K (nI (rdn σ f))) (fun n => decide (d < rD σ f n)) (fun j => K (nI j)) (rdn σ f) (by omega) (fun n j hj => ?_) (fun n => ?_) (zfuel_pos (by omega))
  · rw [f12_gaugeOf_L2, zix_s hl (by decide), g1, if_neg (zn_nle hj (by omega)), nI_row12 f j (by omega), zix_s (show 12 * f + j < 2400 by omega) (by decide), zlt_s]
    simp only [decide_eq_true_eq]
    rfl
  · rw [f12_gaugeOf_L2, zix_s hl (by decide), g1, if_pos (zn_rle _)]
theorem e_nrd {σ : zSt} (h : RI σ) {f g : Nat} (hf : f < mF σ) (H : gof σ f g) (d : Int32) (K : Int32 → Option Int32) : f3_says_L2 g d σ K zfuel 0 = K (nI (nrd σ f d)) := by
  obtain ⟨g1, g2, g3, g4, g5⟩ := F_RG h hf
  obtain ⟨b1, b2, b3⟩ := H
  unfold nrd
  rw [← zf_get (fun n => K (nI n))]
  refine lfirst (f3_says_L2 g d σ K) (K (nI (rdn σ f))) (fun n => decide (d < rD σ f n)) (fun j => K (nI j)) (rdn σ f) (by omega) (fun n j hj => ?_) (fun n => ?_) (zfuel_pos (by omega))
  · rw [f3_says_L2, b2, if_neg (zn_nle hj (by omega)), zix_s (show j < 12 by omega) (by decide), zlt_s, (b3 j hj).1]
    simp only [decide_eq_true_eq]
  · rw [f3_says_L2, b2, if_pos (zn_rle _)]
/-- all of the first n -/
def zev (p : Nat → Bool) : Nat → Bool
  | 0 => true
  | n + 1 => zev p n && p n
theorem zev_first {p : Nat → Bool} (n : Nat) : zev p n = (zfirst (fun i => !p i) 0 n).isNone := by
  have : zev p n = !zan (fun i => !p i) n := by
    induction n with
    | zero => rfl
    | succ n ih =>
      unfold zev zan
      rw [ih]
      cases zan (fun i => !p i) n <;> cases p n <;> rfl
  rw [this, zan_first]
  cases zfirst (fun i => !p i) 0 n <;> rfl
def okp (σ : zSt) (f i : Nat) : Bool := decide (¬ pa σ f i < 0) && (i == 0 || decide (pa σ f i ≤ pa σ f (i - 1)))
def wet (σ : zSt) (f i : Nat) : Bool := !decide ((6 : Int32) ≤ zop_irem (zop_idiv (rD σ f (i + 1)) 30) 12)
def upp (σ : zSt) (f i : Nat) : Bool := !decide (pa σ f i ≤ 0)
def dnn (σ : zSt) (f i : Nat) : Bool := !decide (0 ≤ pa σ f i)
def gfin (σ : zSt) (f n : Nat) : Bool := !decide (0 < lg_cmp (Int32.toInt64 (pa σ f (n - 2)) * 4) (Int32.toInt64 (pa σ f 0)))
def gdry (σ : zSt) (f n : Nat) : Bool := gfin σ f n && zev (okp σ f) (n - 1)
def gwu (σ : zSt) (f n : Nat) : Bool := zan (fun i => wet σ f i && upp σ f i) n
def gwd (σ : zSt) (f n : Nat) : Bool := zan (fun i => wet σ f i && dnn σ f i) n
def gdu (σ : zSt) (f n : Nat) : Bool := zan (fun i => !wet σ f i && upp σ f i) n
def gdd (σ : zSt) (f n : Nat) : Bool := zan (fun i => !wet σ f i && dnn σ f i) n
def gqk (σ : zSt) (f n : Nat) : Bool := !decide (pa σ f (n - 2) ≤ pa σ f 0) && !decide (pa σ f (n - 2) ≤ 0)
def gsn (σ : zSt) (f n : Nat) : Int32 := if n < 3 then 0 else if gdry σ f n then 1 else if (gwu σ f (n - 1) && gdd σ f (n - 1) || gwd σ f (n - 1) && gdu σ f (n - 1)) || gqk σ f n then 2 else 0
def gsy (σ : zSt) (f : Nat) (d : Int32) : Int32 := gsn σ f (nrd σ f d)
theorem e_isDrying {σ : zSt} (h : RI σ) {f g n : Nat} (hf : f < mF σ) (H : gof σ f g) (h3 : 3 ≤ n) (hn : n ≤ rdn σ f) : f3_isDrying g (nI (n - 1)) σ = some (b01 (gdry σ f n)) := by
  have h12 := (F_RG h hf).2.1
  unfold f3_isDrying
  rw [sub1' (n - 1) (by omega), show n - 1 - 1 = n - 2 by omega, e_paceAt h hf H (show n - 2 + 1 < rdn σ f by omega), zc1_s]
  rw [show f3_paceAt g 0 σ = some (pa σ f 0) from e_paceAt h hf H (show 0 + 1 < rdn σ f by omega), zc1_s]
  rw [lfirst (f3_isDrying_L2 g (nI (n - 1)) σ _) _ (fun i => !okp σ f i) (fun _ => some 0) (n - 1) (by omega) (fun m i hi => ?_) (fun m => ?_) (zfuel_pos (by omega))]
  · unfold gdry
    rw [zev_first]
    cases zfirst (fun i => !okp σ f i) 0 (n - 1) with
    | none =>
      unfold gfin
      show (if 0 < lg_cmp (Int32.toInt64 (pa σ f (n - 2)) * 4) (Int32.toInt64 (pa σ f 0)) then some 0 else some 1) = _
      by_cases e : 0 < lg_cmp (Int32.toInt64 (pa σ f (n - 2)) * 4) (Int32.toInt64 (pa σ f 0))
      · rw [if_pos e, decide_eq_true e]; rfl
      · rw [if_neg e, decide_eq_false e]; rfl
    | some j =>
      cases gfin σ f n <;> rfl
  · rw [f3_isDrying_L2, if_neg (zn_nle hi (by omega)), e_paceAt h hf H (show i + 1 < rdn σ f by omega), zc1_s, zlt_s, zlt_s]
    unfold okp
    by_cases c1 : pa σ f i < 0
    · rw [if_pos c1, decide_eq_false (fun hh => hh c1)]; rfl
    · rw [if_neg c1, decide_eq_true c1]
      by_cases c2 : i = 0
      · subst c2
        rw [if_pos (show nI 0 ≤ 0 by decide)]; rfl
      · rw [if_neg (show ¬ nI i ≤ 0 by rw [i_le, nI_ti (by omega)]; simp only [Int32.reduceToInt]; omega), zc1_s, sub1' i (by omega), e_paceAt h hf H (show i - 1 + 1 < rdn σ f by omega), zc1_s]
        rw [show (i == 0) = false by simpa using c2]
        by_cases c3 : pa σ f i ≤ pa σ f (i - 1)
        · rw [if_pos c3, decide_eq_true c3]; rfl
        · rw [if_neg c3, decide_eq_false c3]; rfl
  · rw [f3_isDrying_L2, if_pos (zn_rle _)]
theorem or01 (a b : Bool) : b01 a ||| b01 b = b01 (a || b) := by cases a <;> cases b <;> rfl
theorem acc01 (a b : Bool) : (if b01 a = 0 then b01 b else 1) = b01 (a || b) := by cases a <;> cases b <;> rfl
theorem and01 (a b : Bool) : (if b01 a = 0 then 0 else b01 b) = b01 (a && b) := by cases a <;> cases b <;> rfl
theorem nand01 (a b : Bool) : (if b01 a = 0 then b01 b else 0) = b01 (!a && b) := by cases a <;> cases b <;> rfl
theorem b01_ite {P : Prop} [Decidable P] : (if P then (0 : Int32) else 1) = b01 (!decide P) := by
  by_cases h : P
  · rw [if_pos h, decide_eq_true h]; rfl
  · rw [if_neg h, decide_eq_false h]; rfl
theorem e_swings {σ : zSt} (h : RI σ) {f g n : Nat} (hf : f < mF σ) (H : gof σ f g) (hn : n < rdn σ f) : f3_swings g (nI n) σ = some (b01 (gwu σ f n && gdd σ f n || gwd σ f n && gdu σ f n)) := by
  have h12 := (F_RG h hf).2.1
  have b3 := H.2.2
  unfold f3_swings
  generalize hK : (fun (a42 : Int32) (a43 : Int32) (a44 : Int32) (a45 : Int32) => zlt (some (1 : Int32)) fun j46 => zlt (zlt (some 0) fun j50 => if a43 = 0 then (j50) else if a44 = 0 then (j50) else j46) fun j48 => if a42 = 0 then (j48) else if a45 = 0 then (j48) else j46) = K
  have key : ∀ d i m, i + d = n → d < m → f3_swings_L13 g (nI n) σ K m (b01 (gwu σ f i)) (b01 (gwd σ f i)) (b01 (gdu σ f i)) (b01 (gdd σ f i)) (nI i) = K (b01 (gwu σ f n)) (b01 (gwd σ f n)) (b01 (gdu σ f n)) (b01 (gdd σ f n)) := by
    intro d
    induction d with
    | zero =>
      intro i m hi hm
      obtain ⟨m, rfl⟩ : ∃ q, m = q + 1 := ⟨m - 1, by omega⟩
      obtain rfl : i = n := by omega
      rw [f3_swings_L13, if_pos (zn_rle _)]
    | succ d ih =>
      intro i m hi hm
      obtain ⟨m, rfl⟩ : ∃ q, m = q + 1 := ⟨m - 1, by omega⟩
      rw [← ih (i + 1) m (by omega) (by omega)]
      rw [f3_swings_L13, if_neg (zn_nle (show i < n by omega) (by omega)), e_paceAt h hf H (show i + 1 < rdn σ f by omega), zc1_s, nI_suc i (by omega), zix_s (show i + 1 < 12 by omega) (by decide), (b3 (i + 1) (by omega)).1]
      rw [zlt_s, zlt_s, zlt_s, zlt_s, zlt_s, zlt_s]
      simp only [b01_ite, and01, nand01, or01]
      rfl
  have := key n 0 zfuel (by omega) (zfuel_pos (by omega))
  refine this.trans ?_
  rw [← hK]
  dsimp only
  cases gwu σ f n <;> cases gwd σ f n <;> cases gdu σ f n <;> cases gdd σ f n <;> rfl
theorem e_says {σ : zSt} (h : RI σ) {f g : Nat} (hf : f < mF σ) (H : gof σ f g) (d : Int32) : f3_says g d σ = some (gsy σ f d) := by
  have h12 := (F_RG h hf).2.1
  unfold f3_says
  rw [e_nrd h hf H]
  unfold gsy
  have hn := nrd_le (σ := σ) (f := f) (d := d)
  generalize nrd σ f d = n at hn
  unfold gsn
  by_cases h3 : n < 3
  · rw [if_neg (show ¬ (3 : Int32) ≤ nI n by rw [i_le, nI_ti (by omega)]; simp only [Int32.reduceToInt]; omega), if_pos h3]
  · rw [if_pos (show (3 : Int32) ≤ nI n by rw [i_le, nI_ti (by omega)]; simp only [Int32.reduceToInt]; omega), if_neg h3, sub1' n (by omega), e_isDrying h hf H (by omega) hn, zc1_s, e_swings h hf H (by omega), zc1_s, zlt_s]
    unfold f3_quickens
    rw [sub1' (n - 1) (by omega), show n - 1 - 1 = n - 2 by omega, e_paceAt h hf H (show n - 2 + 1 < rdn σ f by omega), zc1_s, show f3_paceAt g 0 σ = some (pa σ f 0) from e_paceAt h hf H (show 0 + 1 < rdn σ f by omega), zc1_s, zlt_s]
    have eq : (if pa σ f (n - 2) ≤ pa σ f 0 then some 0 else if pa σ f (n - 2) ≤ 0 then some 0 else some 1) = some (b01 (gqk σ f n)) := by
      unfold gqk
      by_cases c1 : pa σ f (n - 2) ≤ pa σ f 0
      · rw [if_pos c1, decide_eq_true c1]; rfl
      · rw [if_neg c1, decide_eq_false c1]
        by_cases c2 : pa σ f (n - 2) ≤ 0
        · rw [if_pos c2, decide_eq_true c2]; rfl
        · rw [if_neg c2, decide_eq_false c2]; rfl
    rw [eq, zc1_s]
    generalize gdry σ f n = a
    generalize (gwu σ f (n - 1) && gdd σ f (n - 1) || gwd σ f (n - 1) && gdu σ f (n - 1)) = b
    generalize gqk σ f n = c
    cases a <;> cases b <;> cases c <;> rfl
theorem gflow (J : Int32 → Option Int32) (a b : Bool) (r i : Int32) (o : Option Int32) (h : (if r < 0 then J 0 else (if i = 0 then J 1 else zc1 o fun r74 => if r74 < r then J 0 else J 1)) = J (b01 b)) : (zlt J fun j16 => zlt (j16 0) fun j70 => if b01 a = 0 then (j70) else if r < 0 then (j70) else zlt (j16 1) fun j72 => if i = 0 then (j72) else zc1 o fun r74 => if r74 < r then (j70) else j72) = J (b01 (a && b)) := by
  cases a
  · rfl
  · exact h
theorem okp_flow {σ : zSt} (h : RI σ) {f i : Nat} (hf : f < mF σ) (hi : i + 1 < rdn σ f) (J : Int32 → Option Int32) : (if pa σ f i < 0 then J 0 else (if nI i = 0 then J 1 else zc1 (f12_paceOf (nI f) (nI i - 1) σ) fun r74 => if r74 < pa σ f i then J 0 else J 1)) = J (b01 (okp σ f i)) := by
  have h12 := (F_RG h hf).2.1
  unfold okp
  by_cases c1 : pa σ f i < 0
  · rw [if_pos c1, decide_eq_false (fun hh => hh c1)]; rfl
  · rw [if_neg c1, decide_eq_true c1]
    by_cases c2 : i = 0
    · subst c2
      rw [if_pos (show nI 0 = 0 from rfl)]; rfl
    · rw [if_neg (show ¬ nI i = 0 by show ¬ nI i = nI 0; rw [nI_inj (by omega) (by omega)]; omega), sub1' i (by omega), m_paceOf h hf (show i - 1 + 1 < rdn σ f by omega), zc1_s]
      rw [show (i == 0) = false by simpa using c2]
      by_cases c3 : pa σ f (i - 1) < pa σ f i
      · rw [if_pos c3, decide_eq_false (by rw [i_le]; rw [i_lt] at c3; omega)]; rfl
      · rw [if_neg c3, decide_eq_true (by rw [i_le]; rw [i_lt] at c3; omega)]; rfl
theorem m_gauge103 {σ : zSt} (h : RI σ) {f n : Nat} (hf : f < mF σ) (h3 : 3 ≤ n) (hn : n ≤ rdn σ f) (p q : Int32) (K : Int32 → Int32 → Int32 → Int32 → Int32 → Option Int32) : f12_gaugeOf_L103 (nI f) (nI n) p q σ K zfuel (b01 (gfin σ f n)) 0 0 0 0 0 = K (b01 (gdry σ f n)) (b01 (gwu σ f (n - 1))) (b01 (gwd σ f (n - 1))) (b01 (gdu σ f (n - 1))) (b01 (gdd σ f (n - 1))) := by
  have h12 := (F_RG h hf).2.1
  have hl := F_lt h hf
  have key : ∀ d i m, i + d = n - 1 → d < m → f12_gaugeOf_L103 (nI f) (nI n) p q σ K m (b01 (gfin σ f n && zev (okp σ f) i)) (b01 (gwu σ f i)) (b01 (gwd σ f i)) (b01 (gdu σ f i)) (b01 (gdd σ f i)) (nI i) = K (b01 (gdry σ f n)) (b01 (gwu σ f (n - 1))) (b01 (gwd σ f (n - 1))) (b01 (gdu σ f (n - 1))) (b01 (gdd σ f (n - 1))) := by
    intro d
    induction d with
    | zero =>
      intro i m hi hm
      obtain ⟨m, rfl⟩ : ∃ q, m = q + 1 := ⟨m - 1, by omega⟩
      obtain rfl : i = n - 1 := by omega
      rw [f12_gaugeOf_L103, sub1' n (by omega), if_pos (zn_rle _)]
      rfl
    | succ d ih =>
      intro i m hi hm
      obtain ⟨m, rfl⟩ : ∃ q, m = q + 1 := ⟨m - 1, by omega⟩
      rw [← ih (i + 1) m (by omega) (by omega)]
      have e1 : ((12 : Int32) * nI f + nI i) + 1 = nI (12 * f + (i + 1)) := by rw [nI_row12 f i (by omega), nI_suc (12 * f + i) (by omega)]; rfl
      rw [f12_gaugeOf_L103, sub1' n (by omega), if_neg (zn_nle (show i < n - 1 by omega) (by omega)), m_paceOf h hf (show i + 1 < rdn σ f by omega), zc1_s]
      refine (gflow _ _ (okp σ f i) _ _ _ (okp_flow h hf (show i + 1 < rdn σ f by omega) _)).trans ?_
      simp only [zlt_s]
      simp only [e1, zix_s (show 12 * f + (i + 1) < 2400 by omega) (show 2400 < 2 ^ 31 by decide), b01_ite, and01, nand01, acc01, nI_suc i (show i + 1 < 2 ^ 31 by omega), Bool.and_assoc]
      rfl
  have := key (n - 1) 0 zfuel (by omega) (zfuel_pos (by omega))
  rw [show (gfin σ f n && zev (okp σ f) 0) = gfin σ f n from Bool.and_true _] at this
  exact this
theorem rdn_flg {σ : zSt} (h : RI σ) {f : Nat} (hf : f < mF σ) (e : flg σ f 2 = false) : rdn σ f = 0 := by
  refine (F_RG h hf).2.2.2.2 fun hc => ?_
  unfold flg at e
  unfold isCr at hc
  rw [decide_eq_false hc] at e
  cases e
theorem m_gaugeOf {σ : zSt} (h : RI σ) {f : Nat} (hf : f < mF σ) (d : Int32) : f12_gaugeOf (nI f) d σ = some (gsy σ f d) := by
  have h12 := (F_RG h hf).2.1
  unfold f12_gaugeOf
  rw [m_nrd h hf, m_hasFlag h hf, zc1_s]
  unfold gsy
  have hn := nrd_le (σ := σ) (f := f) (d := d)
  generalize nrd σ f d = n at hn
  cases e : flg σ f 2
  · have := rdn_flg h hf e
    unfold gsn
    rw [if_pos (by rfl), if_pos (show n < 3 by omega)]
  · rw [if_neg (show ¬ b01 true = 0 by decide)]
    by_cases h3 : n < 3
    · unfold gsn
      rw [if_neg (show ¬ (3 : Int32) ≤ nI n by rw [i_le, nI_ti (by omega)]; simp only [Int32.reduceToInt]; omega), if_pos h3]
    · have e2 : nI n - 2 = nI (n - 2) := by
        obtain ⟨m, rfl⟩ : ∃ m, n = m + 2 := ⟨n - 2, by omega⟩
        rw [Nat.add_sub_cancel, ← nI_add' m 2 (by omega)]
        exact Int32.add_sub_cancel _ _
      rw [if_pos (show (3 : Int32) ≤ nI n by rw [i_le, nI_ti (by omega)]; simp only [Int32.reduceToInt]; omega), show f12_paceOf (nI f) 0 σ = some (pa σ f 0) from m_paceOf h hf (show 0 + 1 < rdn σ f by omega), zc1_s, e2, m_paceOf h hf (show n - 2 + 1 < rdn σ f by omega), zc1_s, b01_ite, zlt_s]
      refine (m_gauge103 h hf (by omega) hn _ _ _).trans ?_
      unfold gsn
      rw [if_neg h3]
      have eq : ∀ o : Option Int32, (if pa σ f (n - 2) ≤ pa σ f 0 then some 0 else if pa σ f (n - 2) ≤ 0 then some 0 else o) = if gqk σ f n then o else some 0 := fun o => by
        unfold gqk
        by_cases c1 : pa σ f (n - 2) ≤ pa σ f 0
        · rw [if_pos c1, decide_eq_true c1]; rfl
        · rw [if_neg c1, decide_eq_false c1]
          by_cases c2 : pa σ f (n - 2) ≤ 0
          · rw [if_pos c2, decide_eq_true c2]; rfl
          · rw [if_neg c2, decide_eq_false c2]; rfl
      simp only [zlt_s, eq]
      generalize gdry σ f n = a
      generalize gwu σ f (n - 1) = b1
      generalize gwd σ f (n - 1) = b2
      generalize gdu σ f (n - 1) = b3
      generalize gdd σ f (n - 1) = b4
      generalize gqk σ f n = c
      cases a <;> cases b1 <;> cases b2 <;> cases b3 <;> cases b4 <;> cases c <;> rfl
theorem e_gaugeSays {σ : zSt} (h : Inv σ) {f : Nat} (hf : f < mF σ) (d : Int32) : f1_gaugeSays f d σ = some (gsy σ f d) := by
  have hr := RI_of h
  unfold f1_gaugeSays
  rcases gof_of h hf with ⟨e, g, H⟩ | ⟨e, hg, h0⟩
  · rw [H.1, zlt_s, zoc_s, zlt_s, zoc_s, e_says hr hf H, zc1_s]
  · rw [hg, zlt_s, zoc_n]
    unfold gsy gsn
    rw [if_pos (show nrd σ f d < 3 by have := nrd_le (σ := σ) (f := f) (d := d); omega)]
theorem t_gauge {σ : zSt} (h : Inv σ) (v1 v2 : Int32) : Ok1 (f11_gauge v1 v2 σ) (f12_gauge v1 v2 σ) := by
  have hr := RI_of h
  rcases zcase v1 (mF σ) (by have := hr.2.2.1.2; omega) with ⟨f, hf, rfl, hv⟩ | hv
  · rcases gof_of h hf with ⟨e, g, H⟩ | ⟨e, hg, h0⟩
    · by_cases hd : 0 ≤ v2.toInt ∧ v2.toInt < 10000
      · refine ⟨gsy σ f v2, ?_, ?_⟩
        · unfold f11_gauge
          rw [e_fAt h hf, zc1_s, zoc_s, H.1, zlt_s, zoc_s, e_isDay, zc1_s, if_neg (by rw [t01]; omega), zlt_s, zoc_s, e_says hr hf H, zc1_s]
        · unfold f12_gauge
          rw [m_isF hr, zc1_s, zlt_s, if_neg (by rw [t01]; omega), m_hasFlag hr hf, zc1_s, e, if_neg (by decide), m_isDay, zc1_s, if_neg (by rw [t01]; omega), m_gaugeOf hr hf, zc1_s]
      · refine ⟨-1, ?_, ?_⟩
        · unfold f11_gauge
          rw [e_fAt h hf, zc1_s, zoc_s, H.1, zlt_s, zoc_s, e_isDay, zc1_s, if_pos (by rw [t01]; omega)]
        · unfold f12_gauge
          rw [m_isF hr, zc1_s, zlt_s, if_neg (by rw [t01]; omega), m_hasFlag hr hf, zc1_s, e, if_neg (by decide), m_isDay, zc1_s, if_pos (by rw [t01]; omega)]
    · refine ⟨-1, ?_, ?_⟩
      · unfold f11_gauge
        rw [e_fAt h hf, zc1_s, zoc_s, hg, zlt_s, zoc_n]
      · unfold f12_gauge
        rw [m_isF hr, zc1_s, zlt_s, if_neg (by rw [t01]; omega), m_hasFlag hr hf, zc1_s, e, if_pos (by rfl)]
  · refine ⟨-1, ?_, ?_⟩
    · unfold f11_gauge
      rw [e_fAt_o h hv, zc1_s, zoc_n]
    · unfold f12_gauge
      rw [m_isF hr, zc1_s, zlt_s, if_pos (by rw [t01]; exact hv)]
theorem t_pace {σ : zSt} (h : Inv σ) (v1 v2 : Int32) : Ok1 (f11_pace v1 v2 σ) (f12_pace v1 v2 σ) := by
  have hr := RI_of h
  rcases zcase v1 (mF σ) (by have := hr.2.2.1.2; omega) with ⟨f, hf, rfl, hv⟩ | hv
  · have hl := F_lt hr hf
    obtain ⟨g1, g2, -⟩ := F_RG hr hf
    rcases gof_of h hf with ⟨e, g, H⟩ | ⟨e, hg, h0⟩
    · by_cases hn : v2 < 0
      · refine ⟨-2000000000, ?_, ?_⟩
        · unfold f11_pace
          rw [e_fAt h hf, zc1_s, zoc_s, H.1, zlt_s, zoc_s, if_pos hn]
        · unfold f12_pace
          rw [m_isF hr, zc1_s, zlt_s, if_neg (by rw [t01]; omega), m_hasFlag hr hf, zc1_s, e, if_neg (by decide), if_pos hn]
      · obtain ⟨i, hi⟩ : ∃ i, v2 = nI i ∧ i < 2 ^ 31 := by
          rw [i_lt] at hn
          simp only [Int32.reduceToInt] at hn
          have := (i_rng v2).2
          exact ⟨v2.toInt.toNat, i_ofNat (by omega), by omega⟩
        obtain ⟨rfl, hi31⟩ := hi
        have em : (nI (rdn σ f) - 1).toInt = (rdn σ f : Int) - 1 := by
          rw [i_subp (by rw [nI_ti (by omega)]; simp only [Int32.reduceToInt]; omega), nI_ti (by omega)]
          rfl
        by_cases hlt : i + 1 < rdn σ f
        · refine ⟨pa σ f i, ?_, ?_⟩
          · unfold f11_pace
            rw [e_fAt h hf, zc1_s, zoc_s, H.1, zlt_s, zoc_s, if_neg hn, zlt_s, zoc_s, H.2.1, if_pos (by rw [i_lt, em, nI_ti hi31]; omega), zlt_s, zoc_s, e_paceAt hr hf H hlt, zc1_s]
          · unfold f12_pace
            rw [m_isF hr, zc1_s, zlt_s, if_neg (by rw [t01]; omega), m_hasFlag hr hf, zc1_s, e, if_neg (by decide), if_neg hn, zix_s hl (by decide), g1, if_neg (by rw [i_le, em, nI_ti hi31]; omega), m_paceOf hr hf hlt, zc1_s]
        · refine ⟨-2000000000, ?_, ?_⟩
          · unfold f11_pace
            rw [e_fAt h hf, zc1_s, zoc_s, H.1, zlt_s, zoc_s, if_neg hn, zlt_s, zoc_s, H.2.1, if_neg (by rw [i_lt, em, nI_ti hi31]; omega)]
          · unfold f12_pace
            rw [m_isF hr, zc1_s, zlt_s, if_neg (by rw [t01]; omega), m_hasFlag hr hf, zc1_s, e, if_neg (by decide), if_neg hn, zix_s hl (by decide), g1, if_pos (by rw [i_le, em, nI_ti hi31]; omega)]
    · refine ⟨-2000000000, ?_, ?_⟩
      · unfold f11_pace
        rw [e_fAt h hf, zc1_s, zoc_s, hg, zlt_s, zoc_n]
      · unfold f12_pace
        rw [m_isF hr, zc1_s, zlt_s, if_neg (by rw [t01]; omega), m_hasFlag hr hf, zc1_s, e, if_pos (by rfl)]
  · refine ⟨-2000000000, ?_, ?_⟩
    · unfold f11_pace
      rw [e_fAt_o h hv, zc1_s, zoc_n]
    · unfold f12_pace
      rw [m_isF hr, zc1_s, zlt_s, if_pos (by rw [t01]; exact hv)]
