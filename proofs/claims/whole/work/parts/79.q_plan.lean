/-! plans: numbers -/
def nsu (g : Nat → Nat) : Nat → Nat
  | 0 => 0
  | n + 1 => nsu g n + g n
theorem nsu_cg {g h : Nat → Nat} : ∀ n, (∀ i, i < n → g i = h i) → nsu g n = nsu h n
  | 0, _ => rfl
  | n + 1, e => by
    show nsu g n + g n = nsu h n + h n
    rw [nsu_cg n fun i hi => e i (by omega), e n (by omega)]
theorem nsu_le {g h : Nat → Nat} : ∀ n, (∀ i, i < n → g i ≤ h i) → nsu g n ≤ nsu h n
  | 0, _ => Nat.le_refl _
  | n + 1, e => Nat.add_le_add (nsu_le n fun i hi => e i (by omega)) (e n (by omega))
theorem nsu_eq {g h : Nat → Nat} : ∀ n, (∀ i, i < n → g i ≤ h i) → nsu g n = nsu h n → ∀ i, i < n → g i = h i
  | 0, _, _, i, hi => absurd hi (Nat.not_lt_zero _)
  | n + 1, e, q, i, hi => by
    have h1 := nsu_le n fun i hi => e i (by omega)
    have h2 := e n (by omega)
    have q : nsu g n + g n = nsu h n + h n := q
    by_cases c : i = n
    · rw [c]; omega
    · exact nsu_eq n (fun i hi => e i (by omega)) (by omega) i (by omega)
theorem nsu_plus (g h : Nat → Nat) : ∀ n, nsu (fun i => g i + h i) n = nsu g n + nsu h n
  | 0 => rfl
  | n + 1 => by
    show nsu (fun i => g i + h i) n + (g n + h n) = (nsu g n + g n) + (nsu h n + h n)
    rw [nsu_plus g h n]
    omega
theorem nsu_bd {g : Nat → Nat} {m : Nat} : ∀ n, (∀ i, i < n → g i ≤ m) → nsu g n ≤ m * n
  | 0, _ => Nat.zero_le _
  | n + 1, e => by
    have h1 := nsu_bd n fun i hi => e i (by omega)
    have h2 := e n (by omega)
    show nsu g n + g n ≤ m * (n + 1)
    rw [Nat.mul_succ]
    omega
section
variable (sv : Nat → Nat) (lt : Nat → Nat → Bool)
def cWt (i d : Nat) : Nat := if d = 14 then sv i else if lt i d = true then sv i else 0
def cLf (d : Nat) : Nat := if d = 14 then 1 else 0
def cSm (d : Nat) : Nat := if d = 14 then 0 else d
def cAb (q d : Nat) : Nat := if d = 14 then 0 else q + d
def dgt (i : Nat) : Nat := 15 ^ (6 - i)
def cst (i d : Nat) : Nat := cWt sv lt i d * 174960000000 + cLf d * 21870000000 + cSm d * 170859375 + d * dgt i
def qW (x : Nat → Nat) (n : Nat) : Nat := nsu (fun i => cWt sv lt i (x i)) n
def qL (x : Nat → Nat) (n : Nat) : Nat := nsu (fun i => cLf (x i)) n
def qS (x : Nat → Nat) (n : Nat) : Nat := nsu (fun i => cSm (x i)) n
def qA (q : Nat) (x : Nat → Nat) (n : Nat) : Nat := nsu (fun i => cAb q (x i)) n
def qG (x : Nat → Nat) (n : Nat) : Nat := nsu (fun i => x i * dgt i) n
def pck (x : Nat → Nat) (n : Nat) : Nat := nsu (fun i => cst sv lt i (x i)) n
theorem pck_eq (x : Nat → Nat) : ∀ n, pck sv lt x n = qW sv lt x n * 174960000000 + qL x n * 21870000000 + qS x n * 170859375 + qG x n
  | 0 => by
    show (0 : Nat) = 0 * 174960000000 + 0 * 21870000000 + 0 * 170859375 + 0
    omega
  | n + 1 => by
    have ih := pck_eq x n
    have e1 : pck sv lt x (n + 1) = pck sv lt x n + cst sv lt n (x n) := rfl
    have e2 : qW sv lt x (n + 1) = qW sv lt x n + cWt sv lt n (x n) := rfl
    have e3 : qL x (n + 1) = qL x n + cLf (x n) := rfl
    have e4 : qS x (n + 1) = qS x n + cSm (x n) := rfl
    have e5 : qG x (n + 1) = qG x n + x n * dgt n := rfl
    rw [e1, e2, e3, e4, e5, ih]
    unfold cst
    omega
theorem qA_eq (q : Nat) (x : Nat → Nat) : ∀ n, qA q x n + qL x n * q = qS x n + n * q
  | 0 => by
    show 0 + 0 * q = 0 + 0 * q
    rfl
  | n + 1 => by
    have ih := qA_eq q x n
    have e1 : qA q x (n + 1) = qA q x n + cAb q (x n) := rfl
    have e3 : qL x (n + 1) = qL x n + cLf (x n) := rfl
    have e4 : qS x (n + 1) = qS x n + cSm (x n) := rfl
    rw [e1, e3, e4, Nat.add_mul, Nat.add_mul, Nat.one_mul]
    unfold cAb cLf cSm
    by_cases c : x n = 14
    · rw [if_pos c, if_pos c, if_pos c, Nat.one_mul]
      omega
    · rw [if_neg c, if_neg c, if_neg c, Nat.zero_mul]
      omega
theorem qL_le (x : Nat → Nat) (n : Nat) : qL x n ≤ n := by
  have := nsu_bd (g := fun i => cLf (x i)) (m := 1) n (fun i _ => by
    show cLf (x i) ≤ 1
    unfold cLf
    split <;> omega)
  show nsu (fun i => cLf (x i)) n ≤ n
  omega
theorem qS_le {x : Nat → Nat} {n : Nat} (hx : ∀ i, i < n → x i ≤ 14) : qS x n ≤ 13 * n :=
  nsu_bd (g := fun i => cSm (x i)) (m := 13) n (fun i hi => by
    have := hx i hi
    show cSm (x i) ≤ 13
    unfold cSm
    split <;> omega)
theorem qA_le {q : Nat} {x : Nat → Nat} {n : Nat} (hq : q ≤ 9999) (hx : ∀ i, i < n → x i ≤ 14) : qA q x n ≤ 10012 * n :=
  nsu_bd (g := fun i => cAb q (x i)) (m := 10012) n (fun i hi => by
    have := hx i hi
    show cAb q (x i) ≤ 10012
    unfold cAb
    split <;> omega)
theorem cWt_le {i d : Nat} (h : sv i ≤ 9) : cWt sv lt i d ≤ 9 := by
  unfold cWt
  repeat' split
  all_goals omega
theorem qW_le {x : Nat → Nat} {n : Nat} (h : ∀ i, i < n → sv i ≤ 9) : qW sv lt x n ≤ 9 * n :=
  nsu_bd (g := fun i => cWt sv lt i (x i)) (m := 9) n (fun i hi => cWt_le sv lt (h i hi))
theorem dgt_s {i : Nat} (h : i < 6) : dgt i = 15 * dgt (i + 1) := by
  unfold dgt
  rw [show 6 - i = (6 - (i + 1)) + 1 by omega, Nat.pow_succ, Nat.mul_comm]
/-- the digits behind i are less than one at i - 1 -/
def dgp (i : Nat) : Nat := 15 ^ (7 - i)
theorem dgp_s {i : Nat} (h : i < 7) : dgp i = 15 * dgt i := by
  unfold dgp dgt
  rw [show 7 - i = (6 - i) + 1 by omega, Nat.pow_succ, Nat.mul_comm]
theorem dgp_s' {i : Nat} (h : i < 7) : dgp (i + 1) = dgt i := by
  unfold dgp dgt
  rw [show 7 - (i + 1) = 6 - i by omega]
theorem dgp_p (i : Nat) : 0 < dgp i := Nat.pow_pos (by decide)
theorem qG_tail {x : Nat → Nat} {i : Nat} : ∀ d, i + d ≤ 7 → (∀ k, k < i + d → x k ≤ 14) → qG x i ≤ qG x (i + d) ∧ qG x (i + d) + dgp (i + d) ≤ qG x i + dgp i
  | 0, _, _ => ⟨Nat.le_refl _, Nat.le_refl _⟩
  | d + 1, h, hx => by
    obtain ⟨h1, h2⟩ := qG_tail (x := x) (i := i) d (by omega) (fun k hk => hx k (by omega))
    have e : qG x (i + (d + 1)) = qG x (i + d) + x (i + d) * dgt (i + d) := rfl
    have h3 := dgp_s (i := i + d) (by omega)
    have h4 := dgp_s' (i := i + d) (by omega)
    have h5 := Nat.mul_le_mul_right (dgt (i + d)) (hx (i + d) (by omega))
    rw [show i + (d + 1) = i + d + 1 by omega] at e ⊢
    rw [e, h4]
    omega
theorem qG_lt {x : Nat → Nat} {n : Nat} (hn : n ≤ 7) (hx : ∀ k, k < n → x k ≤ 14) : qG x n < 170859375 := by
  obtain ⟨-, h2⟩ := qG_tail (x := x) (i := 0) n (by omega) (fun k hk => hx k (by omega))
  have h3 := dgp_p (0 + n)
  have e0 : qG x 0 = 0 := rfl
  have e1 : dgp 0 = 170859375 := by decide
  rw [Nat.zero_add] at h2 h3
  omega
/-- the order of prices is that of broken ones, left ones, days, digits -/
theorem pck_lt {x y : Nat → Nat} {n q : Nat} (hn : n ≤ 7) (hx : ∀ k, k < n → x k ≤ 14) (hy : ∀ k, k < n → y k ≤ 14) :
    (qW sv lt x n < qW sv lt y n → pck sv lt x n < pck sv lt y n) ∧ (qW sv lt x n = qW sv lt y n → qL x n < qL y n → pck sv lt x n < pck sv lt y n) ∧
    (qW sv lt x n = qW sv lt y n → qL x n = qL y n → qA q x n < qA q y n → pck sv lt x n < pck sv lt y n) ∧ (qW sv lt x n = qW sv lt y n → qL x n = qL y n → qA q x n = qA q y n → (pck sv lt x n < pck sv lt y n ↔ qG x n < qG y n)) := by
  have gx := qG_lt hn hx
  have gy := qG_lt hn hy
  have sx := qS_le hx
  have sy := qS_le hy
  have lx := qL_le x n
  have ly := qL_le y n
  have ax := qA_eq q x n
  have ay := qA_eq q y n
  rw [pck_eq, pck_eq]
  refine ⟨fun h => ?_, fun h1 h2 => ?_, fun h1 h2 h3 => ?_, fun h1 h2 h3 => ?_⟩
  · omega
  · omega
  · rw [h2] at ax
    omega
  · rw [h2] at ax
    have : qS x n = qS y n := by omega
    omega
end
section
variable (J D : Nat) (av : Nat → Nat → Bool) (tr mn sv : Nat → Nat) (lt : Nat → Nat → Bool)
/-- of the first n, so many of a trade on a day -/
def cdt (x : Nat → Nat) (d t n : Nat) : Nat := cnt (fun j => decide (x j = d) && decide (tr j = t)) 0 n
/-- a plan that may be -/
def Fea (x : Nat → Nat) : Prop := ∀ i, i < J → x i ≤ 14 ∧ (x i < 14 → x i < D ∧ av i (x i) = true ∧ cdt tr x (x i) (tr i) J ≤ mn (tr i))
theorem cdt_s (x : Nat → Nat) (d t n : Nat) : cdt tr x d t (n + 1) = cdt tr x d t n + (if x n = d ∧ tr n = t then 1 else 0) := by
  unfold cdt
  rw [cnt_end, Nat.zero_add]
  by_cases c : x n = d
  · rw [decide_eq_true c, Bool.true_and]
    by_cases c2 : tr n = t
    · rw [decide_eq_true c2, if_pos rfl, if_pos ⟨c, c2⟩]
    · rw [decide_eq_false c2, if_neg (by decide), if_neg (fun h => c2 h.2)]
  · rw [decide_eq_false c, Bool.false_and, if_neg (by decide), if_neg (fun h => c h.1)]
theorem cdt_mono (x : Nat → Nat) (d t : Nat) {n m : Nat} (h : n ≤ m) : cdt tr x d t n ≤ cdt tr x d t m := by
  obtain ⟨k, rfl⟩ : ∃ k, m = n + k := ⟨m - n, by omega⟩
  clear h
  induction k with
  | zero => exact Nat.le_refl _
  | succ k ih =>
    rw [show n + (k + 1) = n + k + 1 by omega, cdt_s]
    omega
theorem cdt_cg {x y : Nat → Nat} (d t : Nat) : ∀ n, (∀ j, j < n → x j = y j) → cdt tr x d t n = cdt tr y d t n
  | 0, _ => rfl
  | n + 1, h => by
    rw [cdt_s, cdt_s, cdt_cg d t n (fun j hj => h j (by omega)), h n (by omega)]
/-- a beginning that may be, step by step -/
def Inc (x : Nat → Nat) (i : Nat) : Prop := ∀ k, k < i → x k ≤ 14 ∧ (x k < 14 → x k < D ∧ av k (x k) = true ∧ cdt tr x (x k) (tr k) k < mn (tr k))
theorem Inc_Fea {x : Nat → Nat} (h : Inc D av tr mn x J) : Fea J D av tr mn x := by
  intro i hi
  obtain ⟨h1, h2⟩ := h i hi
  refine ⟨h1, fun hx => ?_⟩
  obtain ⟨h3, h4, h5⟩ := h2 hx
  refine ⟨h3, h4, ?_⟩
  have key : ∀ n, n ≤ J → ∀ t, cdt tr x (x i) t n ≤ mn t := by
    intro n
    induction n with
    | zero => intro _ t; exact Nat.zero_le _
    | succ n ih =>
      intro hn t
      rw [cdt_s]
      have h6 := ih (by omega) t
      by_cases c : x n = x i ∧ tr n = t
      · rw [if_pos c]
        have h7 := (h n (by omega)).2 (by omega)
        rw [c.1, c.2] at h7
        omega
      · rw [if_neg c]
        exact h6
  exact key J (Nat.le_refl _) _
theorem Fea_Inc {x : Nat → Nat} (h : Fea J D av tr mn x) : Inc D av tr mn x J := by
  intro k hk
  obtain ⟨h1, h2⟩ := h k hk
  refine ⟨h1, fun hx => ?_⟩
  obtain ⟨h3, h4, h5⟩ := h2 hx
  refine ⟨h3, h4, ?_⟩
  have h6 := cdt_s tr x (x k) (tr k) k
  rw [if_pos ⟨rfl, rfl⟩] at h6
  have h7 := cdt_mono tr x (x k) (tr k) (show k + 1 ≤ J by omega)
  omega
/-- the first day of a job -/
def mbe (i d : Nat) : Bool := av i d && decide (0 < mn (tr i))
def fdd (i : Nat) : Nat := (zfirst (mbe av tr mn i) 0 D).getD 14
theorem fdd_p {i d : Nat} (hd : d < D) (h : mbe av tr mn i d = true) : fdd D av tr mn i ≤ d ∧ fdd D av tr mn i < D := by
  unfold fdd
  cases e : zfirst (mbe av tr mn i) 0 D with
  | none =>
    have := zfirst_none _ _ e d (by omega) (by omega)
    rw [h] at this
    cases this
  | some j =>
    obtain ⟨h1, h2, h3, h4⟩ := zfirst_some _ _ _ e
    show j ≤ d ∧ j < D
    refine ⟨Nat.le_of_not_lt fun hh => ?_, by omega⟩
    have := h4 d (by omega) hh
    rw [h] at this
    cases this
theorem fdd_le (hD : D ≤ 14) (i : Nat) : fdd D av tr mn i ≤ 14 := by
  unfold fdd
  cases e : zfirst (mbe av tr mn i) 0 D with
  | none => exact Nat.le_refl _
  | some j =>
    have := (zfirst_some _ _ _ e).2.1
    show j ≤ 14
    omega
/-- a plan's beginning, the first days behind it -/
def rlx (x : Nat → Nat) (i : Nat) (k : Nat) : Nat := if k < i then x k else fdd D av tr mn k
theorem rlx_lo {x y : Nat → Nat} {i q : Nat} (hD : D ≤ 14) (hlt : ∀ k d d', d ≤ d' → d' ≤ 14 → lt k d = true → lt k d' = true) (hy : Fea J D av tr mn y) (hxy : ∀ k, k < i → y k = x k) : qW sv lt (rlx D av tr mn x i) J ≤ qW sv lt y J ∧ qL (rlx D av tr mn x i) J ≤ qL y J ∧ (qL (rlx D av tr mn x i) J = qL y J → qA q (rlx D av tr mn x i) J ≤ qA q y J) := by
  have at1 : ∀ k, k < J → y k < 14 → fdd D av tr mn k ≤ y k ∧ fdd D av tr mn k < D := fun k hk h14 => by
    obtain ⟨h3, h4, h5⟩ := (Fea_Inc J D av tr mn hy k hk).2 h14
    refine fdd_p D av tr mn h3 ?_
    unfold mbe
    rw [h4, decide_eq_true (show 0 < mn (tr k) by omega)]
    rfl
  have tL : ∀ k, k < J → cLf (rlx D av tr mn x i k) ≤ cLf (y k) := fun k hk => by
    unfold rlx
    by_cases c : k < i
    · rw [if_pos c, hxy k c]; exact Nat.le_refl _
    · rw [if_neg c]
      have h14 := (hy k hk).1
      unfold cLf
      by_cases c2 : y k = 14
      · rw [if_pos c2]; split <;> omega
      · obtain ⟨a1, a2⟩ := at1 k hk (by omega)
        rw [if_neg c2, if_neg (by omega)]
        exact Nat.le_refl _
  refine ⟨nsu_le J fun k hk => ?_, nsu_le J tL, fun he => ?_⟩
  · show cWt sv lt k (rlx D av tr mn x i k) ≤ cWt sv lt k (y k)
    unfold rlx
    by_cases c : k < i
    · rw [if_pos c, hxy k c]; exact Nat.le_refl _
    · rw [if_neg c]
      have h14 := (hy k hk).1
      unfold cWt
      by_cases c2 : y k = 14
      · rw [if_pos c2]
        repeat' split
        all_goals omega
      · obtain ⟨a1, a2⟩ := at1 k hk (by omega)
        rw [if_neg c2, if_neg (by omega)]
        by_cases c3 : lt k (fdd D av tr mn k) = true
        · rw [if_pos c3, if_pos (hlt k _ _ a1 h14 c3)]; exact Nat.le_refl _
        · rw [if_neg c3]; exact Nat.zero_le _
  · have te := nsu_eq J tL he
    refine nsu_le J fun k hk => ?_
    have te := te k hk
    show cAb q (rlx D av tr mn x i k) ≤ cAb q (y k)
    unfold rlx at te ⊢
    by_cases c : k < i
    · rw [if_pos c, hxy k c]; exact Nat.le_refl _
    · rw [if_neg c] at te ⊢
      have h14 := (hy k hk).1
      unfold cLf at te
      unfold cAb
      by_cases c2 : y k = 14
      · rw [if_pos c2] at te ⊢
        by_cases c3 : fdd D av tr mn k = 14
        · rw [if_pos c3]; exact Nat.le_refl _
        · rw [if_neg c3] at te; cases te
      · obtain ⟨a1, a2⟩ := at1 k hk (by omega)
        rw [if_neg c2, if_neg (by omega)]
        omega
end
