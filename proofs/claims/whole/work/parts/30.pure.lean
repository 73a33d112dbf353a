/-! THE PURE PART: rows for the combinators and for loops -/
theorem zc1_s {α β : Type} (r : α) (k : α → Option β) : zc1 (some r) k = k r := rfl
theorem zc2_s {α β : Type} (r : α × zSt) (k : α → zSt → Option β) : zc2 (some r) k = k r.1 r.2 := rfl
theorem zlt_s {α β : Type} (x : α) (k : α → β) : zlt x k = k x := rfl
theorem zoc_s {β : Type} (i : Nat) (a : β) (k : Nat → β) : zoc (some i) a k = k i := rfl
theorem zoc_n {β : Type} (a : β) (k : Nat → β) : zoc none a k = a := rfl
theorem zix_s {β : Type} {i n : Nat} (h : i < n) (hn : n < 2 ^ 31) (k : Nat → Option β) : zix (nI i) n k = k i := by
  unfold zix
  rw [if_neg (nI_in h hn), nI_clamp (Nat.lt_trans h hn)]
theorem zix_e {β : Type} {x : Int32} {i n : Nat} (e : x = nI i) (h : i < n) (hn : n < 2 ^ 31) (k : Nat → Option β) : zix x n k = k i := by rw [e, zix_s h hn]
theorem zokc_s {β : Type} {σ : zSt} (h : zOK σ) (k : Option β) : zokc σ k = k := by unfold zokc; rw [if_pos h]
theorem zbo_0 {β : Type} (k : Option β) : zbo 0 k = k := rfl
theorem zbo_1 {β : Type} (k : Option β) : zbo 1 k = k := rfl
theorem zbo_ite {β : Type} {c : Prop} [Decidable c] (k : Option β) : zbo (if c then 1 else 0) k = k := by split <;> rfl
theorem zbo_ite' {β : Type} {c : Prop} [Decidable c] (k : Option β) : zbo (if c then 0 else 1) k = k := by split <;> rfl
theorem znar0 : vp_nar .boolean 0 = 0 := by decide +kernel
theorem znar1 : vp_nar .boolean 1 = 1 := by decide +kernel
theorem zfuel_pos {n : Nat} (h : n ≤ 10000) : n < zfuel := by unfold zfuel; omega
/-! Int32 by its integer value -/
theorem i_le (a b : Int32) : a ≤ b ↔ a.toInt ≤ b.toInt := Int32.le_iff_toInt_le
theorem i_lt (a b : Int32) : a < b ↔ a.toInt < b.toInt := Int32.lt_iff_toInt_lt
theorem i_eq (a b : Int32) : a = b ↔ a.toInt = b.toInt := ⟨fun h => by rw [h], Int32.toInt_inj.mp⟩
theorem i_rng (a : Int32) : -2147483648 ≤ a.toInt ∧ a.toInt ≤ 2147483647 := ⟨Int32.minValue_le_toInt a, Int32.toInt_le a⟩
theorem i_lit (n : Nat) (h : n < 2 ^ 31) : (nI n).toInt = n := nI_toInt h
theorem i_ofNat {x : Int32} (h : 0 ≤ x.toInt) : x = nI x.toInt.toNat := by
  rw [i_eq, nI_toInt (by have := (i_rng x).2; omega)]
  omega
/-! loops: a fold over 0 .. N-1 -/
def zfold {S : Type} (F : Nat → S → S) (s : S) : Nat → S
  | 0 => s
  | n + 1 => F n (zfold F s n)
/-- a loop that counts up with a state s -/
theorem zloop {S β : Type} (L : Nat → S → Nat → Option β) (K : S → Option β) (F : Nat → S → S) (N : Nat) (s0 : S) (hstep : ∀ n i, i < N → L (n + 1) (zfold F s0 i) i = L n (zfold F s0 (i + 1)) (i + 1)) (hstop : ∀ n, L (n + 1) (zfold F s0 N) N = K (zfold F s0 N)) (n : Nat) (hn : N < n) : L n s0 0 = K (zfold F s0 N) := by
  have key : ∀ d i n, i + d = N → d < n → L n (zfold F s0 i) i = K (zfold F s0 N) := by
    intro d
    induction d with
    | zero =>
      intro i n hi hd
      obtain rfl : i = N := by omega
      obtain ⟨m, rfl⟩ : ∃ m, n = m + 1 := ⟨n - 1, by omega⟩
      exact hstop m
    | succ d ih =>
      intro i n hi hd
      obtain ⟨m, rfl⟩ : ∃ m, n = m + 1 := ⟨n - 1, by omega⟩
      rw [hstep m i (by omega)]
      exact ih (i + 1) m (by omega) (by omega)
  exact key N 0 n (by omega) hn
/-- a loop that looks for the first place -/
def zfirst (p : Nat → Bool) (i : Nat) : Nat → Option Nat
  | 0 => none
  | d + 1 => if p i then some i else zfirst p (i + 1) d
theorem zloop1 {β : Type} (L : Nat → Nat → Option β) (K : Option β) (p : Nat → Bool) (R : Nat → Option β) (N : Nat) (hstep : ∀ n i, i < N → L (n + 1) i = if p i then R i else L n (i + 1)) (hstop : ∀ n, L (n + 1) N = K) : ∀ (d i n : Nat), i + d = N → d < n → L n i = match zfirst p i d with | some j => R j | none => K := by
  intro d
  induction d with
  | zero =>
    intro i n hi hd
    obtain rfl : i = N := by omega
    obtain ⟨m, rfl⟩ : ∃ m, n = m + 1 := ⟨n - 1, by omega⟩
    exact hstop m
  | succ d ih =>
    intro i n hi hd
    obtain ⟨m, rfl⟩ : ∃ m, n = m + 1 := ⟨n - 1, by omega⟩
    rw [hstep m i (by omega)]
    unfold zfirst
    by_cases h : p i = true
    · rw [if_pos h, if_pos h]
    · rw [if_neg h, if_neg h]
      exact ih (i + 1) m (by omega) (by omega)
theorem zfold_congr {S : Type} {F G : Nat → S → S} {s : S} : ∀ (N : Nat), (∀ i s, i < N → F i s = G i s) → zfold F s N = zfold G s N
  | 0, _ => rfl
  | n + 1, h => by
    show F n (zfold F s n) = G n (zfold G s n)
    rw [zfold_congr n fun i s hi => h i s (by omega), h n _ (by omega)]
/-! the simplest programs of both sides -/
theorem b2_and {c d : Prop} [Decidable c] [Decidable d] : (if c then (if d then (1 : Int32) else 0) else 0) = if c ∧ d then 1 else 0 := by
  by_cases h : c <;> by_cases h2 : d <;> simp [h, h2]
theorem t01 {P : Prop} [Decidable P] : ((if P then (1 : Int32) else 0) = 0) ↔ ¬ P := by
  by_cases h : P <;> simp [h]
theorem t01b {P : Prop} [Decidable P] : ((if P then (1 : Int32) else 0) = 1) ↔ P := by
  by_cases h : P <;> simp [h]
theorem e_isIn (a b : Int32) (σ : zSt) : f11_isIn a b σ = some (if 0 ≤ a.toInt ∧ a.toInt < b.toInt then 1 else 0) := by
  unfold f11_isIn
  simp only [zlt_s, i_lt, i_le, Int32.reduceToInt]
  repeat' split
  all_goals first | rfl | omega
theorem e_within (a b c : Int32) (σ : zSt) : f12_within a b c σ = some (if b.toInt ≤ a.toInt ∧ a.toInt ≤ c.toInt then 1 else 0) := by
  unfold f12_within
  simp only [zlt_s, i_lt, i_le]
  repeat' split
  all_goals first | rfl | omega
theorem e_isDay (a : Int32) (σ : zSt) : f11_isDay a σ = some (if 0 ≤ a.toInt ∧ a.toInt < 10000 then 1 else 0) := by
  unfold f11_isDay
  simp only [e_isIn, zc1_s, zbo_ite, Int32.reduceToInt]
theorem m_isDay (a : Int32) (σ : zSt) : f12_isDay a σ = some (if 0 ≤ a.toInt ∧ a.toInt < 10000 then 1 else 0) := by
  unfold f12_isDay
  simp only [e_within, zc1_s, zbo_ite, Int32.reduceToInt]
  by_cases h : 0 ≤ a.toInt ∧ a.toInt ≤ 9999
  · rw [if_pos h, if_pos (by omega)]
  · rw [if_neg h, if_neg (by omega)]
