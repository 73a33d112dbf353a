theorem sub1' (n : Nat) (h : 1 ≤ n ∧ n < 2 ^ 31) : nI n - 1 = nI (n - 1) := by
  obtain ⟨m, rfl⟩ : ∃ m, n = m + 1 := ⟨n - 1, by omega⟩
  exact sub1 m h.2
theorem e_now {s : zSt} {f n : Nat} (h : gI s 4 f 3 = nI n) (hn : 1 ≤ n ∧ n ≤ 30) : f4_now f s = some (gI s 501 f (n - 1)) := by
  unfold f4_now
  rw [h, if_neg (by show ¬ nI n = nI 0; rw [nI_inj (by omega) (by decide)]; omega), sub1' n (by omega), zix_s (by omega) (by decide)]
theorem m_stateNow {s : zSt} {f n : Nat} (hf : f < 200) (h : gI s 1329 0 f = nI n) (hn : 1 ≤ n ∧ n ≤ 30) : f12_stateNow (nI f) s = some (gI s 1326 0 (30 * f + (n - 1))) := by
  unfold f12_stateNow
  rw [zix_s hf (by decide), h, nI_row30 f n (by omega), sub1' _ (by omega), show 30 * f + n - 1 = 30 * f + (n - 1) by omega, zix_s (by omega) (by decide)]
theorem e_isWaiting {s : zSt} {f n : Nat} (h : gI s 4 f 3 = nI n) (hn : 1 ≤ n ∧ n ≤ 30) : f1_isWaiting f s = some (if gI s 501 f (n - 1) = 0 ∨ gI s 501 f (n - 1) = 1 then 1 else 0) := by
  unfold f1_isWaiting
  rw [e_now h hn, zc1_s, zlt_s, zc1_s]
  by_cases h0 : gI s 501 f (n - 1) = 0
  · rw [if_pos h0, if_pos (Or.inl h0)]
  · rw [if_neg h0]
    by_cases h1 : gI s 501 f (n - 1) = 1
    · rw [if_pos h1, if_pos (Or.inr h1)]
    · rw [if_neg h1, if_neg (by rintro (h | h) <;> contradiction)]
theorem m_isOpen {s : zSt} {f n : Nat} (hf : f < 200) (h : gI s 1329 0 f = nI n) (hn : 1 ≤ n ∧ n ≤ 30) : f12_isOpen (nI f) s = some (if gI s 1326 0 (30 * f + (n - 1)) = 0 ∨ gI s 1326 0 (30 * f + (n - 1)) = 1 then 1 else 0) := by
  unfold f12_isOpen
  rw [m_stateNow hf h hn, zc1_s, zlt_s, zc1_s]
  by_cases h0 : gI s 1326 0 (30 * f + (n - 1)) = 0
  · rw [if_pos h0, if_pos (Or.inl h0)]
  · rw [if_neg h0]
    by_cases h1 : gI s 1326 0 (30 * f + (n - 1)) = 1
    · rw [if_pos h1, if_pos (Or.inr h1)]
    · rw [if_neg h1, if_neg (by rintro (h | h) <;> contradiction)]
theorem e_isFull {s : zSt} {f n : Nat} (h : gI s 4 f 3 = nI n) (hn : 1 ≤ n ∧ n ≤ 30) : f4_isFull f s = some (if n = 30 then 1 else 0) := by
  unfold f4_isFull
  rw [h]
  by_cases e : n = 30
  · rw [if_pos e, e, if_neg (show ¬ nI 30 < 30 by decide)]
  · rw [if_neg e, if_pos (by rw [i_lt, nI_ti (by omega)]; simp only [Int32.reduceToInt]; omega)]
/-- a state more, on both sides -/
def adC (s : zSt) (f n : Nat) (t q w : Int32) : zSt := pI (pI (pI (pI s 501 f n t) 500 f n q) 502 f n w) 4 f 3 (nI (n + 1))
def adM (s : zSt) (f n : Nat) (t w : Int32) : zSt := pI (pI (pI (pI s 1326 0 (30 * f + n) t) 1327 0 (30 * f + n) (gI s 12 0 0)) 1328 0 (30 * f + n) w) 1329 0 f (nI (n + 1))
theorem e_add {s : zSt} {f n : Nat} (h : gI s 4 f 3 = nI n) (hn : n < 30) (t q w : Int32) : f4_add f t q w s = some ((), adC s f n t q w) := by
  have e : ∀ (a c : Nat) (x : Int32) (u : zSt), a ≠ 4 → gI (pI u a f c x) 4 = gI u 4 := fun a c x u h => gI_ne (Ne.symm h)
  unfold f4_add
  rw [h, if_neg (by rw [i_le, nI_ti (by omega)]; simp only [Int32.reduceToInt]; omega), zix_s hn (by decide), zlt_s, e 501 _ _ _ (by decide), h, zix_s hn (by decide), zlt_s, e 500 _ _ _ (by decide), e 501 _ _ _ (by decide), h, zix_s hn (by decide), zlt_s, e 502 _ _ _ (by decide), e 500 _ _ _ (by decide), e 501 _ _ _ (by decide), h, nI_suc n (by omega), zlt_s]
  rfl
theorem m_become {s : zSt} {f n : Nat} (hf : f < 200) (h : gI s 1329 0 f = nI n) (hn : n < 30) (t w : Int32) : f12_become (nI f) t w s = some ((), adM s f n t w) := by
  have e : ∀ (a c : Nat) (x : Int32) (u : zSt), a ≠ 12 → gI (pI u a 0 c x) 12 = gI u 12 := fun a c x u h => gI_ne (Ne.symm h)
  have e2 : ∀ (a c : Nat) (x : Int32) (u : zSt), a ≠ 1329 → gI (pI u a 0 c x) 1329 = gI u 1329 := fun a c x u h => gI_ne (Ne.symm h)
  unfold f12_become
  rw [zix_s hf (by decide), h, nI_row30 f n (by omega), zlt_s, zix_s (by omega) (by decide), zlt_s, zix_s (by omega) (by decide), e 1326 _ _ _ (by decide), zlt_s, zix_s (by omega) (by decide), zlt_s, zix_s hf (by decide), zix_s hf (by decide), e2 1328 _ _ _ (by decide), e2 1327 _ _ _ (by decide), e2 1326 _ _ _ (by decide), h, nI_suc n (by omega), zlt_s]
  rfl
/-- what stands of a promise on a day -/
def zpr (p d q : Int32) : Int32 := if p = 1 then (if q ≤ d then p else 3) else p
theorem e_promiseOn (s : zSt) (f : Nat) (q : Int32) : f1_promiseOn f q s = some (zpr (gI s 1 f 13) (gI s 1 f 12) q) := by
  unfold f1_promiseOn zpr
  rw [zlt_s]
  repeat' split
  all_goals rfl
theorem m_promiseNow {s : zSt} {f : Nat} (hf : f < 200) : f12_promiseNow (nI f) s = some (zpr (gI s 1330 0 f) (gI s 1331 0 f) (gI s 12 0 0)) := by
  unfold f12_promiseNow zpr
  rw [zix_s hf (by decide), zlt_s, zix_s hf (by decide), zix_s hf (by decide)]
  repeat' split
  all_goals rfl
