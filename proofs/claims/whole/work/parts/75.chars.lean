/-! characters; the class's look at texts -/
theorem e_isDigit (c : Int32) (σ : zSt) : f11_isDigit c σ = some (b01 (dig c)) := by
  unfold f11_isDigit dig
  simp only [zlt_s, i_lt, Int32.reduceToInt]
  by_cases h : c.toInt < 48
  · rw [if_pos h, decide_eq_false (by omega)]; rfl
  · rw [if_neg h]
    by_cases h2 : 57 < c.toInt
    · rw [if_pos h2, decide_eq_false (by omega)]; rfl
    · rw [if_neg h2, decide_eq_true (by omega)]; rfl
theorem zi2c_k : ∀ m : Nat, m < 256 → zi2c (nI m) = nI m := by decide +kernel
theorem zi2c_b {c : Int32} (h : btw 0 c 255) : zi2c c = c := by
  have h1 : 0 ≤ c.toInt := h.1
  have h2 : c.toInt ≤ 255 := h.2
  have e := i_ofNat h1
  rw [e]
  exact zi2c_k _ (by omega)
theorem nn0 {j : Nat} (h : j < 2 ^ 31) : ¬ nI j < 0 := by
  rw [i_lt, nI_ti h]
  simp only [Int32.reduceToInt]
  omega
theorem zidx_or (c : Int32) : ∀ (l : List Int32) (n : Nat), (c ∈ l → ∃ j, j < l.length ∧ zidx l c n = nI (n + j)) ∧ (c ∉ l → zidx l c n = -1)
  | [], n => ⟨fun h => (by cases h), fun _ => rfl⟩
  | a :: l, n => by
    obtain ⟨h1, h2⟩ := zidx_or c l (n + 1)
    have e : zidx (a :: l) c n = if a = c then nI n else zidx l c (n + 1) := rfl
    rw [e]
    by_cases ha : a = c
    · rw [if_pos ha]
      refine ⟨fun _ => ⟨0, Nat.zero_lt_succ _, rfl⟩, fun h => absurd (by rw [ha]; exact List.mem_cons_self) h⟩
    · rw [if_neg ha]
      refine ⟨fun h => ?_, fun h => h2 fun h' => h (List.mem_cons_of_mem _ h')⟩
      obtain ⟨j, hj, ej⟩ := h1 (by
        cases h with
        | head => exact absurd rfl ha
        | tail _ h => exact h)
      exact ⟨j + 1, Nat.succ_lt_succ hj, by rw [ej, Nat.add_assoc, Nat.add_comm 1 j]⟩
theorem e_idx {k : Nat} {c : Int32} (h : btw 0 c 255) (σ : zSt) : fJ0_indexOf_0f7a4 k (zi2c c) σ = some (zidx (zsbyt.getD k []) c 0) := by
  have h1 : 0 ≤ c.toInt := h.1
  have h2 : c.toInt ≤ 255 := h.2
  unfold fJ0_indexOf_0f7a4
  rw [zi2c_b h, if_neg (by rw [i_lt, i_lt]; simp only [Int32.reduceToInt]; omega)]
/-- where c stands in the k-th list -/
theorem zx_or {k : Nat} (hk : k < 5) (c : Int32) : (zch k c = true ∧ ∃ j, j < (zsbyt.getD k []).length ∧ j < 9 ∧ zidx (zsbyt.getD k []) c 0 = nI j) ∨ (zch k c = false ∧ zidx (zsbyt.getD k []) c 0 = -1) := by
  obtain ⟨h1, h2⟩ := zidx_or c (zsbyt.getD k []) 0
  have hl : ∀ k, k < 5 → (zsbyt.getD k []).length ≤ 9 := by decide +kernel
  have hl := hl k hk
  unfold zch
  by_cases m : c ∈ zsbyt.getD k []
  · obtain ⟨j, hj, e⟩ := h1 m
    rw [Nat.zero_add] at e
    exact Or.inl ⟨decide_eq_true m, j, hj, by omega, e⟩
  · exact Or.inr ⟨decide_eq_false m, h2 m⟩
theorem zx_if {k : Nat} (hk : k < 5) (c : Int32) {α : Type} (x y : α) : (if zidx (zsbyt.getD k []) c 0 < 0 then x else y) = if zch k c = true then y else x := by
  rcases zx_or hk c with ⟨e, j, _, hj, e2⟩ | ⟨e, e2⟩
  · rw [e, e2, if_neg (nn0 (by omega)), if_pos rfl]
  · rw [e, e2, if_pos (by decide), if_neg (by decide)]
theorem ite_b01 (a : Bool) : (if a = true then some (1 : Int32) else some 0) = some (b01 a) := by cases a <;> rfl
theorem e_isName {c : Int32} (h : btw 0 c 255) (σ : zSt) : f2_isName c σ = some (b01 (zch 3 c)) := by
  unfold f2_isName
  rw [e_idx h, zc1_s, zx_if (by decide), ite_b01]
theorem e_isSign {c : Int32} (h : btw 0 c 255) (σ : zSt) : f2_isSign c σ = some (b01 (zch 4 c)) := by
  unfold f2_isSign
  rw [e_idx h, zc1_s, zx_if (by decide), ite_b01]
theorem e_nextIf {k : Nat} (hk : k < 5) {c : Int32} (h : btw 0 c 255) (v : Int32) (σ : zSt) : f6_nextPhaseIf k c v σ = some (if zch k c = true then v else 7) := by
  unfold f6_nextPhaseIf z5
  rw [if_pos hk, e_idx h, zc1_s, zx_if hk, ite_some]
theorem nI_if {P : Prop} [Decidable P] (a b : Nat) : (if P then nI a else nI b) = nI (if P then a else b) := by split <;> rfl
theorem e_nextPhase {ph : Nat} (hp : ph ≤ 6) {c : Int32} (h : btw 0 c 255) (σ : zSt) : f6_nextPhase (nI ph) c σ = some (nI (wnx ph c)) := by
  have D : ∀ (a b : Nat), (if b01 (dig c) = 0 then some (nI a) else some (nI b)) = some (nI (if dig c = true then b else a)) := fun a b => by
    cases dig c <;> rfl
  unfold f6_nextPhase wnx
  simp only [e_nextIf (show 0 < 5 by decide) h, e_nextIf (show 1 < 5 by decide) h, e_nextIf (show 2 < 5 by decide) h, e_isDigit, zc1_s]
  have hc : ph = 0 ∨ ph = 1 ∨ ph = 2 ∨ ph = 3 ∨ ph = 4 ∨ ph = 5 ∨ ph = 6 := by omega
  rcases hc with rfl | rfl | rfl | rfl | rfl | rfl | rfl
  · rw [if_pos (show nI 0 = 0 from rfl), if_pos rfl]
    by_cases c1 : c = 62
    · rw [if_pos c1, if_pos c1]; rfl
    · rw [if_neg c1, if_neg c1]
      cases zch 0 c <;> rfl
  · cases zch 0 c <;> rfl
  · cases zch 1 c <;> rfl
  · cases dig c <;> rfl
  · show (if c = 38 then some (1 : Int32) else if c = 62 then some 5 else _) = some (nI (if c = 38 then 1 else if c = 62 then 5 else if dig c = true then 4 else 7))
    by_cases c1 : c = 38
    · rw [if_pos c1, if_pos c1]; rfl
    · rw [if_neg c1, if_neg c1]
      by_cases c2 : c = 62
      · rw [if_pos c2, if_pos c2]; rfl
      · rw [if_neg c2, if_neg c2]
        cases dig c <;> rfl
  · cases zch 2 c <;> rfl
  · show (if c = 59 then some (0 : Int32) else _) = some (nI (if c = 59 then 0 else if dig c = true then 6 else 7))
    by_cases c1 : c = 59
    · rw [if_pos c1, if_pos c1]; rfl
    · rw [if_neg c1, if_neg c1]
      cases dig c <;> rfl
theorem wnx_le (ph : Nat) (c : Int32) : wnx ph c ≤ 7 := by
  unfold wnx
  repeat' split
  all_goals omega
def ofo (r : Option Nat) : Int32 := match r with
  | none => -1
  | some p => nI p
theorem ite3 {α : Type} {A B C : Prop} [Decidable A] [Decidable B] [Decidable C] (h : A ∨ B ∨ C) (J X : α) : (if A then J else if B then J else if C then J else X) = J := by
  by_cases a : A
  · rw [if_pos a]
  · rw [if_neg a]
    by_cases b : B
    · rw [if_pos b]
    · rw [if_neg b, if_pos (by rcases h with h | h | h; exact absurd h a; exact absurd h b; exact h)]
theorem ite2 {α : Type} {A B : Prop} [Decidable A] [Decidable B] (h : ¬ (A ∧ ¬ B)) (J X : α) : (if A then (if B then J else X) else J) = J := by
  by_cases a : A
  · rw [if_pos a, if_pos (Classical.byContradiction fun b => h ⟨a, b⟩)]
  · rw [if_neg a]
theorem ite5 {α : Type} {A B : Prop} [Decidable A] [Decidable B] (h : ¬ (A ∧ B)) (J X : α) : (if A then (if B then X else J) else J) = J := by
  by_cases a : A
  · rw [if_pos a, if_neg fun b => h ⟨a, b⟩]
  · rw [if_neg a]
theorem frR_le {b : Nat → Int32} : ∀ d i o dg w t p, frR b d i o dg w t = some p → i ≤ p ∧ p ≤ i + d
  | 0, i, o, dg, w, t, p, h => by
    rw [frR] at h
    split at h
    · cases h; omega
    · cases h
  | d + 1, i, o, dg, w, t, p, h => by
    have ih := frR_le (b := b) d (i + 1)
    rw [frR] at h
    repeat' split at h
    all_goals first | (have := ih _ _ _ _ _ h; omega) | (cases h; omega)
theorem l_frR {σ : zSt} {h0 n : Nat} (hn : n ≤ 160) {b : Nat → Int32} (hb : ∀ j, j < n → gI σ 1210 h0 j = b j ∧ btw 0 (b j) 255) (K : Int32 → Int32 → Option Int32) (hK : ∀ o w, o ≤ 6 → K (nI o) (b01 w) = some (if w = true ∨ 0 < o then nI n else -1)) : ∀ d i o dg w t m, i + d = n → d < m → o ≤ 6 → dg ≤ 5 → f2_faultIn_L13 h0 (nI n) σ K m (nI o) (nI dg) (b01 w) (b01 t) (nI i) = some (ofo (frR b d i o dg w t)) := by
  intro d
  induction d with
  | zero =>
    intro i o dg w t m hi hm ho hg
    obtain ⟨m, rfl⟩ : ∃ q, m = q + 1 := ⟨m - 1, by omega⟩
    obtain rfl : i = n := by omega
    rw [f2_faultIn_L13, if_pos (zn_rle _), hK o w ho, frR]
    by_cases c : w = true ∨ 0 < o
    · rw [if_pos c, if_pos c]; rfl
    · rw [if_neg c, if_neg c]; rfl
  | succ d ih =>
    intro i o dg w t m hi hm ho hg
    obtain ⟨m, rfl⟩ : ∃ q, m = q + 1 := ⟨m - 1, by omega⟩
    have hin : i < n := by omega
    obtain ⟨b1, b2⟩ := hb i hin
    have o0 : (nI o ≤ 0) = (o = 0) := by
      rw [i_le, nI_ti (by omega)]
      simp only [Int32.reduceToInt]
      apply propext; omega
    have o0' : (nI o = 0) = (o = 0) := by
      show (nI o = nI 0) = _
      rw [nI_inj (by omega) (by omega)]
    have o6 : ((6 : Int32) ≤ nI o) = (6 ≤ o) := by
      rw [i_le, nI_ti (by omega)]
      simp only [Int32.reduceToInt]
      apply propext; omega
    have g0 : (nI dg ≤ 0) = (dg = 0) := by
      rw [i_le, nI_ti (by omega)]
      simp only [Int32.reduceToInt]
      apply propext; omega
    have g5 : ((5 : Int32) ≤ nI dg) = (5 ≤ dg) := by
      rw [i_le, nI_ti (by omega)]
      simp only [Int32.reduceToInt]
      apply propext; omega
    rw [f2_faultIn_L13, if_neg (zn_nle hin (by omega)), if_neg (zn_nle (show i < 160 by omega) (by omega)), zix_s (show i < 160 by omega) (by decide), b1, frR]
    simp only [zlt_s, zc1_s, e_isDigit, e_isName b2, e_isSign b2, nI_suc i (show i + 1 < 2 ^ 31 by omega), o0, o0', o6, g0, g5]
    cases w
    · rw [if_pos (show b01 false = 0 from rfl), if_neg (show ¬ false = true by decide)]
      by_cases q1 : dig (b i) = true ∧ 0 < dg ∧ dg < 5
      · rw [if_pos q1, if_neg (show ¬ b01 (dig (b i)) = 0 by rw [q1.1]; decide), if_neg (by omega), if_neg (by omega), nI_suc dg (by omega), ih (i + 1) o (dg + 1) false t m (by omega) (by omega) ho (by omega)]
      · rw [if_neg q1, ite3 (show b01 (dig (b i)) = 0 ∨ dg = 0 ∨ 5 ≤ dg by
          cases e : dig (b i)
          · exact Or.inl rfl
          · rw [e] at q1
            have : ¬ (0 < dg ∧ dg < 5) := fun h => q1 ⟨rfl, h⟩
            omega)]
        by_cases q2 : b i = 41 ∧ 0 < o
        · rw [if_pos q2, if_pos q2.1, if_neg (by omega), show nI o + -1 = nI (o - 1) by rw [nm1]; exact sub1' o (by omega)]
          exact ih (i + 1) (o - 1) 0 false t m (by omega) (by omega) (by omega) (by omega)
        · rw [if_neg q2, ite2 (show ¬ (b i = 41 ∧ ¬ o = 0) by intro h; exact q2 ⟨h.1, by omega⟩)]
          by_cases q3 : zch 4 (b i) = true ∨ (o = 0 ∧ (b i = 59 ∨ (b i = 58 ∧ t = false)))
          · have X : (if b i = 58 then (1 : Int32) else if b01 t = 0 then 0 else if b i = 59 then 0 else 1) = b01 (decide (b i = 58) || (t && !decide (b i = 59))) := by
              by_cases h8 : b i = 58
              · rw [if_pos h8, decide_eq_true h8]; rfl
              · rw [if_neg h8, decide_eq_false h8]
                cases t
                · rfl
                · rw [if_neg (show ¬ b01 true = 0 by decide)]
                  by_cases h9 : b i = 59
                  · rw [if_pos h9, decide_eq_true h9]; rfl
                  · rw [if_neg h9, decide_eq_false h9]; rfl
            have Z : f2_faultIn_L13 h0 (nI n) σ K m (nI o) (nI dg) 1 (b01 (decide (b i = 58) || (t && !decide (b i = 59)))) (nI (i + 1)) = _ := ih (i + 1) o dg true (decide (b i = 58) || (t && !decide (b i = 59))) m (by omega) (by omega) ho hg
            rw [if_pos q3, X, Z]
            rcases q3 with q3 | ⟨q3, q4⟩
            · rw [if_neg (show ¬ b01 (zch 4 (b i)) = 0 by rw [q3]; decide)]
            · rw [if_pos q3]
              rcases q4 with q4 | ⟨q4, q5⟩
              · rw [if_pos q4, ite_self]
              · rw [if_pos q4, q5, if_pos (show b01 false = 0 from rfl), ite_self, ite_self]
          · rw [if_neg q3, if_pos (show b01 (zch 4 (b i)) = 0 by
              cases e : zch 4 (b i)
              · rfl
              · exact absurd (Or.inl e) q3)]
            by_cases ho0 : o = 0
            · rw [if_pos ho0, if_neg (fun h => q3 (Or.inr ⟨ho0, Or.inl h⟩))]
              by_cases h8 : b i = 58
              · rw [if_pos h8, if_neg (show ¬ b01 t = 0 by
                  cases t
                  · exact absurd (Or.inr ⟨ho0, Or.inr ⟨h8, rfl⟩⟩) q3
                  · decide)]
                rfl
              · rw [if_neg h8]; rfl
            · rw [if_neg ho0]; rfl
    · rw [if_neg (show ¬ b01 true = 0 by decide), if_pos rfl]
      by_cases q1 : b i = 40 ∧ o < 6
      · rw [if_pos q1, if_pos q1.1, if_neg (by omega), nI_suc o (by omega), ih (i + 1) (o + 1) dg true t m (by omega) (by omega) (by omega) hg]
      · rw [if_neg q1, ite2 (show ¬ (b i = 40 ∧ ¬ 6 ≤ o) by intro h; exact q1 ⟨h.1, by omega⟩)]
        by_cases q2 : dig (b i) = true ∨ zch 3 (b i) = true
        · have Z : f2_faultIn_L13 h0 (nI n) σ K m (nI o) (nI (if dig (b i) = true then 1 else 0)) 0 (b01 t) (nI (i + 1)) = _ := ih (i + 1) o (if dig (b i) = true then 1 else 0) false t m (by omega) (by omega) ho (by split <;> omega)
          have X : (if b01 (dig (b i)) = 0 then (0 : Int32) else 1) = nI (if dig (b i) = true then 1 else 0) := by cases dig (b i) <;> rfl
          rw [if_pos q2, X, Z, ite5 (show ¬ (b01 (dig (b i)) = 0 ∧ b01 (zch 3 (b i)) = 0) by
            rw [b01_0, b01_0]
            rintro ⟨h1, h2⟩
            rw [h1, h2] at q2
            rcases q2 with q2 | q2 <;> cases q2)]
        · rw [if_neg q2, if_pos (show b01 (dig (b i)) = 0 by
            cases e : dig (b i)
            · rfl
            · exact absurd (Or.inl e) q2), if_pos (show b01 (zch 3 (b i)) = 0 by
            cases e : zch 3 (b i)
            · rfl
            · exact absurd (Or.inr e) q2)]
          rfl
theorem e_frR {σ : zSt} {h0 n : Nat} (hn : n ≤ 160) {b : Nat → Int32} (hb : ∀ j, j < n → gI σ 1210 h0 j = b j ∧ btw 0 (b j) 255) : f2_faultIn h0 (nI n) σ = some (ofo (frR b n 0 0 0 true false)) := by
  unfold f2_faultIn
  refine l_frR hn hb _ (fun o w ho => ?_) n 0 0 0 true false zfuel (by omega) (zfuel_pos (by omega)) (by omega) (by omega)
  simp only [zlt_s]
  cases w
  · rw [if_pos (show b01 false = 0 from rfl)]
    by_cases h : o = 0
    · rw [h, if_pos (show nI 0 ≤ 0 by decide), if_neg (by simp)]
    · rw [if_neg (show ¬ nI o ≤ 0 by rw [i_le, nI_ti (by omega)]; simp only [Int32.reduceToInt]; omega), if_pos (Or.inr (by omega))]
  · rw [if_neg (show ¬ b01 true = 0 by decide), if_pos (Or.inl rfl)]
theorem wrR_le {b : Nat → Int32} : ∀ d i ph dg p, wrR b d i ph dg = some p → i ≤ p ∧ p ≤ i + d
  | 0, i, ph, dg, p, h => by
    rw [wrR] at h
    split at h
    · cases h
    · cases h; omega
  | d + 1, i, ph, dg, p, h => by
    have ih := wrR_le (b := b) d (i + 1)
    rw [wrR] at h
    repeat' split at h
    all_goals first | (cases h; omega) | (have := ih _ _ _ h; omega)
theorem l_wrR {σ : zSt} {h0 n : Nat} (hn : n ≤ 160) {b : Nat → Int32} (hb : ∀ j, j < n → gI σ 1210 h0 j = b j ∧ btw 0 (b j) 255) (K : Int32 → Option Int32) (hK : ∀ ph, ph ≤ 6 → K (nI ph) = some (if 0 < n ∧ ph = 0 then -1 else nI n)) : ∀ d i ph dg m, i + d = n → d < m → ph ≤ 6 → dg ≤ 4 → f6_faultIn_L7 h0 (nI n) σ K m (nI ph) (nI dg) (nI i) = some (ofo (wrR b d i ph dg)) := by
  intro d
  induction d with
  | zero =>
    intro i ph dg m hi hm ho hg
    obtain ⟨m, rfl⟩ : ∃ q, m = q + 1 := ⟨m - 1, by omega⟩
    obtain rfl : i = n := by omega
    rw [f6_faultIn_L7, if_pos (zn_rle _), hK ph ho, wrR]
    split <;> rfl
  | succ d ih =>
    intro i ph dg m hi hm ho hg
    obtain ⟨m, rfl⟩ : ∃ q, m = q + 1 := ⟨m - 1, by omega⟩
    have hin : i < n := by omega
    obtain ⟨b1, b2⟩ := hb i hin
    have hw := wnx_le ph (b i)
    have g4 : (nI dg < 4) = (dg < 4) := by
      rw [i_lt, nI_ti (by omega)]
      simp only [Int32.reduceToInt]
      apply propext; omega
    rw [f6_faultIn_L7, if_neg (zn_nle hin (by omega)), if_neg (zn_nle (show i < 160 by omega) (by omega)), zix_s (show i < 160 by omega) (by decide), b1, e_isDigit, zc1_s, zix_s (show i < 160 by omega) (by decide), b1, e_nextPhase ho b2, zc1_s, wrR]
    simp only [zlt_s, nI_suc i (show i + 1 < 2 ^ 31 by omega), g4]
    have X : (if b01 (dig (b i)) = 0 then (0 : Int32) else nI dg + 1) = nI (if dig (b i) = true then dg + 1 else 0) := by
      rw [nI_suc dg (by omega)]
      cases dig (b i) <;> rfl
    rw [X]
    by_cases q1 : dig (b i) = true ∧ 4 ≤ dg
    · rw [if_pos q1, if_neg (show ¬ b01 (dig (b i)) = 0 by rw [q1.1]; decide), if_neg (by omega)]
      rfl
    · rw [if_neg q1]
      have Y : ∀ (J : Option Int32), (if b01 (dig (b i)) = 0 then J else if dg < 4 then J else some (nI i)) = J := fun J => by
        cases e : dig (b i)
        · rfl
        · rw [e] at q1
          rw [if_neg (show ¬ b01 true = 0 by decide), if_pos (Nat.lt_of_not_le fun h => q1 ⟨rfl, h⟩)]
      rw [Y]
      by_cases q2 : wnx ph (b i) = 7
      · rw [if_pos q2, q2, if_pos (show nI 7 = 7 from rfl)]
        rfl
      · rw [if_neg q2, if_neg (show ¬ nI (wnx ph (b i)) = 7 by show ¬ _ = nI 7; rw [nI_inj (by omega) (by omega)]; exact q2)]
        refine ih (i + 1) (wnx ph (b i)) _ m (by omega) (by omega) (by omega) ?_
        by_cases e : dig (b i) = true
        · rw [if_pos e]
          exact Nat.lt_of_not_le fun h => q1 ⟨e, h⟩
        · rw [if_neg e]
          omega
theorem e_wrR {σ : zSt} {h0 n : Nat} (hn : n ≤ 160) {b : Nat → Int32} (hb : ∀ j, j < n → gI σ 1210 h0 j = b j ∧ btw 0 (b j) 255) : f6_faultIn h0 (nI n) σ = some (ofo (wrR b n 0 0 0)) := by
  unfold f6_faultIn
  refine l_wrR hn hb _ (fun ph ho => ?_) n 0 0 0 zfuel (by omega) (zfuel_pos (by omega)) (by omega) (by omega)
  simp only [zlt_s]
  by_cases h : n = 0
  · rw [h, if_pos (show nI 0 ≤ 0 by decide), if_neg (by omega)]
  · rw [if_neg (show ¬ nI n ≤ 0 by rw [i_le, nI_ti (by omega)]; simp only [Int32.reduceToInt]; omega)]
    by_cases h2 : ph = 0
    · rw [h2, if_pos (show nI 0 = 0 from rfl), if_pos ⟨by omega, rfl⟩]
    · rw [if_neg (show ¬ nI ph = 0 by show ¬ _ = nI 0; rw [nI_inj (by omega) (by omega)]; exact h2), if_neg fun h => h2 h.2]
