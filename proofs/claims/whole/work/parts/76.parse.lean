/-! the reference's reader of freeings beside the class's look and the class's working out -/
theorem pI_c {σ : zSt} {t i k t' i' k' : Nat} {v w : Int32} (h : ¬ (t = t' ∧ i = i' ∧ k = k')) : pI (pI σ t i k v) t' i' k' w = pI (pI σ t' i' k' w) t i k v := by
  unfold pI
  congr 1
  funext a b c
  show zup (zup σ.1 t i k v) t' i' k' w a b c = zup (zup σ.1 t' i' k' w) t i k v a b c
  unfold zup
  by_cases h1 : a = t' ∧ b = i' ∧ c = k'
  · rw [if_pos h1, if_neg (fun h2 => h ⟨by omega, by omega, by omega⟩), if_pos h1]
  · rw [if_neg h1, if_neg h1]
def rdS (σ : zSt) (a F o : Int32) : zSt := pI (pI (pI σ 12 0 67 a) 12 0 69 F) 12 0 70 o
theorem rdS_67 {σ : zSt} {a F o : Int32} : gI (rdS σ a F o) 12 0 67 = a := by
  unfold rdS
  rw [gI_nk (by decide), gI_nk (by decide), gI_at]
theorem rdS_69 {σ : zSt} {a F o : Int32} : gI (rdS σ a F o) 12 0 69 = F := by
  unfold rdS
  rw [gI_nk (by decide), gI_at]
theorem rdS_70 {σ : zSt} {a F o : Int32} : gI (rdS σ a F o) 12 0 70 = o := by
  unfold rdS
  rw [gI_at]
theorem rdS_t {σ : zSt} {a F o : Int32} {t : Nat} (h : t ≠ 12) : gI (rdS σ a F o) t = gI σ t := by
  unfold rdS
  rw [gI_ne h, gI_ne h, gI_ne h]
theorem rdS_k {σ : zSt} {a F o : Int32} {k : Nat} (h : k ≠ 67 ∧ k ≠ 69 ∧ k ≠ 70) : gI (rdS σ a F o) 12 0 k = gI σ 12 0 k := by
  unfold rdS
  rw [gI_nk (fun e => h.2.2 e.2), gI_nk (fun e => h.2.1 e.2), gI_nk (fun e => h.1 e.2)]
theorem rdS_p67 {σ : zSt} {a F o x : Int32} : pI (rdS σ a F o) 12 0 67 x = rdS σ x F o := by
  unfold rdS
  rw [pI_c (k := 70) (k' := 67) (by decide), pI_c (k := 69) (k' := 67) (by decide), pI_pI]
theorem rdS_p69 {σ : zSt} {a F o x : Int32} : pI (rdS σ a F o) 12 0 69 x = rdS σ a x o := by
  unfold rdS
  rw [pI_c (k := 70) (k' := 69) (by decide), pI_pI]
theorem rdS_p70 {σ : zSt} {a F o x : Int32} : pI (rdS σ a F o) 12 0 70 x = rdS σ a F x := by
  unfold rdS
  rw [pI_pI]
theorem rdS_pk {σ : zSt} {a F o x : Int32} {k : Nat} (h : k ≠ 67 ∧ k ≠ 69 ∧ k ≠ 70) : pI (rdS σ a F o) 12 0 k x = rdS (pI σ 12 0 k x) a F o := by
  unfold rdS
  rw [pI_c (k := 70) (fun e => h.2.2 e.2.2.symm), pI_c (k := 69) (fun e => h.2.1 e.2.2.symm), pI_c (k := 67) (fun e => h.1 e.2.2.symm)]
/-- the bytes that are read -/
def RB (σ : zSt) (b : Nat → Int32) (n : Nat) : Prop := gI σ 12 0 68 = nI n ∧ n ≤ 160 ∧ (∀ j, j < n → btw 0 (b j) 255) ∧ ((gI σ 12 0 66 = -1 ∧ ∀ j, j < n → gI σ 1348 0 j = b j) ∨ ∃ B, B + 160 ≤ 3200 ∧ gI σ 12 0 66 = nI B ∧ ∀ j, j < n → gI σ 1350 0 (B + j) = b j)
def bt (b : Nat → Int32) (n a : Nat) : Int32 := if n ≤ a then 0 else b a
theorem bt_lt {b : Nat → Int32} {n a : Nat} (h : a < n) : bt b n a = b a := by unfold bt; rw [if_neg (by omega)]
theorem bt_ge {b : Nat → Int32} {n a : Nat} (h : n ≤ a) : bt b n a = 0 := by unfold bt; rw [if_pos h]
theorem m_byteAt {σ : zSt} {b : Nat → Int32} {n : Nat} (H : RB σ b n) {a : Nat} (ha : a ≤ 1000) (F o : Int32) : f12_byteAt (rdS σ (nI a) F o) = some (bt b n a) := by
  obtain ⟨h1, h2, h3, h4⟩ := H
  unfold f12_byteAt
  rw [rdS_67, rdS_k (k := 68) (by decide), rdS_k (k := 66) (by decide), rdS_t (t := 1350) (by decide), rdS_t (t := 1348) (by decide), h1]
  by_cases c : n ≤ a
  · rw [if_pos (show nI n ≤ nI a by rw [i_le, nI_ti (by omega), nI_ti (by omega)]; omega), bt_ge c]
  · rw [if_neg (show ¬ nI n ≤ nI a by rw [i_le, nI_ti (by omega), nI_ti (by omega)]; omega), bt_lt (by omega)]
    rcases h4 with ⟨h5, h6⟩ | ⟨B, h5, h6, h7⟩
    · rw [h5, if_neg (by decide), zix_s (show a < 160 by omega) (by decide), h6 a (by omega)]
    · rw [h6, if_pos (show (0 : Int32) ≤ nI B by rw [i_le, nI_ti (by omega)]; simp only [Int32.reduceToInt]; omega), nI_add' _ _ (by omega), zix_s (show B + a < 3200 by omega) (by decide), h7 a (by omega)]
theorem m_wrong {σ : zSt} {a o : Int32} : f12_wrong (rdS σ a (-1) o) = some (0, rdS σ a a o) := by
  unfold f12_wrong
  rw [rdS_69, rdS_67, if_neg (by decide), rdS_p69, zlt_s]
theorem bt_r {σ : zSt} {b : Nat → Int32} {n : Nat} (H : RB σ b n) (a : Nat) : btw 0 (bt b n a) 255 := by
  by_cases c : n ≤ a
  · rw [bt_ge c]
    exact ⟨by decide, by decide⟩
  · rw [bt_lt (by omega)]
    exact H.2.2.1 a (by omega)
/-- figures -/
def dct (b : Nat → Int32) (n : Nat) : Nat → Nat → Nat
  | 0, _ => 0
  | m + 1, a => if dig (bt b n a) = true then dct b n m (a + 1) + 1 else 0
def nvl (b : Nat → Int32) : Nat → Nat → Int32 → Int32
  | 0, _, v => v
  | k + 1, a, v => nvl b k (a + 1) (10 * v + b a - 48)
theorem dig_lt {b : Nat → Int32} {n a : Nat} (h : dig (bt b n a) = true) : a < n := by
  apply Nat.lt_of_not_le
  intro c
  rw [bt_ge c] at h
  exact absurd h (by decide)
theorem dct_p {b : Nat → Int32} {n : Nat} : ∀ m a, dct b n m a ≤ m ∧ (a ≤ n → a + dct b n m a ≤ n) ∧ (∀ j, j < dct b n m a → dig (bt b n (a + j)) = true) ∧ (dct b n m a < m → dig (bt b n (a + dct b n m a)) = false)
  | 0, a => ⟨Nat.le_refl _, fun h => h, fun j hj => by exact absurd hj (Nat.not_lt_zero j), fun h => absurd h (Nat.lt_irrefl _)⟩
  | m + 1, a => by
    obtain ⟨h1, h2, h3, h4⟩ := dct_p (b := b) (n := n) m (a + 1)
    have e : dct b n (m + 1) a = if dig (bt b n a) = true then dct b n m (a + 1) + 1 else 0 := rfl
    rw [e]
    by_cases c : dig (bt b n a) = true
    · rw [if_pos c]
      have := dig_lt c
      refine ⟨by omega, fun _ => by have := h2 (by omega); omega, fun j hj => ?_, fun h => ?_⟩
      · by_cases hj0 : j = 0
        · rw [hj0]; exact c
        · rw [show a + j = a + 1 + (j - 1) by omega]
          exact h3 (j - 1) (by omega)
      · rw [show a + (dct b n m (a + 1) + 1) = a + 1 + dct b n m (a + 1) by omega]
        exact h4 (by omega)
    · rw [if_neg c]
      refine ⟨by omega, fun h => h, fun j hj => by exact absurd hj (Nat.not_lt_zero j), fun _ => ?_⟩
      show dig (bt b n (a + 0)) = false
      rw [Nat.add_zero]
      cases e : dig (bt b n a)
      · rfl
      · exact absurd e c
theorem l_fig {σ : zSt} {b : Nat → Int32} {n : Nat} (H : RB σ b n) {most : Nat} (hmo : most ≤ 10) (F o : Int32) (K : Int32 → Int32 → zSt → Option (Int32 × zSt)) : ∀ mo c a v m, c + mo = most → a + mo ≤ 900 → mo < m → f12_figure_L4 (nI most) K m v (nI c) (rdS σ (nI a) F o) = K (nvl b (dct b n mo a) a v) (nI (c + dct b n mo a)) (rdS σ (nI (a + dct b n mo a)) F o) := by
  intro mo
  induction mo with
  | zero =>
    intro c a v m hc ha hm
    obtain ⟨m, rfl⟩ : ∃ q, m = q + 1 := ⟨m - 1, by omega⟩
    obtain rfl : c = most := by omega
    rw [f12_figure_L4, if_pos (zn_rle _)]
    rfl
  | succ mo ih =>
    intro c a v m hc ha hm
    obtain ⟨m, rfl⟩ : ∃ q, m = q + 1 := ⟨m - 1, by omega⟩
    have e : dct b n (mo + 1) a = if dig (bt b n a) = true then dct b n mo (a + 1) + 1 else 0 := rfl
    rw [f12_figure_L4, if_neg (zn_nle (show c < most by omega) (by omega)), m_byteAt H (by omega), zc1_s, zc1_s, zc1_s, rdS_67, nI_suc a (by omega), rdS_p67, nI_suc c (by omega), zlt_s, zlt_s, zlt_s, e]
    have hd : dig (bt b n a) = decide (48 ≤ (bt b n a).toInt ∧ (bt b n a).toInt ≤ 57) := rfl
    simp only [i_lt, Int32.reduceToInt]
    by_cases c1 : dig (bt b n a) = true
    · have c2 := c1
      rw [hd] at c2
      have c3 := of_decide_eq_true c2
      rw [if_pos c1, if_neg (by omega), if_neg (by omega), ih (c + 1) (a + 1) _ m (by omega) (by omega) (by omega), show c + 1 + dct b n mo (a + 1) = c + (dct b n mo (a + 1) + 1) by omega, show a + 1 + dct b n mo (a + 1) = a + (dct b n mo (a + 1) + 1) by omega, bt_lt (dig_lt c1)]
      rfl
    · rw [if_neg c1]
      have c3 : ¬ (48 ≤ (bt b n a).toInt ∧ (bt b n a).toInt ≤ 57) := fun h => c1 (by rw [hd]; exact decide_eq_true h)
      by_cases c4 : (bt b n a).toInt < 48
      · rw [if_pos c4]; rfl
      · rw [if_neg c4, if_pos (by omega)]; rfl
theorem m_figure {σ : zSt} {b : Nat → Int32} {n : Nat} (H : RB σ b n) {most : Nat} (hmo : most ≤ 10) {a : Nat} (ha : a ≤ 800) (o : Int32) : f12_figure (nI most) (rdS σ (nI a) (-1) o) = if dct b n most a = 0 then some (0, rdS σ (nI a) (nI a) o) else some (nvl b (dct b n most a) a 0, rdS σ (nI (a + dct b n most a)) (-1) o) := by
  unfold f12_figure
  have hd := (dct_p (b := b) (n := n) most a).1
  have := l_fig H hmo (-1) o (fun a8 a9 s10 => if a9 = 0 then (zc2 (f12_wrong s10) fun r11 s12 => some (r11, s12)) else some (a8, s10)) most 0 a 0 zfuel (by omega) (by omega) (zfuel_pos (by omega))
  refine this.trans ?_
  rw [Nat.zero_add]
  by_cases c : dct b n most a = 0
  · rw [if_pos c, c, if_pos (show nI 0 = 0 from rfl), Nat.add_zero, m_wrong, zc2_s]
  · rw [if_neg c, if_neg (show ¬ nI (dct b n most a) = 0 by show ¬ _ = nI 0; rw [nI_inj (by omega) (by omega)]; exact c)]
/-- a step of the look -/
def Rf (b : Nat → Int32) (n a o dg : Nat) (w t : Bool) : Option Nat := frR b (n - a) a o dg w t
theorem Rf_s {b : Nat → Int32} {n a o dg : Nat} {w t : Bool} (h : a < n) : Rf b n a o dg w t = (if w = true then
      if b a = 40 ∧ o < 6 then Rf b n (a + 1) (o + 1) dg true t
      else if dig (b a) = true ∨ zch 3 (b a) = true then Rf b n (a + 1) o (if dig (b a) = true then 1 else 0) false t
      else some a
    else if dig (b a) = true ∧ 0 < dg ∧ dg < 5 then Rf b n (a + 1) o (dg + 1) false t
    else if b a = 41 ∧ 0 < o then Rf b n (a + 1) (o - 1) 0 false t
    else if zch 4 (b a) = true ∨ (o = 0 ∧ (b a = 59 ∨ (b a = 58 ∧ t = false))) then Rf b n (a + 1) o dg true (decide (b a = 58) || (t && !decide (b a = 59)))
    else some a) := by
  unfold Rf
  rw [show n - a = (n - (a + 1)) + 1 by omega, frR]
theorem Rf_e {b : Nat → Int32} {n o dg : Nat} {w t : Bool} : Rf b n n o dg w t = if w = true ∨ 0 < o then some n else none := by
  unfold Rf
  rw [Nat.sub_self, frR]
def wk (a s x : Int32) : Int32 := if s = 42 then a * x else if s = 43 then a + x else if s = 45 then a - x else if x = 0 then 0 else zop_idiv a x
def ups (f : Nat → Int32) (i : Nat) (v : Int32) : Nat → Int32 := fun j => if j = i then v else f j
theorem ups_at {f : Nat → Int32} {i : Nat} {v : Int32} : ups f i v i = v := by unfold ups; rw [if_pos rfl]
theorem ups_ne {f : Nat → Int32} {i j : Nat} {v : Int32} (h : j ≠ i) : ups f i v j = f j := by unfold ups; rw [if_neg h]
/-- the class's working out of a freeing, from i on, with d bytes left -/
def frG (b : Nat → Int32) (n : Nat) (H : Nat → Int32) : Nat → Nat → Nat → (Nat → Int32) → (Nat → Int32) → Bool → Int32 → Int32
  | 0, _, _, V, _, ct, _ => if ct = true then V 0 else 0
  | d + 1, i, o, V, S, ct, x =>
    if dig (b i) = true then
      if dig (bt b n (i + 1)) = true then frG b n H d (i + 1) o V S ct (x * 10 + (b i - 48))
      else frG b n H d (i + 1) o (ups V o (wk (V o) (S o) (x * 10 + (b i - 48)))) S ct 0
    else if b i = 58 then frG b n H d (i + 1) 0 (ups V 0 0) (ups S 0 43) (!decide (V 0 = 0)) x
    else if b i = 59 then if ct = true then V 0 else frG b n H d (i + 1) 0 (ups V 0 0) (ups S 0 43) true x
    else if zch 3 (b i) = true then frG b n H d (i + 1) o (ups V o (wk (V o) (S o) (H (nT (zidx (zsbyt.getD 3 []) (b i) 0))))) S ct x
    else if b i = 40 ∧ o < 6 then frG b n H d (i + 1) (o + 1) (ups V (o + 1) 0) (ups S (o + 1) 43) ct x
    else if b i = 41 ∧ 0 < o then frG b n H d (i + 1) (o - 1) (ups V (o - 1) (wk (V (o - 1)) (S (o - 1)) (V o))) S ct x
    else frG b n H d (i + 1) o V (ups S o (b i)) ct x
def Gf (b : Nat → Int32) (n : Nat) (H : Nat → Int32) (a o : Nat) (V S : Nat → Int32) (ct : Bool) (x : Int32) : Int32 := frG b n H (n - a) a o V S ct x
theorem Gf_s {b : Nat → Int32} {n : Nat} {H : Nat → Int32} {a o : Nat} {V S : Nat → Int32} {ct : Bool} {x : Int32} (h : a < n) : Gf b n H a o V S ct x = (if dig (b a) = true then
      if dig (bt b n (a + 1)) = true then Gf b n H (a + 1) o V S ct (x * 10 + (b a - 48))
      else Gf b n H (a + 1) o (ups V o (wk (V o) (S o) (x * 10 + (b a - 48)))) S ct 0
    else if b a = 58 then Gf b n H (a + 1) 0 (ups V 0 0) (ups S 0 43) (!decide (V 0 = 0)) x
    else if b a = 59 then if ct = true then V 0 else Gf b n H (a + 1) 0 (ups V 0 0) (ups S 0 43) true x
    else if zch 3 (b a) = true then Gf b n H (a + 1) o (ups V o (wk (V o) (S o) (H (nT (zidx (zsbyt.getD 3 []) (b a) 0))))) S ct x
    else if b a = 40 ∧ o < 6 then Gf b n H (a + 1) (o + 1) (ups V (o + 1) 0) (ups S (o + 1) 43) ct x
    else if b a = 41 ∧ 0 < o then Gf b n H (a + 1) (o - 1) (ups V (o - 1) (wk (V (o - 1)) (S (o - 1)) (V o))) S ct x
    else Gf b n H (a + 1) o V (ups S o (b a)) ct x) := by
  unfold Gf
  rw [show n - a = (n - (a + 1)) + 1 by omega, frG]
theorem Gf_e {b : Nat → Int32} {n : Nat} {H : Nat → Int32} {o : Nat} {V S : Nat → Int32} {ct : Bool} {x : Int32} : Gf b n H n o V S ct x = if ct = true then V 0 else 0 := by
  unfold Gf
  rw [Nat.sub_self, frG]
def nd (b : Nat → Int32) (n a : Nat) : Prop := dig (bt b n a) = false
def dcd (b : Nat → Int32) (n a dg : Nat) : Prop := dig (bt b n a) = true → ¬ (0 < dg ∧ dg < 5)
theorem Rdig {b : Nat → Int32} {n o : Nat} {t : Bool} : ∀ k a dg, (∀ j, j < k → dig (bt b n (a + j)) = true) → 0 < dg → dg + k ≤ 5 → Rf b n a o dg false t = Rf b n (a + k) o (dg + k) false t
  | 0, _, _, _, _, _ => rfl
  | k + 1, a, dg, h, h0, h5 => by
    have h1 := h 0 (by omega)
    rw [Nat.add_zero] at h1
    have hl := dig_lt h1
    rw [bt_lt hl] at h1
    rw [Rf_s hl, if_neg (by decide), if_pos ⟨h1, h0, by omega⟩, Rdig k (a + 1) (dg + 1) (fun j hj => by rw [show a + 1 + j = a + (j + 1) by omega]; exact h (j + 1) (by omega)) (by omega) (by omega), show a + 1 + k = a + (k + 1) by omega, show dg + 1 + k = dg + (k + 1) by omega]
theorem fig_eq (v c : Int32) : 10 * v + c - 48 = v * 10 + (c - 48) := by
  rw [Int32.mul_comm, Int32.sub_eq_add_neg, Int32.sub_eq_add_neg, Int32.add_assoc]
theorem Gdig {b : Nat → Int32} {n o : Nat} {H : Nat → Int32} {V S : Nat → Int32} {ct : Bool} : ∀ k a x, 0 < k → (∀ j, j < k → dig (bt b n (a + j)) = true) → nd b n (a + k) → Gf b n H a o V S ct x = Gf b n H (a + k) o (ups V o (wk (V o) (S o) (nvl b k a x))) S ct 0
  | 0, _, _, h, _, _ => absurd h (Nat.lt_irrefl 0)
  | k + 1, a, x, _, h, hn => by
    have h1 := h 0 (by omega)
    rw [Nat.add_zero] at h1
    have hl := dig_lt h1
    rw [bt_lt hl] at h1
    have e : nvl b (k + 1) a x = nvl b k (a + 1) (10 * x + b a - 48) := rfl
    rw [Gf_s hl, if_pos h1, e, fig_eq]
    by_cases hk : k = 0
    · subst hk
      unfold nd at hn
      rw [if_neg (show ¬ dig (bt b n (a + 1)) = true by rw [hn]; decide)]
      rfl
    · rw [if_pos (h 1 (by omega)), Gdig k (a + 1) _ (by omega) (fun j hj => by rw [show a + 1 + j = a + (j + 1) by omega]; exact h (j + 1) (by omega)) (by rw [show a + 1 + k = a + (k + 1) by omega]; exact hn), show a + 1 + k = a + (k + 1) by omega]
theorem plc_3 (c : Int32) (s : zSt) : f12_placeIn c 113 121 120 98 114 s = some (zidx (zsbyt.getD 3 []) c 0) := by
  unfold f12_placeIn
  show _ = some (if (113 : Int32) = c then nI 0 else if (121 : Int32) = c then nI 1 else if (120 : Int32) = c then nI 2 else if (98 : Int32) = c then nI 3 else if (114 : Int32) = c then nI 4 else -1)
  by_cases h0 : c = 113
  · subst h0; rfl
  · rw [if_neg h0, if_neg (show ¬ (113 : Int32) = c from fun e => h0 e.symm)]
    by_cases h1 : c = 121
    · subst h1; rfl
    · rw [if_neg h1, if_neg (show ¬ (121 : Int32) = c from fun e => h1 e.symm)]
      by_cases h2 : c = 120
      · subst h2; rfl
      · rw [if_neg h2, if_neg (show ¬ (120 : Int32) = c from fun e => h2 e.symm)]
        by_cases h3 : c = 98
        · subst h3; rfl
        · rw [if_neg h3, if_neg (show ¬ (98 : Int32) = c from fun e => h3 e.symm)]
          by_cases h4 : c = 114
          · subst h4; rfl
          · rw [if_neg h4, if_neg (show ¬ (114 : Int32) = c from fun e => h4 e.symm)]
theorem plc_4 {c : Int32} (h : btw 0 c 255) (s : zSt) : f12_placeIn c 43 45 42 47 (-9) s = some (zidx (zsbyt.getD 4 []) c 0) := by
  have h9 : ¬ c = -9 := fun e => by
    have := h.1
    rw [e] at this
    revert this
    decide
  unfold f12_placeIn
  show _ = some (if (43 : Int32) = c then nI 0 else if (45 : Int32) = c then nI 1 else if (42 : Int32) = c then nI 2 else if (47 : Int32) = c then nI 3 else -1)
  rw [if_neg h9]
  by_cases h0 : c = 43
  · subst h0; rfl
  · rw [if_neg h0, if_neg (show ¬ (43 : Int32) = c from fun e => h0 e.symm)]
    by_cases h1 : c = 45
    · subst h1; rfl
    · rw [if_neg h1, if_neg (show ¬ (45 : Int32) = c from fun e => h1 e.symm)]
      by_cases h2 : c = 42
      · subst h2; rfl
      · rw [if_neg h2, if_neg (show ¬ (42 : Int32) = c from fun e => h2 e.symm)]
        by_cases h3 : c = 47
        · subst h3; rfl
        · rw [if_neg h3, if_neg (show ¬ (47 : Int32) = c from fun e => h3 e.symm)]
theorem zch4_or {c : Int32} (h : zch 4 c = true) : c = 43 ∨ c = 45 ∨ c = 42 ∨ c = 47 := by
  have h : c ∈ [(43 : Int32), 45, 42, 47] := of_decide_eq_true h
  simpa using h
theorem zch3_or {c : Int32} (h : zch 3 c = true) : c = 113 ∨ c = 121 ∨ c = 120 ∨ c = 98 ∨ c = 114 := by
  have h : c ∈ [(113 : Int32), 121, 120, 98, 114] := of_decide_eq_true h
  simpa using h
theorem sg_no {c : Int32} (h : zch 4 c = true) : dig c = false ∧ c ≠ 40 ∧ c ≠ 41 ∧ c ≠ 58 ∧ c ≠ 59 ∧ zch 3 c = false := by
  rcases zch4_or h with rfl | rfl | rfl | rfl <;> decide +kernel
theorem nm_no {c : Int32} (h : zch 3 c = true) : dig c = false ∧ c ≠ 40 ∧ c ≠ 41 ∧ c ≠ 58 ∧ c ≠ 59 ∧ zch 4 c = false := by
  rcases zch3_or h with rfl | rfl | rfl | rfl | rfl <;> decide +kernel
theorem dg_no {c : Int32} (h : dig c = true) : c ≠ 0 ∧ c ≠ 40 ∧ c ≠ 41 ∧ c ≠ 58 ∧ c ≠ 59 ∧ zch 3 c = false ∧ zch 4 c = false := by
  refine ⟨?_, ?_, ?_, ?_, ?_, ?_, ?_⟩
  · rintro rfl; exact absurd h (by decide)
  · rintro rfl; exact absurd h (by decide)
  · rintro rfl; exact absurd h (by decide)
  · rintro rfl; exact absurd h (by decide)
  · rintro rfl; exact absurd h (by decide)
  · cases e : zch 3 c
    · rfl
    · rw [(nm_no e).1] at h; cases h
  · cases e : zch 4 c
    · rfl
    · rw [(sg_no e).1] at h; cases h
theorem R_sign {b : Nat → Int32} {n a o dg : Nat} {t : Bool} (h : a < n) (hs : zch 4 (b a) = true) : Rf b n a o dg false t = Rf b n (a + 1) o dg true t := by
  obtain ⟨s1, s2, s3, s4, s5, s6⟩ := sg_no hs
  rw [Rf_s h, if_neg (by decide), if_neg (by rw [s1]; simp), if_neg (fun e => s3 e.1), if_pos (Or.inl hs), decide_eq_false s4, decide_eq_false s5]
  cases t <;> rfl
theorem G_sign {b : Nat → Int32} {n a o : Nat} {H V S : Nat → Int32} {ct : Bool} {x : Int32} (h : a < n) (hs : zch 4 (b a) = true) : Gf b n H a o V S ct x = Gf b n H (a + 1) o V (ups S o (b a)) ct x := by
  obtain ⟨s1, s2, s3, s4, s5, s6⟩ := sg_no hs
  rw [Gf_s h, if_neg (by rw [s1]; simp), if_neg s4, if_neg s5, if_neg (by rw [s6]; simp), if_neg (fun e => s2 e.1), if_neg (fun e => s3 e.1)]
theorem m_op {β : Type} {c : Int32} (h : zch 4 c = true) (v x : Int32) (j : Int32 → Option β) : (if zidx (zsbyt.getD 4 []) c 0 = 0 then j (v + x) else if zidx (zsbyt.getD 4 []) c 0 = 1 then j (v - x) else if zidx (zsbyt.getD 4 []) c 0 = 2 then j (v * x) else if x = 0 then j 0 else znz x (j (zop_idiv v x))) = j (wk v c x) := by
  rcases zch4_or h with rfl | rfl | rfl | rfl
  · rfl
  · rfl
  · rfl
  · show (if x = 0 then j 0 else znz x (j (zop_idiv v x))) = j (if x = 0 then 0 else zop_idiv v x)
    by_cases e : x = 0
    · rw [if_pos e, if_pos e]
    · rw [if_neg e, if_neg e]
      unfold znz
      rw [if_neg e]
