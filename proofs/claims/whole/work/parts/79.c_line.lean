/-! lines of warranties, on both sides -/
/-- the class before a text -/
theorem gI_at' {σ : zSt} {t i k : Nat} {v : Int32} : gI (pI σ t i k v) t i k = v := gI_at σ t i k v
def CS (s : zSt) (b : Nat → Int32) (n : Nat) (H : Nat → Int32) (h1 : Nat) : Prop := gR s 6 0 5 = some h1 ∧ gZ s 1100 h1 = n ∧ (∀ j, j < n → gI s 1100 h1 j = b j) ∧ (∀ j, j < n → btw 0 (b j) 255) ∧ n ≤ 160 ∧ ∀ j, j < 9 → gI s 700 0 j = H j
theorem CS_p {s : zSt} {b : Nat → Int32} {n : Nat} {H : Nat → Int32} {h1 : Nat} (h : CS s b n H h1) {k : Nat} {v : Int32} : CS (pI s 6 0 k v) b n H h1 := by
  unfold CS at h ⊢
  rw [gR_pI, gZ_pI, gI_ne (show 1100 ≠ 6 by decide), gI_ne (show 700 ≠ 6 by decide)]
  exact h
theorem e_len {s : zSt} {b : Nat → Int32} {n : Nat} {H : Nat → Int32} {h1 : Nat} (h : CS s b n H h1) : f10_length h1 s = some (nI n) := by
  unfold f10_length
  rw [h.2.1]
theorem e_bat {s : zSt} {b : Nat → Int32} {n : Nat} {H : Nat → Int32} {h1 : Nat} (h : CS s b n H h1) {a : Nat} (ha : a < n) : f10_at h1 (nI a) s = some (b a) := by
  have hn := h.2.2.2.2.1
  unfold f10_at
  rw [zlt_s, if_neg (nn0 (by omega)), h.2.1, if_neg (zn_nle ha (by omega)), zix_s ha (by omega), h.2.2.1 a ha]
theorem e_bat_o {s : zSt} {b : Nat → Int32} {n : Nat} {H : Nat → Int32} {h1 : Nat} (h : CS s b n H h1) {a : Nat} (ha : n ≤ a) (ha2 : a < 2 ^ 31) : f10_at h1 (nI a) s = some (-1) := by
  have hn := h.2.2.2.2.1
  unfold f10_at
  rw [zlt_s, if_neg (nn0 ha2), h.2.1, if_pos (show nI n ≤ nI a by rw [i_le, nI_ti (by omega), nI_ti ha2]; omega)]
/-- a number -/
theorem c_number {b : Nat → Int32} {n : Nat} {H : Nat → Int32} {h1 : Nat} : ∀ k (s : zSt) a v m, CS s b n H h1 → gI s 6 0 6 = nI a → a + k ≤ n → (∀ j, j < k → dig (bt b n (a + j)) = true) → nd b n (a + k) → k < m → f6_readNumber_L2 m v s = some (nvl b k a v, pI s 6 0 6 (nI (a + k)))
  | 0, s, a, v, m, C, hp, ha, hk, hnd, hm => by
    obtain ⟨m, rfl⟩ : ∃ r, m = r + 1 := ⟨m - 1, by omega⟩
    have hn := C.2.2.2.2.1
    have e : pI s 6 0 6 (nI (a + 0)) = s := by
      rw [Nat.add_zero, ← hp]
      exact pI_self
    rw [f6_readNumber_L2, zlt_s, C.1, zoc_s, e_len C, zc1_s, hp, e]
    by_cases c : n ≤ a
    · rw [if_pos (show nI n ≤ nI a by rw [i_le, nI_ti (by omega), nI_ti (by omega)]; omega)]
      rfl
    · unfold nd at hnd
      rw [Nat.add_zero, bt_lt (by omega)] at hnd
      rw [if_neg (zn_nle (show a < n by omega) (by omega)), zlt_s, zoc_s, e_bat C (by omega), zc1_s, e_isDigit, zc1_s, hnd, if_pos (show b01 false = 0 from rfl)]
      rfl
  | k + 1, s, a, v, m, C, hp, ha, hk, hnd, hm => by
    obtain ⟨m, rfl⟩ : ∃ r, m = r + 1 := ⟨m - 1, by omega⟩
    have hn := C.2.2.2.2.1
    have h0 := hk 0 (by omega)
    rw [Nat.add_zero] at h0
    have hl := dig_lt h0
    rw [bt_lt hl] at h0
    have ih := c_number k (pI s 6 0 6 (nI (a + 1))) (a + 1) (10 * v + b a - 48) m (CS_p C) gI_at' (by omega) (fun j hj => by rw [show a + 1 + j = a + (j + 1) by omega]; exact hk (j + 1) (by omega)) (by rw [show a + 1 + k = a + (k + 1) by omega]; exact hnd) (by omega)
    rw [f6_readNumber_L2, zlt_s, C.1, zoc_s, e_len C, zc1_s, hp, if_neg (zn_nle hl (by omega)), zlt_s, zoc_s, e_bat C hl, zc1_s, e_isDigit, zc1_s, h0, if_neg (by decide), zlt_s, zoc_s, e_bat C hl, zc1_s, zlt_s, nI_suc a (by omega), zlt_s, ← fig_eq, ih, pI_pI, show a + 1 + k = a + (k + 1) by omega]
    rfl
/-- one test, by the class -/
theorem c_test {s : zSt} {b : Nat → Int32} {n : Nat} {H : Nat → Int32} {h1 a j k : Nat} (C : CS s b n H h1) (hp : gI s 6 0 6 = nI a) (T : TS b n a j k) (hnd : nd b n (a + 2 + k)) (K : Int32 → zSt → Option (Int32 × zSt)) (m : Nat) (h : Bool) : f6_readTests_L2 K (m + 1) (b01 h) s = f6_readTests_L2 K m (b01 (h && cmv (b (a + 1)) (H j) (nvl b k (a + 2) 0))) (pI s 6 0 6 (nI (if bt b n (a + 2 + k) = 38 then a + 2 + k + 1 else a + 2 + k))) := by
  have hn := C.2.2.2.2.1
  obtain ⟨t1, t2, t3, t4, t5, t6, t7⟩ := T
  obtain ⟨d1, d2, d3, d4⟩ := dct_p (b := b) (n := n) 4 (a + 2)
  rw [← t6] at d1 d2 d3 d4
  have hl : a < n := by omega
  have br := C.2.2.2.1 a hl
  obtain ⟨n1, n2, n3⟩ := nm0_no t2
  have C2 : CS (pI s 6 0 6 (nI (a + 2))) b n H h1 := CS_p C
  have C3 : CS (pI s 6 0 6 (nI (a + 2 + k))) b n H h1 := CS_p C
  have num : f6_readNumber (pI s 6 0 6 (nI (a + 2))) = some (nvl b k (a + 2) 0, pI s 6 0 6 (nI (a + 2 + k))) := by
    unfold f6_readNumber
    rw [c_number k (pI s 6 0 6 (nI (a + 2))) (a + 2) 0 zfuel C2 gI_at' t1 d3 hnd (zfuel_pos (by omega)), pI_pI]
  have cmp : ∀ x, f6_compares (H j) (b (a + 1)) x (pI s 6 0 6 (nI (a + 2 + k))) = some (b01 (cmv (b (a + 1)) (H j) x)) := fun x => by
    have lx : (x ≤ H j) ↔ ¬ H j < x := by rw [i_le, i_lt]; omega
    unfold f6_compares
    rcases zch1_or t5 with e | e | e | e <;> rw [e]
    · show (if x ≤ H j then some (0 : Int32) else some 1) = some (b01 (decide (H j < x)))
      by_cases q : H j < x
      · rw [if_neg (fun h => lx.mp h q), decide_eq_true q]; rfl
      · rw [if_pos (lx.mpr q), decide_eq_false q]; rfl
    · show (if H j = x then some (1 : Int32) else some 0) = some (b01 (decide (H j = x)))
      by_cases q : H j = x
      · rw [if_pos q, decide_eq_true q]; rfl
      · rw [if_neg q, decide_eq_false q]; rfl
    · show (if H j = x then some (0 : Int32) else some 1) = some (b01 (!decide (H j = x)))
      by_cases q : H j = x
      · rw [if_pos q, decide_eq_true q]; rfl
      · rw [if_neg q, decide_eq_false q]; rfl
    · show (if H j < x then some (0 : Int32) else some 1) = some (b01 (!decide (H j < x)))
      by_cases q : H j < x
      · rw [if_pos q, decide_eq_true q]; rfl
      · rw [if_neg q, decide_eq_false q]; rfl
  have isj : ∀ s', f11_isIn (nI j) (nI 9) s' = some 1 := fun s' => e_at_in t4 (Nat.le_refl 9) (by decide)
  have nxt : ∀ (q : Int32), (zlt (gR (pI s 6 0 6 (nI (a + 2 + k))) 6 0 5) fun o20 => zoc o20 none fun i21 => zc1 (f10_at i21 (gI (pI s 6 0 6 (nI (a + 2 + k))) 6 0 6) (pI s 6 0 6 (nI (a + 2 + k)))) fun r22 => zlt (fun (s23 : zSt) => f6_readTests_L2 K m q s23) fun j24 => if r22 = 38 then (zlt (pI (pI s 6 0 6 (nI (a + 2 + k))) 6 0 6 ((gI (pI s 6 0 6 (nI (a + 2 + k))) 6 0 6) + 1)) fun s26 => j24 s26) else j24 (pI s 6 0 6 (nI (a + 2 + k)))) = f6_readTests_L2 K m q (pI s 6 0 6 (nI (if bt b n (a + 2 + k) = 38 then a + 2 + k + 1 else a + 2 + k))) := fun q => by
    rw [zlt_s, C3.1, zoc_s, gI_at]
    by_cases c : a + 2 + k < n
    · rw [e_bat C3 c, zc1_s, bt_lt c, zlt_s, zlt_s, nI_suc (a + 2 + k) (by omega), pI_pI]
      by_cases c2 : b (a + 2 + k) = 38
      · rw [if_pos c2, if_pos c2]
      · rw [if_neg c2, if_neg c2]
    · rw [e_bat_o C3 (by omega) (by omega), zc1_s, bt_ge (by omega), zlt_s, if_neg (by decide), if_neg (by decide)]
  rw [f6_readTests_L2, zlt_s, C.1, zoc_s, e_len C, zc1_s, hp, if_neg (zn_nle hl (by omega)), zlt_s, zoc_s, e_bat C hl, zc1_s, if_neg n2, zlt_s, zoc_s, e_bat C hl, zc1_s, e_idx br, t3, zc1_s, zlt_s, zoc_s, nI_suc a (by omega), e_bat C (show a + 1 < n by omega), zc1_s, show nI a + 2 = nI (a + 2) from nI_add' a 2 (by omega), zlt_s, num, zc2_s]
  dsimp only
  rw [zlt_s, zlt_s, isj, zc1_s, if_neg (show ¬ (1 : Int32) = 0 by decide), zix_s t4 (by decide), gI_ne (show 700 ≠ 6 by decide), C.2.2.2.2.2 j t4, cmp, zc1_s]
  dsimp only
  have k0 := nxt (b01 (h && cmv (b (a + 1)) (H j) (nvl b k (a + 2) 0)))
  cases h
  · rw [if_pos (show b01 false = 0 from rfl)]
    exact k0
  · rw [if_neg (show ¬ b01 true = 0 by decide)]
    cases q : cmv (b (a + 1)) (H j) (nvl b k (a + 2) 0)
    · rw [q] at k0
      rw [if_pos (show b01 false = 0 from rfl)]
      exact k0
    · rw [q] at k0
      rw [if_neg (show ¬ b01 true = 0 by decide)]
      exact k0
/-- all tests of a line -/
theorem l_tests {b : Nat → Int32} {n : Nat} {H : Nat → Int32} {σ : zSt} (B : RB σ b n) (hH : ∀ j, j < 9 → gI σ 1371 0 j = H j) (o : Int32) (K : Int32 → zSt → Option (Int32 × zSt)) : ∀ q a all m, a ≤ n → n - a < q → q + 1 < m → ∃ all' a', a' ≤ n ∧
    ((∃ p, f12_line_L13 K m (b01 all) 1 (rdS σ (nI a) (-1) o) = K (b01 all') (rdS σ (nI a') (nI p) o) ∧ ∀ ph, okw b n a ph → p ≤ n ∧ Wf b n a ph 0 = some p) ∨
     (f12_line_L13 K m (b01 all) 1 (rdS σ (nI a) (-1) o) = K (b01 all') (rdS σ (nI a') (-1) o) ∧ a < a' ∧ ¬ bt b n a' = 38 ∧ (∀ ph, okw b n a ph → ∃ dg, dg ≤ 4 ∧ (dig (bt b n a') = true → 4 ≤ dg) ∧ Wf b n a ph 0 = Wf b n a' 4 dg) ∧
       (nd b n a' → ∀ s h1, CS s b n H h1 → gI s 6 0 6 = nI a → ∀ K' M, n + 5 ≤ M + a → ∃ M', n + 5 ≤ M' + a' ∧ f6_readTests_L2 K' M (b01 all) s = f6_readTests_L2 K' M' (b01 all') (pI s 6 0 6 (nI a'))))) := by
  have hn := B.2.1
  intro q
  induction q with
  | zero => intro a all m _ h; exact absurd h (Nat.not_lt_zero _)
  | succ q ih =>
    intro a all m ha hq hm
    obtain ⟨m, rfl⟩ : ∃ r, m = r + 1 := ⟨m - 1, by omega⟩
    obtain ⟨r, s, e1, e2⟩ := m_test B hH ha o
    have X : (if b01 all = 0 then (0 : Int32) else if b01 r = 0 then 0 else 1) = b01 (all && r) := by cases all <;> cases r <;> rfl
    have u : ∀ a2 F, s = rdS σ (nI a2) F o → a2 ≤ 900 → f12_line_L13 K (m + 1) (b01 all) 1 (rdS σ (nI a) (-1) o) = if 0 ≤ F then f12_line_L13 K m (b01 (all && r)) 0 (rdS σ (nI a2) F o) else if bt b n a2 = 38 then f12_line_L13 K m (b01 (all && r)) 1 (rdS σ (nI (a2 + 1)) F o) else f12_line_L13 K m (b01 (all && r)) 0 (rdS σ (nI a2) F o) := fun a2 F hs h9 => by
      have y1 : nI a2 + (if (1 : Int32) = 0 then 0 else 1) = nI (a2 + 1) := nI_suc a2 (by omega)
      have y0 : nI a2 + (if True then 0 else 1) = nI a2 := i_add0 _
      rw [f12_line_L13, if_neg (by decide), e1, zc2_s]
      dsimp only
      rw [X, hs, rdS_69, rdS_67, m_byteAt B (by omega)]
      simp only [zlt_s, zc1_s, y0, y1, rdS_p67]
    rcases e2 with ⟨p, hs, hp⟩ | ⟨j, k, hT, hs, hr⟩
    · have hpn : p ≤ n := by
        rcases hp with ⟨h1, h2, -⟩ | ⟨h1, h2, -⟩ | ⟨h1, h2, -⟩ <;> omega
      refine ⟨all && r, p, hpn, Or.inl ⟨p, ?_, fun ph ho => W_FT ho hp⟩⟩
      obtain ⟨m, rfl⟩ : ∃ r, m = r + 1 := ⟨m - 1, by omega⟩
      rw [u p (nI p) hs (by omega), if_pos (le0 (by omega)), f12_line_L13, if_pos rfl]
    · have t1 := hT.1
      have u' := u (a + 2 + k) (-1) hs (by omega)
      rw [if_neg (by decide)] at u'
      have okw1 : okw b n (a + 2 + k + 1) 1 := Or.inl rfl
      by_cases c : bt b n (a + 2 + k) = 38
      · obtain ⟨hl, hb⟩ := bt_eq c (by decide)
        rw [if_pos c] at u'
        obtain ⟨all', a', i1, i2⟩ := ih (a + 2 + k + 1) (all && r) m (by omega) (by omega) (by omega)
        have W8 : ∀ ph, okw b n a ph → Wf b n a ph 0 = Wf b n (a + 2 + k + 1) 1 0 := fun ph ho => by
          obtain ⟨w1, w2, w3⟩ := W_TS ho hT
          have w : wnx 4 38 = 1 := rfl
          rw [w3, Wf_s hl, hb, if_neg (show ¬ (dig 38 = true ∧ 4 ≤ k) from fun h => absurd h.1 (by decide)), w, if_neg (by decide), if_neg (by decide)]
        refine ⟨all', a', i1, ?_⟩
        rcases i2 with ⟨p, g1, g2⟩ | ⟨g1, g2, g3, g4, g5⟩
        · refine Or.inl ⟨p, u'.trans g1, fun ph ho => ?_⟩
          rw [W8 ph ho]
          exact g2 1 okw1
        · refine Or.inr ⟨u'.trans g1, by omega, g3, fun ph ho => ?_, fun hnd s1 h1 C hp K' M hM => ?_⟩
          · rw [W8 ph ho]
            exact g4 1 okw1
          · obtain ⟨M, rfl⟩ : ∃ r, M = r + 1 := ⟨M - 1, by omega⟩
            rw [c_test C hp hT (show dig (bt b n (a + 2 + k)) = false by rw [c]; decide), if_pos c, ← hr]
            obtain ⟨M', j1, j2⟩ := g5 hnd (pI s1 6 0 6 (nI (a + 2 + k + 1))) h1 (CS_p C) gI_at' K' M (by omega)
            exact ⟨M', j1, by rw [j2, pI_pI]⟩
      · rw [if_neg c] at u'
        obtain ⟨m, rfl⟩ : ∃ r, m = r + 1 := ⟨m - 1, by omega⟩
        have stop : f12_line_L13 K (m + 1) (b01 (all && r)) 0 (rdS σ (nI (a + 2 + k)) (-1) o) = K (b01 (all && r)) (rdS σ (nI (a + 2 + k)) (-1) o) := by rw [f12_line_L13, if_pos rfl]
        rw [stop] at u'
        refine ⟨all && r, a + 2 + k, t1, Or.inr ⟨u', by omega, c, fun ph ho => ⟨k, W_TS ho hT⟩, fun hnd s1 h1 C hp K' M hM => ?_⟩⟩
        obtain ⟨M, rfl⟩ : ∃ r, M = r + 1 := ⟨M - 1, by omega⟩
        have t7 := hT.2.2.2.2.2.2
        refine ⟨M, by omega, ?_⟩
        rw [c_test C hp hT hnd, if_neg c, ← hr]
