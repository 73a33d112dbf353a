/-! warranties: lines one behind another -/
def LN (b : Nat → Int32) (n : Nat) (H : Nat → Int32) (a : Nat) (al : Bool) (e k : Nat) : Prop := k ≤ 4 ∧ e + 1 + k < n ∧ zch 2 (b e) = true ∧ (∀ j, j < k → dig (bt b n (e + 1 + j)) = true) ∧ b (e + 1 + k) = 59 ∧ ∀ s h1, CS s b n H h1 → gI s 6 0 6 = nI a → f6_readTests s = some (b01 al, pI s 6 0 6 (nI e))
theorem c_end {b : Nat → Int32} {n : Nat} {H : Nat → Int32} {h1 : Nat} {s : zSt} (C : CS s b n H h1) {e : Nat} (hp : gI s 6 0 6 = nI e) (hl : e < n) (hb : b e = 62) (al : Bool) (m : Nat) : f6_readTests_L2 (fun a32 s33 => zlt (pI s33 6 0 6 ((gI s33 6 0 6) + 1)) fun s34 => zbo a32 (some (a32, s34))) (m + 1) (b01 al) s = some (b01 al, pI s 6 0 6 (nI (e + 1))) := by
  have hn := C.2.2.2.2.1
  rw [f6_readTests_L2, zlt_s, C.1, zoc_s, e_len C, zc1_s, hp, if_neg (zn_nle hl (by omega)), zlt_s, zoc_s, e_bat C hl, zc1_s, if_pos hb, zlt_s, nI_suc e (by omega), zbo_b]
theorem m_line {b : Nat → Int32} {n : Nat} {H : Nat → Int32} {σ : zSt} (B : RB σ b n) (hH : ∀ j, j < 9 → gI σ 1371 0 j = H j) {a : Nat} (ha : a ≤ n) (ha2 : a < n ∨ n = 0) (o : Int32) : ∃ r τ a', LT τ σ ∧ (∀ k, 74 ≤ k → gI τ 12 0 k = gI σ 12 0 k) ∧ a' ≤ n ∧
    ((∃ p, p ≤ n ∧ f12_line (rdS σ (nI a) (-1) o) = some (r, rdS τ (nI a') (nI p) o) ∧ Wf b n a 0 0 = some p) ∨
     ∃ al e k, f12_line (rdS σ (nI a) (-1) o) = some (b01 al, rdS τ (nI a') (-1) o) ∧ a < a' ∧ Wf b n a 0 0 = Wf b n a' 0 0 ∧ LN b n H a al e k ∧ gI τ 12 0 72 = zidx (zsbyt.getD 2 []) (b e) 0 ∧ gI τ 12 0 73 = nvl b k (e + 1) 0 ∧ a' = e + 1 + k + 1) := by
  have hn := B.2.1
  rw [line_eq, m_byteAt B (by omega), zc1_s]
  by_cases c : bt b n a = 62
  · obtain ⟨hl, hb⟩ := bt_eq c (by decide)
    obtain ⟨r, τ, a', h1, h2, h3, h4⟩ := lnK_ok B c true o
    have W : Wf b n a 0 0 = Wf b n (a + 1) 5 0 := W5 hl hb (Or.inl rfl)
    rw [if_pos c]
    refine ⟨r, τ, a', h1, h2, h3, ?_⟩
    rcases h4 with ⟨p, p1, p2, p3⟩ | ⟨p1, p2, k, k0, k1, k2, k3, k4, k5, k6, k7⟩
    · exact Or.inl ⟨p, p1, p2, W.trans p3⟩
    · refine Or.inr ⟨true, a + 1, k, p1, by omega, W.trans p2, ⟨k0, by omega, k2, fun j hj => by rw [show a + 1 + 1 + j = a + 2 + j by omega]; exact k3 j hj, by rw [show a + 1 + 1 + k = a + 2 + k by omega]; exact k4, fun s h1 C hp => ?_⟩, k5, k6, by omega⟩
      unfold f6_readTests
      exact c_end C hp hl hb true 999999
  · rw [if_neg c]
    obtain ⟨all', a', h1, h2⟩ := l_tests B hH o (fun a s => lnK a s) (n - a + 1) a true zfuel ha (by omega) (zfuel_pos (by omega))
    have ok : okw b n a 0 := Or.inr ⟨rfl, ha2, c⟩
    rcases h2 with ⟨p, p1, p2⟩ | ⟨p1, p2, p3, p4, p5⟩
    · obtain ⟨q1, q2⟩ := p2 0 ok
      obtain ⟨w, hw⟩ := lnK_bad B q1 (show a' ≤ 900 by omega) (b01 all') o
      exact ⟨0, _, a', LT.rf.I (by omega), fun k hk => gI_nk (fun h => by omega) 0, h1, Or.inl ⟨p, q1, p1.trans hw, q2⟩⟩
    · obtain ⟨dg, g1, g2, g3⟩ := p4 0 ok
      by_cases c2 : bt b n a' = 62
      · obtain ⟨hl, hb⟩ := bt_eq c2 (by decide)
        obtain ⟨r, τ, a2, h1, h2, h3, h4⟩ := lnK_ok B c2 all' o
        have W : Wf b n a 0 0 = Wf b n (a' + 1) 5 0 := g3.trans (W5 hl hb (Or.inr rfl))
        refine ⟨r, τ, a2, h1, h2, h3, ?_⟩
        rcases h4 with ⟨p, q1, q2, q3⟩ | ⟨q1, q2, k, k0, k1, k2, k3, k4, k5, k6, k7⟩
        · exact Or.inl ⟨p, q1, p1.trans q2, W.trans q3⟩
        · refine Or.inr ⟨all', a' + 1, k, p1.trans q1, by omega, W.trans q2, ⟨k0, by omega, k2, fun j hj => by rw [show a' + 1 + 1 + j = a' + 2 + j by omega]; exact k3 j hj, by rw [show a' + 1 + 1 + k = a' + 2 + k by omega]; exact k4, fun s h1 C hp => ?_⟩, k5, k6, by omega⟩
          obtain ⟨M', m1, m2⟩ := p5 (show dig (bt b n a') = false by rw [c2]; decide) s h1 C hp (fun a32 s33 => zlt (pI s33 6 0 6 ((gI s33 6 0 6) + 1)) fun s34 => zbo a32 (some (a32, s34))) zfuel (by have := zfuel_pos (show n + 5 ≤ 10000 by omega); omega)
          obtain ⟨M', rfl⟩ : ∃ r, M' = r + 1 := ⟨M' - 1, by omega⟩
          unfold f6_readTests
          refine m2.trans ?_
          rw [c_end (CS_p C) gI_at' hl hb, pI_pI]
      · refine ⟨0, σ, a', LT.rf, fun _ _ => rfl, h1, Or.inl ⟨a', h1, p1.trans (lnK_no B h1 c2 (b01 all') o), ?_⟩⟩
        rw [g3]
        by_cases hl : a' < n
        · rw [bt_lt hl] at c2 g2 p3
          rw [Wf_s hl]
          by_cases q : dig (b a') = true
          · rw [if_pos ⟨q, g2 q⟩]
          · have w7 : wnx 4 (b a') = 7 := by
              unfold wnx
              rw [if_neg (by decide), if_neg (by decide), if_neg (by decide), if_neg (by decide), if_pos rfl, if_neg p3, if_neg c2, if_neg q]
            rw [if_neg (fun h => q h.1), if_pos w7]
        · rw [show a' = n by omega, Wf_e, if_neg (by omega)]
/-- a number of few figures -/
theorem nvl_in {b : Nat → Int32} {n : Nat} : ∀ k a (v : Int32) (M : Nat), k ≤ 4 → (∀ j, j < k → dig (bt b n (a + j)) = true) → (0 ≤ v.toInt ∧ v.toInt < M ∧ M * 10 ^ k ≤ 100000000) → 0 ≤ (nvl b k a v).toInt ∧ (nvl b k a v).toInt < ((M * 10 ^ k : Nat) : Int)
  | 0, a, v, M, _, _, h => by
    show 0 ≤ v.toInt ∧ v.toInt < ((M * 10 ^ 0 : Nat) : Int)
    rw [Nat.pow_zero, Nat.mul_one]
    exact ⟨h.1, h.2.1⟩
  | k + 1, a, v, M, hk, hd, h => by
    have h0 := hd 0 (by omega)
    rw [Nat.add_zero] at h0
    have hl := dig_lt h0
    rw [bt_lt hl] at h0
    have h0 := of_decide_eq_true h0
    have hM : M * 10 ≤ 100000000 := by
      have h1 := h.2.2
      rw [Nat.pow_succ, ← Nat.mul_assoc] at h1
      have h2 : M * 1 ≤ M * 10 ^ k := Nat.mul_le_mul_left M (Nat.pow_pos (by decide))
      omega
    have e1 : (10 * v).toInt = 10 * v.toInt := by rw [i_mulp (by simp only [Int32.reduceToInt]; omega)]; rfl
    have e2 : (10 * v + b a).toInt = 10 * v.toInt + (b a).toInt := by rw [i_addp (by rw [e1]; omega), e1]
    have e3 : (10 * v + b a - 48).toInt = 10 * v.toInt + (b a).toInt - 48 := by rw [i_subp (by rw [e2]; simp only [Int32.reduceToInt]; omega), e2]; rfl
    have ih := nvl_in k (a + 1) (10 * v + b a - 48) (M * 10) (by omega) (fun j hj => by rw [show a + 1 + j = a + (j + 1) by omega]; exact hd (j + 1) (by omega)) ⟨by rw [e3]; omega, by rw [e3]; omega, by rw [Nat.mul_assoc, ← Nat.pow_succ']; exact h.2.2⟩
    rw [Nat.mul_assoc, ← Nat.pow_succ'] at ih
    exact ih
/-- the class finds its line -/
def FL (b : Nat → Int32) (n : Nat) (H : Nat → Int32) (s1 s' : zSt) (M : Nat) : Prop := ∃ s2, Ch s2 s1 ∧ ((gI s' 12 0 74 = -1 ∧ f6_findLine_L10 M s1 = some (0, s2)) ∨ ∃ l2 pc, l2 ≤ 1000 ∧ gI s' 12 0 74 = nI l2 ∧ f6_findLine_L10 M s1 = some (1, s2) ∧ gI s2 6 0 4 = nI l2 ∧ gI s2 6 0 7 = pc ∧ zch 2 pc = true ∧ gI s' 12 0 75 = zidx (zsbyt.getD 2 []) pc 0 ∧ gI s2 6 0 8 = gI s' 12 0 76 ∧ 0 ≤ (gI s' 12 0 76).toInt)
theorem c_line {b : Nat → Int32} {n : Nat} {H : Nat → Int32} {s : zSt} {h1 a e k : Nat} {al : Bool} (C : CS s b n H h1) (hp : gI s 6 0 6 = nI a) (ha : a < n) (L : LN b n H a al e k) (m : Nat) : ∃ s16, Ch s16 s ∧ CS s16 b n H h1 ∧ gI s16 6 0 6 = nI (e + 1 + k + 1) ∧ gI s16 6 0 4 = gI s 6 0 4 ∧ gI s16 6 0 7 = b e ∧ gI s16 6 0 8 = nvl b k (e + 1) 0 ∧ f6_findLine_L10 (m + 1) s = if al = true then some (1, s16) else f6_findLine_L10 m (pI s16 6 0 4 ((gI s 6 0 4) + 1)) := by
  have hn := C.2.2.2.2.1
  obtain ⟨l0, l1, l2, l3, l4, l5⟩ := L
  have C1 : CS (pI s 6 0 6 (nI e)) b n H h1 := CS_p C
  have C2 : CS (pI (pI s 6 0 6 (nI e)) 6 0 7 (b e)) b n H h1 := CS_p C1
  have C3 : CS (pI (pI (pI s 6 0 6 (nI e)) 6 0 7 (b e)) 6 0 6 (nI (e + 1))) b n H h1 := CS_p C2
  have num : f6_readNumber (pI (pI (pI s 6 0 6 (nI e)) 6 0 7 (b e)) 6 0 6 (nI (e + 1))) = some (nvl b k (e + 1) 0, pI (pI (pI (pI s 6 0 6 (nI e)) 6 0 7 (b e)) 6 0 6 (nI (e + 1))) 6 0 6 (nI (e + 1 + k))) := by
    unfold f6_readNumber
    exact c_number k _ (e + 1) 0 zfuel C3 gI_at' (by omega) l3 (show dig (bt b n (e + 1 + k)) = false by rw [bt_lt l1, l4]; decide) (zfuel_pos (by omega))
  refine ⟨pI (pI (pI (pI (pI (pI s 6 0 6 (nI e)) 6 0 7 (b e)) 6 0 6 (nI (e + 1))) 6 0 6 (nI (e + 1 + k))) 6 0 8 (nvl b k (e + 1) 0)) 6 0 6 (nI (e + 1 + k + 1)), ?_, ?_, gI_at', ?_, ?_, ?_, ?_⟩
  · exact (((((Ch.rf.I rfl).I rfl).I rfl).I rfl).I rfl).I rfl
  · exact CS_p (CS_p (CS_p C3))
  · rw [gI_nk (by decide), gI_nk (by decide), gI_nk (by decide), gI_nk (by decide), gI_nk (by decide), gI_nk (by decide)]
  · rw [gI_nk (by decide), gI_nk (by decide), gI_nk (by decide), gI_nk (by decide), gI_at]
  · rw [gI_nk (by decide), gI_at]
  · have g4 : ∀ v : Int32, gI (pI (pI (pI (pI (pI (pI s 6 0 6 (nI e)) 6 0 7 (b e)) 6 0 6 (nI (e + 1))) 6 0 6 (nI (e + 1 + k))) 6 0 8 (nvl b k (e + 1) 0)) 6 0 6 v) 6 0 4 = gI s 6 0 4 := fun v => by
      rw [gI_nk (by decide), gI_nk (by decide), gI_nk (by decide), gI_nk (by decide), gI_nk (by decide), gI_nk (by decide)]
    rw [f6_findLine_L10, zlt_s, C.1, zoc_s, e_len C, zc1_s, hp, if_neg (zn_nle ha (by omega)), l5 s h1 C hp, zc2_s]
    dsimp only
    rw [zlt_s, C1.1, zoc_s, gI_at, e_bat C1 (show e < n by omega), zc1_s, zlt_s, gI_nk (show ¬ (6 = 6 ∧ 6 = 7) by decide), gI_at, nI_suc e (by omega), zlt_s, num, zc2_s]
    dsimp only
    rw [zlt_s, gI_nk (show ¬ (6 = 6 ∧ 6 = 8) by decide), gI_at, nI_suc (e + 1 + k) (by omega), zlt_s, g4, zlt_s]
    cases al
    · rw [if_pos (show b01 false = 0 from rfl), if_neg (by decide)]
    · rw [if_neg (show ¬ b01 true = 0 by decide), if_pos rfl]
theorem rw_L16 (m : Nat) (v3 v4 : Int32) (σ : zSt) : f12_readWarranty_L16 (m + 1) v3 v4 σ = if v4 = 0 then some ((), σ) else zc2 (f12_line σ) fun r4 s5 => if 0 ≤ (gI s5 12 0 69) then f12_readWarranty_L16 m (v3 + 1) (if 0 ≤ (gI s5 12 0 69) then 0 else (if (gI s5 12 0 68) ≤ (gI s5 12 0 67) then 0 else 1)) s5 else
    if r4 = 0 then f12_readWarranty_L16 m (v3 + 1) (if 0 ≤ (gI s5 12 0 69) then 0 else (if (gI s5 12 0 68) ≤ (gI s5 12 0 67) then 0 else 1)) s5 else
    if 0 ≤ (gI s5 12 0 74) then f12_readWarranty_L16 m (v3 + 1) (if 0 ≤ (gI s5 12 0 69) then 0 else (if (gI s5 12 0 68) ≤ (gI s5 12 0 67) then 0 else 1)) s5 else
    zlt (pI s5 12 0 74 v3) fun s19 => zlt (pI s19 12 0 75 (gI s19 12 0 72)) fun s20 => zlt (pI s20 12 0 76 (gI s20 12 0 73)) fun s21 => f12_readWarranty_L16 m (v3 + 1) (if 0 ≤ (gI s21 12 0 69) then 0 else (if (gI s21 12 0 68) ≤ (gI s21 12 0 67) then 0 else 1)) s21 := by
  rw [f12_readWarranty_L16]
  rfl
theorem l_warr {b : Nat → Int32} {n : Nat} {H : Nat → Int32} : ∀ q a l m (τ : zSt), RB τ b n → (∀ j, j < 9 → gI τ 1371 0 j = H j) → a ≤ n → (a < n ∨ n = 0) → n - a < q → q + 1 < m → l ≤ a → ∃ s', f12_readWarranty_L16 m (nI l) 1 (rdS τ (nI a) (-1) 0) = some ((), s') ∧ LW s' τ ∧
    ((∃ p, p ≤ n ∧ gI s' 12 0 69 = nI p ∧ Wf b n a 0 0 = some p) ∨
     (gI s' 12 0 69 = -1 ∧ Wf b n a 0 0 = none ∧ (0 ≤ gI τ 12 0 74 → gI s' 12 0 74 = gI τ 12 0 74 ∧ gI s' 12 0 75 = gI τ 12 0 75 ∧ gI s' 12 0 76 = gI τ 12 0 76) ∧
       (gI τ 12 0 74 = -1 → ∀ s1 h1 M, CS s1 b n H h1 → gI s1 6 0 6 = nI a → gI s1 6 0 4 = nI l → n + 5 ≤ M + a → FL b n H s1 s' M))) := by
  intro q
  induction q with
  | zero => intro a l m τ _ _ _ _ h; exact absurd h (Nat.not_lt_zero _)
  | succ q ih =>
    intro a l m τ B hH ha ha2 hq hm hla
    obtain ⟨m, rfl⟩ : ∃ r, m = r + 2 := ⟨m - 2, by omega⟩
    have hn := B.2.1
    have l0 : ¬ (0 : Int32) ≤ -1 := by decide
    obtain ⟨r, τ1, a', t1, t2, t3, t4⟩ := m_line B hH ha ha2 0
    have B1 := RB_LT t1 B
    have hH1 : ∀ j, j < 9 → gI τ1 1371 0 j = H j := fun j hj => by rw [t1.2.1 1371 (by decide)]; exact hH j hj
    rcases t4 with ⟨p, p1, p2, p3⟩ | ⟨al, e, k, p1, p2, p3, p4, p5, p6, p7⟩
    · refine ⟨rdS τ1 (nI a') (nI p) 0, ?_, t1.lw.rd, Or.inl ⟨p, p1, rdS_69, p3⟩⟩
      rw [rw_L16, if_neg (by decide), p2, zc2_s]
      dsimp only
      rw [rdS_69, if_pos (le0 (by omega)), if_pos (le0 (by omega)), rw_L16, if_pos rfl]
    · -- the state behind the line: τ2
      have goon : ∀ τ2, LT τ2 τ → f12_readWarranty_L16 (m + 2) (nI l) 1 (rdS τ (nI a) (-1) 0) = f12_readWarranty_L16 (m + 1) (nI (l + 1)) (if (nI n) ≤ (nI a') then 0 else 1) (rdS τ2 (nI a') (-1) 0) → ∃ s', f12_readWarranty_L16 (m + 2) (nI l) 1 (rdS τ (nI a) (-1) 0) = some ((), s') ∧ LW s' τ2 ∧ ((∃ p, p ≤ n ∧ gI s' 12 0 69 = nI p ∧ Wf b n a 0 0 = some p) ∨ (gI s' 12 0 69 = -1 ∧ Wf b n a 0 0 = none ∧ (0 ≤ gI τ2 12 0 74 → gI s' 12 0 74 = gI τ2 12 0 74 ∧ gI s' 12 0 75 = gI τ2 12 0 75 ∧ gI s' 12 0 76 = gI τ2 12 0 76) ∧ (gI τ2 12 0 74 = -1 → ∀ s1 h1 M, CS s1 b n H h1 → gI s1 6 0 6 = nI a' → gI s1 6 0 4 = nI (l + 1) → n + 5 ≤ M + a' → FL b n H s1 s' M))) := fun τ2 ht hu => by
        by_cases c : a' = n
        · refine ⟨rdS τ2 (nI a') (-1) 0, ?_, (LT.rf).lw.rd, Or.inr ⟨rdS_69, ?_, fun _ => ⟨rdS_k (by decide), rdS_k (by decide), rdS_k (by decide)⟩, fun h74 s1 h1 M C hp h4 hM => ?_⟩⟩
          · rw [hu, c, if_pos (zn_rle n), rw_L16, if_pos rfl]
          · rw [p3, c, Wf_e, if_pos ⟨by omega, rfl⟩]
          · obtain ⟨M, rfl⟩ : ∃ r, M = r + 1 := ⟨M - 1, by omega⟩
            refine ⟨s1, Ch.rf, Or.inl ⟨by rw [rdS_k (by decide)]; exact h74, ?_⟩⟩
            rw [f6_findLine_L10, zlt_s, C.1, zoc_s, e_len C, zc1_s, hp, c, if_pos (zn_rle n)]
        · obtain ⟨s', i1, i2, i3⟩ := ih a' (l + 1) (m + 1) τ2 (RB_LT ht B) (fun j hj => by rw [ht.2.1 1371 (by decide)]; exact hH j hj) t3 (Or.inl (by omega)) (by omega) (by omega) (by omega)
          refine ⟨s', ?_, i2, ?_⟩
          · rw [hu, if_neg (zn_nle (show a' < n by omega) (by omega)), i1]
          · rcases i3 with ⟨p, q1, q2, q3⟩ | ⟨q1, q2, q3, q4⟩
            · exact Or.inl ⟨p, q1, q2, p3.trans q3⟩
            · exact Or.inr ⟨q1, p3.trans q2, q3, q4⟩
      have e68 : gI τ1 12 0 68 = nI n := B1.1
      have hs : n > a := by omega
      have base : f12_readWarranty_L16 (m + 2) (nI l) 1 (rdS τ (nI a) (-1) 0) = if al = true ∧ ¬ 0 ≤ gI τ 12 0 74 then f12_readWarranty_L16 (m + 1) (nI (l + 1)) (if (nI n) ≤ (nI a') then 0 else 1) (rdS (pI (pI (pI τ1 12 0 74 (nI l)) 12 0 75 (gI τ1 12 0 72)) 12 0 76 (gI τ1 12 0 73)) (nI a') (-1) 0) else f12_readWarranty_L16 (m + 1) (nI (l + 1)) (if (nI n) ≤ (nI a') then 0 else 1) (rdS τ1 (nI a') (-1) 0) := by
        rw [rw_L16, if_neg (by decide), p1, zc2_s]
        dsimp only
        rw [rdS_69, if_neg l0, if_neg l0, rdS_k (k := 68) (by decide), rdS_67, e68, rdS_k (k := 74) (by decide), t2 74 (by omega), nI_suc l (by omega)]
        cases al
        · rw [if_pos (show b01 false = 0 from rfl), if_neg (show ¬ (false = true ∧ ¬ 0 ≤ gI τ 12 0 74) by simp)]
        · rw [if_neg (show ¬ b01 true = 0 by decide)]
          by_cases c74 : 0 ≤ gI τ 12 0 74
          · rw [if_pos c74, if_neg (show ¬ (true = true ∧ ¬ 0 ≤ gI τ 12 0 74) from fun h => h.2 c74)]
          · rw [if_neg c74, if_pos (show true = true ∧ ¬ 0 ≤ gI τ 12 0 74 from ⟨rfl, c74⟩), rdS_pk (by decide), zlt_s, rdS_k (k := 72) (by decide), gI_nk (show ¬ (12 = 12 ∧ 72 = 74) by decide), rdS_pk (by decide), zlt_s, rdS_k (k := 73) (by decide), gI_nk (show ¬ (12 = 12 ∧ 73 = 75) by decide), gI_nk (show ¬ (12 = 12 ∧ 73 = 74) by decide), rdS_pk (by decide), zlt_s, rdS_69, if_neg l0, rdS_67, rdS_k (k := 68) (by decide), gI_nk (show ¬ (12 = 12 ∧ 68 = 76) by decide), gI_nk (show ¬ (12 = 12 ∧ 68 = 75) by decide), gI_nk (show ¬ (12 = 12 ∧ 68 = 74) by decide), e68]
      by_cases hf : al = true ∧ ¬ 0 ≤ gI τ 12 0 74
      · rw [if_pos hf] at base
        have LT2 : LT (pI (pI (pI τ1 12 0 74 (nI l)) 12 0 75 (gI τ1 12 0 72)) 12 0 76 (gI τ1 12 0 73)) τ := ((t1.I (by omega)).I (by omega)).I (by omega)
        have g74 : gI (pI (pI (pI τ1 12 0 74 (nI l)) 12 0 75 (gI τ1 12 0 72)) 12 0 76 (gI τ1 12 0 73)) 12 0 74 = nI l := by rw [gI_nk (by decide), gI_nk (by decide), gI_at]
        have g75 : gI (pI (pI (pI τ1 12 0 74 (nI l)) 12 0 75 (gI τ1 12 0 72)) 12 0 76 (gI τ1 12 0 73)) 12 0 75 = gI τ1 12 0 72 := by rw [gI_nk (by decide), gI_at]
        obtain ⟨s', i1, i2, i3⟩ := goon _ LT2 base
        refine ⟨s', i1, i2.tr LT2.lw, ?_⟩
        rcases i3 with i3 | ⟨q1, q2, q3, q4⟩
        · exact Or.inl i3
        · obtain ⟨z1, z2, z3⟩ := q3 (by rw [g74]; exact le0 (by omega))
          refine Or.inr ⟨q1, q2, fun h => absurd h hf.2, fun h74 s1 h1 M C hp h4 hM => ?_⟩
          obtain ⟨M, rfl⟩ : ∃ r, M = r + 1 := ⟨M - 1, by omega⟩
          obtain ⟨s16, c1, c2, c3, c4, c5, c6, c7⟩ := c_line C hp (by omega) p4 M
          refine ⟨s16, c1, Or.inr ⟨l, b e, by omega, by rw [z1, g74], by rw [c7, if_pos hf.1], by rw [c4, h4], c5, p4.2.2.1, by rw [z2, g75, p5], by rw [c6, z3, gI_at, p6], by rw [z3, gI_at, p6]; exact (nvl_in k (e + 1) 0 1 p4.1 p4.2.2.2.1 ⟨by decide, by decide, by have := Nat.pow_le_pow_right (show 0 < 10 by decide) p4.1; omega⟩).1⟩⟩
      · rw [if_neg hf] at base
        obtain ⟨s', i1, i2, i3⟩ := goon τ1 t1 base
        refine ⟨s', i1, i2.tr t1.lw, ?_⟩
        rcases i3 with i3 | ⟨q1, q2, q3, q4⟩
        · exact Or.inl i3
        · rw [t2 74 (by omega), t2 75 (by omega), t2 76 (by omega)] at q3
          rw [t2 74 (by omega)] at q4
          refine Or.inr ⟨q1, q2, q3, fun h74 s1 h1 M C hp h4 hM => ?_⟩
          have hal : al = false := by
            cases al
            · rfl
            · exact absurd ⟨rfl, by rw [h74]; decide⟩ hf
          obtain ⟨M, rfl⟩ : ∃ r, M = r + 1 := ⟨M - 1, by omega⟩
          obtain ⟨s16, c1, c2, c3, c4, c5, c6, c7⟩ := c_line C hp (by omega) p4 M
          rw [hal, if_neg (by decide), h4, nI_suc l (by omega)] at c7
          obtain ⟨s2, d1, d2⟩ := q4 h74 (pI s16 6 0 4 (nI (l + 1))) h1 M (CS_p c2) (by rw [gI_nk (by decide), c3, p7]) gI_at' (by omega)
          refine ⟨s2, d1.tr (c1.I rfl), ?_⟩
          rw [c7]
          exact d2
theorem m_readWarranty {b : Nat → Int32} {n : Nat} {H : Nat → Int32} {σ : zSt} {v1 : Int32} (B : RB (bgT σ v1 (nI n)) b n) (hH : ∀ j, j < 9 → gI σ 1371 0 j = H j) : ∃ s', f12_readWarranty v1 (nI n) σ = some ((), s') ∧ LW s' σ ∧ gI s' 12 0 69 = ofo (wrR b n 0 0 0) ∧
    (wrR b n 0 0 0 = none → ∀ s1 h1 M, CS s1 b n H h1 → gI s1 6 0 6 = 0 → gI s1 6 0 4 = 0 → n + 5 ≤ M → FL b n H s1 s' M) := by
  have hn := B.2.1
  have C0 : LW (pI (bgT σ v1 (nI n)) 12 0 74 (-1)) σ := by
    unfold bgT
    exact ⟨((Ch.rf.I rfl).I rfl).I rfl, fun k hk => by rw [gI_nk (fun e => by omega), gI_nk (fun e => by omega), gI_nk (fun e => by omega)]⟩
  have B0 : RB (pI (bgT σ v1 (nI n)) 12 0 74 (-1)) b n := RB_LT (LT.rf.I (by omega)) B
  have hH0 : ∀ j, j < 9 → gI (pI (bgT σ v1 (nI n)) 12 0 74 (-1)) 1371 0 j = H j := fun j hj => by
    unfold bgT
    rw [gI_ne (by decide), gI_ne (by decide), gI_ne (by decide), hH j hj]
  obtain ⟨s', i1, i2, i3⟩ := l_warr (n + 1) 0 0 zfuel _ B0 hH0 (by omega) (by omega) (by omega) (zfuel_pos (by omega)) (by omega)
  have wz : Wf b n 0 0 0 = wrR b n 0 0 0 := rfl
  refine ⟨s', ?_, i2.tr C0, ?_⟩
  · unfold f12_readWarranty
    rw [m_begin, zc2_s, rdS_pk (by decide), zlt_s]
    exact i1
  · rw [wz] at i3
    rcases i3 with ⟨p, q1, q2, q3⟩ | ⟨q1, q2, q3, q4⟩
    · refine ⟨?_, fun h => ?_⟩
      · rw [q2, q3]; rfl
      · rw [q3] at h; cases h
    · refine ⟨?_, fun _ s1 h1 M C hp h4 hM => q4 gI_at' s1 h1 M C hp h4 (by omega)⟩
      rw [q1, q2]; rfl
