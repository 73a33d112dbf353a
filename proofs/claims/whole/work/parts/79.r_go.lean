/-! plans: the reference's search, what it asks of a job -/
def jb (σ : zSt) (i : Nat) : Nat := nT (gI σ 1346 0 i)
def jtr (σ : zSt) (i : Nat) : Nat := nT (gI σ 1314 0 (kd σ (jb σ i)))
def jmn (σ : zSt) (t : Nat) : Nat := nT (gI σ 1345 0 t)
def jsv (σ : zSt) (i : Nat) : Nat := nT (gI σ 1321 0 (jb σ i))
def jav (σ : zSt) (q i d : Nat) : Bool := decide ((zop_ishr (gI σ 1308 0 (hm σ (jb σ i))) (zop_irem (nI (q + d)) 7) &&& 1) = 1)
def jlt (σ : zSt) (q i d : Nat) : Bool := !decide (nI (q + d) ≤ gI σ 1331 0 (jb σ i))
def enc (q d : Nat) : Int32 := if d = 14 then -1 else nI (q + d)
/-- what the search stands on -/
def PLC (σ : zSt) (J D q : Nat) : Prop := gI σ 12 0 47 = nI J ∧ J ≤ 7 ∧ gI σ 12 0 0 = nI q ∧ (1 ≤ D ∧ D ≤ 14 ∧ q + D ≤ 10000) ∧ (if (9999 : Int32) ≤ (gI σ 12 0 0 + gI σ 12 0 59) - 1 then (9999 : Int32) else (gI σ 12 0 0 + gI σ 12 0 59) - 1) = nI (q + D - 1) ∧ (∀ i, i < J → gI σ 1346 0 i = nI (jb σ i) ∧ jb σ i < mF σ) ∧ ∀ t, t < 10 → btw 0 (gI σ 1345 0 t) 9
def GO (s σ : zSt) : Prop := (∀ t, t ≠ 12 → t ≠ 1360 → t ≠ 1361 → gI s t = gI σ t) ∧ (∀ k, k < 63 ∨ 65 < k → gI s 12 0 k = gI σ 12 0 k) ∧ gR s = gR σ ∧ gN s = gN σ ∧ gZ s = gZ σ
theorem GO.rf {σ : zSt} : GO σ σ := ⟨fun _ _ _ _ => rfl, fun _ _ => rfl, rfl, rfl, rfl⟩
theorem GO.T {s σ : zSt} (h : GO s σ) {k : Nat} {v : Int32} : GO (pI s 1360 0 k v) σ := ⟨fun t h1 h2 h3 => by rw [gI_ne h2, h.1 t h1 h2 h3], fun k hk => by rw [gI_ne (by decide), h.2.1 k hk], h.2.2⟩
theorem GO.P {s σ : zSt} (h : GO s σ) {k : Nat} {v : Int32} : GO (pI s 1361 0 k v) σ := ⟨fun t h1 h2 h3 => by rw [gI_ne h3, h.1 t h1 h2 h3], fun k hk => by rw [gI_ne (by decide), h.2.1 k hk], h.2.2⟩
theorem GO.B {s σ : zSt} (h : GO s σ) {k : Nat} {v : Int32} (hk : 63 ≤ k ∧ k ≤ 65) : GO (pI s 12 0 k v) σ := ⟨fun t h1 h2 h3 => by rw [gI_ne h1, h.1 t h1 h2 h3], fun k' hk' => by rw [gI_nk (fun e => by omega), h.2.1 k' hk'], h.2.2⟩
theorem GO.ry {s σ : zSt} (h : GO s σ) : RY s σ := ⟨fun a h1 h2 => h.1 a (by omega) (by omega) (by omega), fun c hc => h.2.1 c (by omega)⟩
theorem j_st {σ : zSt} {J D q : Nat} (h : RI σ) (P : PLC σ J D q) {i : Nat} (hi : i < J) : gI σ 1346 0 i = nI (jb σ i) ∧ jb σ i < mF σ ∧ jb σ i < 200 ∧ gI σ 1318 0 (jb σ i) = nI (hm σ (jb σ i)) ∧ hm σ (jb σ i) < 40 ∧ gI σ 1320 0 (jb σ i) = nI (kd σ (jb σ i)) ∧ kd σ (jb σ i) < 20 ∧ gI σ 1314 0 (kd σ (jb σ i)) = nI (jtr σ i) ∧ jtr σ i < 10 ∧ gI σ 1345 0 (jtr σ i) = nI (jmn σ (jtr σ i)) ∧ jmn σ (jtr σ i) ≤ 9 ∧ gI σ 1321 0 (jb σ i) = nI (jsv σ i) ∧ 1 ≤ jsv σ i ∧ jsv σ i ≤ 9 := by
  obtain ⟨p1, p2⟩ := P.2.2.2.2.2.1 i hi
  obtain ⟨k1, k2, k3⟩ := F_hm h p2
  obtain ⟨d1, d2, d3⟩ := F_kd h p2
  have ht := (h.2.2.2.2.2.2 _ d2).1
  have t1 := ht.1
  have t2 := ht.2
  have tr10 : jtr σ i < 10 := by unfold jtr nT; omega
  have hm := P.2.2.2.2.2.2 (jtr σ i) tr10
  have m1 := hm.1
  have m2 := hm.2
  have hs := (F_RF h p2).2.2.2.2.2.1
  have s1 := hs.1
  have s2 := hs.2
  refine ⟨p1, p2, F_lt h p2, k1, k3, d1, d3, i_ofNat t1, tr10, i_ofNat m1, ?_, i_ofNat (by omega), ?_, ?_⟩
  · unfold jmn nT; omega
  · unfold jsv nT; omega
  · unfold jsv nT; omega
theorem m_lastDay {σ s : zSt} {J D q : Nat} (P : PLC σ J D q) (g : GO s σ) : f12_lastDay s = some (nI (q + D - 1)) := by
  unfold f12_lastDay
  rw [g.2.1 0 (by omega), g.2.1 59 (by omega), ite_some, P.2.2.2.2.1]
theorem m_mayBe {σ s : zSt} {J D q : Nat} (h : RI σ) (P : PLC σ J D q) (g : GO s σ) {i : Nat} (hi : i < J) (d : Nat) : f12_mayBe (nI (jb σ i)) (nI (q + d)) s = some (b01 (mbe (jav σ q) (jtr σ) (jmn σ) i d)) := by
  obtain ⟨a1, a2, a3, a4, a5, a6, a7, a8, a9, a10, a11, a12, a13, a14⟩ := j_st h P hi
  have gg : ∀ t, t ≠ 12 → t ≠ 1360 → t ≠ 1361 → gI s t = gI σ t := g.1
  unfold f12_mayBe mbe jav
  rw [zix_s a3 (by decide), gg 1318 (by decide) (by decide) (by decide), a4, zix_s a5 (by decide), zlt_s, gg 1308 (by decide) (by decide) (by decide)]
  rw [zix_s a3 (by decide), gg 1320 (by decide) (by decide) (by decide), a6, zix_s a7 (by decide), gg 1314 (by decide) (by decide) (by decide), a8, zix_s a9 (by decide), gg 1345 (by decide) (by decide) (by decide), a10]
  have m0 : (nI (jmn σ (jtr σ i)) ≤ 0) = ¬ (0 < jmn σ (jtr σ i)) := by
    rw [i_le, nI_ti (by omega)]
    simp only [Int32.reduceToInt]
    apply propext; omega
  simp only [m0]
  by_cases c : (zop_ishr (gI σ 1308 0 (hm σ (jb σ i))) (zop_irem (nI (q + d)) 7) &&& 1) = 1
  · rw [if_pos c, decide_eq_true c]
    by_cases c2 : 0 < jmn σ (jtr σ i)
    · rw [if_neg (fun hh => hh c2), decide_eq_true c2]; rfl
    · rw [if_pos c2, decide_eq_false c2]; rfl
  · rw [if_neg c, decide_eq_false c]; rfl
theorem m_firstDay {σ s : zSt} {J D q : Nat} (h : RI σ) (P : PLC σ J D q) (g : GO s σ) {i : Nat} (hi : i < J) : f12_firstDay (nI (jb σ i)) s = some (enc q (fdd D (jav σ q) (jtr σ) (jmn σ) i)) := by
  obtain ⟨b1, b2, b3⟩ := P.2.2.2.1
  have e0 : gI s 12 0 0 = nI q := by rw [g.2.1 0 (by omega), P.2.2.1]
  unfold f12_firstDay
  rw [m_lastDay P g, zc1_s]
  have en : ∀ o : Option Nat, (∀ j, o = some j → j < 14) → enc q (o.getD 14) = match o with | none => -1 | some j => nI (q + j) := fun o ho => by
    cases o with
    | none => rfl
    | some j =>
      show enc q j = nI (q + j)
      unfold enc
      rw [if_neg (by have := ho j rfl; omega)]
  have key : ∀ n m, n ≤ D → n < m → f12_firstDay_L7 (nI (jb σ i)) s m (match zfirst (mbe (jav σ q) (jtr σ) (jmn σ) i) n (D - n) with | none => (-1 : Int32) | some j => nI (q + j)) (nI (q + n) - 1) = some (match zfirst (mbe (jav σ q) (jtr σ) (jmn σ) i) 0 D with | none => (-1 : Int32) | some j => nI (q + j)) := by
    intro n
    induction n with
    | zero =>
      intro m hn hm
      obtain ⟨m, rfl⟩ : ∃ r, m = r + 1 := ⟨m - 1, by omega⟩
      have lt0 : nI (q + 0) - 1 < nI q := by
        rw [Nat.add_zero, i_lt, i_subp (by rw [nI_ti (by omega)]; simp only [Int32.reduceToInt]; omega), nI_ti (by omega)]
        simp only [Int32.reduceToInt]
        omega
      rw [f12_firstDay_L7, e0, if_pos lt0, Nat.sub_zero]
    | succ n ih =>
      intro m hn hm
      obtain ⟨m, rfl⟩ : ∃ r, m = r + 1 := ⟨m - 1, by omega⟩
      have ih := ih m (by omega) (by omega)
      rw [show nI (q + (n + 1)) - 1 = nI (q + n) from sub1' (q + (n + 1)) (by omega), f12_firstDay_L7, e0, if_neg (show ¬ nI (q + n) < nI q by rw [i_lt, nI_ti (by omega), nI_ti (by omega)]; omega), m_mayBe h P g hi n, zc1_s, zlt_s, zlt_s, nm1, ← ih, show D - n = (D - (n + 1)) + 1 by omega]
      congr 1
      rw [show zfirst (mbe (jav σ q) (jtr σ) (jmn σ) i) n (D - (n + 1) + 1) = if mbe (jav σ q) (jtr σ) (jmn σ) i n then some n else zfirst (mbe (jav σ q) (jtr σ) (jmn σ) i) (n + 1) (D - (n + 1)) from rfl]
      cases mbe (jav σ q) (jtr σ) (jmn σ) i n
      · rw [if_pos (show b01 false = 0 from rfl), if_neg (by decide)]
      · rw [if_neg (show ¬ b01 true = 0 by decide), if_pos rfl]
  have k0 := key D zfuel (Nat.le_refl _) (zfuel_pos (by omega))
  rw [Nat.sub_self, show nI (q + D) - 1 = nI (q + D - 1) from sub1' (q + D) (by omega)] at k0
  refine Eq.trans k0 ?_
  unfold fdd
  rw [en _ (fun j hj => by have := (zfirst_some _ _ _ hj).2.1; omega)]
theorem m_busy {σ s : zSt} {J D q : Nat} (h : RI σ) (P : PLC σ J D q) (g : GO s σ) {i d t : Nat} {x : Nat → Nat} (hi : i ≤ J) (hd : d < 14) (ht : t < 10) (hx : ∀ k, k < i → x k ≤ 14) (T : ∀ k, k < i → gI s 1360 0 k = enc q (x k)) : f12_busy (nI t) (nI (q + d)) (nI i) s = some (nI (cdt (jtr σ) x d t i)) := by
  have J7 := P.2.1
  obtain ⟨b1, b2, b3⟩ := P.2.2.2.1
  unfold f12_busy
  have key : ∀ e k m, k + e = i → e < m → f12_busy_L6 (nI t) (nI (q + d)) (nI i) s m (nI (cdt (jtr σ) x d t k)) (nI k) = some (nI (cdt (jtr σ) x d t i)) := by
    intro e
    induction e with
    | zero =>
      intro k m hk hm
      obtain ⟨m, rfl⟩ : ∃ r, m = r + 1 := ⟨m - 1, by omega⟩
      obtain rfl : k = i := by omega
      rw [f12_busy_L6, if_pos (zn_rle _)]
    | succ e ih =>
      intro k m hk hm
      obtain ⟨m, rfl⟩ : ∃ r, m = r + 1 := ⟨m - 1, by omega⟩
      have hki : k < i := by omega
      obtain ⟨a1, a2, a3, a4, a5, a6, a7, a8, a9, -⟩ := j_st h P (show k < J by omega)
      have cb := cnt_le (fun j => decide (x j = d) && decide (jtr σ j = t)) k 0
      have cb : cdt (jtr σ) x d t k ≤ k := cb
      rw [← ih (k + 1) m (by omega) (by omega), f12_busy_L6, if_neg (zn_nle hki (by omega)), zix_s (show k < 7 by omega) (by decide), zlt_s, T k hki]
      rw [zlt_s, zix_s (show k < 7 by omega) (by decide), g.1 1346 (by decide) (by decide) (by decide), a1, zix_s a3 (by decide), g.1 1320 (by decide) (by decide) (by decide), a6, zix_s a7 (by decide), g.1 1314 (by decide) (by decide) (by decide), a8]
      have E : (enc q (x k) = nI (q + d)) = (x k = d) := by
        have h14 := hx k hki
        unfold enc
        by_cases c : x k = 14
        · rw [if_pos c]
          apply propext
          constructor
          · intro e
            exact absurd (show (0 : Int32) ≤ -1 by rw [e]; exact le0 (by omega)) (by decide)
          · intro e
            omega
        · rw [if_neg c, nI_inj (by omega) (by omega)]
          apply propext
          omega
      simp only [E, nI_inj (show jtr σ k < 2 ^ 31 by omega) (show t < 2 ^ 31 by omega), zlt_s, nI_suc k (show k + 1 < 2 ^ 31 by omega), i_add0]
      rw [cdt_s]
      by_cases c : x k = d
      · rw [if_pos c]
        by_cases c2 : jtr σ k = t
        · rw [if_pos c2, if_pos ⟨c, c2⟩, nI_suc _ (by omega)]
        · rw [if_neg c2, if_neg (fun hh => c2 hh.2)]
          rfl
      · rw [if_neg c, if_neg (fun hh => c hh.1)]
        rfl
  exact key i 0 zfuel (by omega) (zfuel_pos (by omega))
theorem jlt_m {σ : zSt} {q : Nat} (hq : q ≤ 9999) : ∀ k d d', d ≤ d' → d' ≤ 14 → jlt σ q k d = true → jlt σ q k d' = true := by
  intro k d d' h h14 e
  unfold jlt at e ⊢
  rw [Bool.not_eq_true', decide_eq_false_iff_not] at e ⊢
  intro hh
  apply e
  rw [i_le, nI_ti (by omega)] at hh ⊢
  omega
