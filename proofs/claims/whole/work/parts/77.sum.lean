/-! sums and brackets -/
def Oone (b : Nat → Int32) (n : Nat) (H : Nat → Int32) (σ : zSt) (o a : Nat) (v : Int32) (s : zSt) : Prop :=
  (∃ p a' o', p ≤ n ∧ a' + o ≤ n + 8 ∧ s = rdS σ (nI a') (nI p) o' ∧ ∀ dg t, Rf b n a o dg true t = some p) ∨
  ∃ a', a < a' ∧ a' ≤ n ∧ s = rdS σ (nI a') (-1) (nI o) ∧ (∀ dg t, ∃ dg', Rf b n a o dg true t = Rf b n a' o dg' false t ∧ dcd b n a' dg') ∧
    (nd b n a' → ∀ V S ct, ∃ V' S', Gf b n H a o V S ct 0 = Gf b n H a' o V' S' ct 0 ∧ (∀ j, j < o → V' j = V j ∧ S' j = S j) ∧ V' o = wk (V o) (S o) v)
def Osum (b : Nat → Int32) (n : Nat) (H : Nat → Int32) (σ : zSt) (o a : Nat) (v : Int32) (s : zSt) : Prop :=
  (∃ p a' o', p ≤ n ∧ a' + o ≤ n + 8 ∧ s = rdS σ (nI a') (nI p) o' ∧ ∀ dg t, Rf b n a o dg true t = some p) ∨
  ∃ a', a < a' ∧ a' ≤ n ∧ s = rdS σ (nI a') (-1) (nI o) ∧ zch 4 (bt b n a') = false ∧ (∀ dg t, ∃ dg', Rf b n a o dg true t = Rf b n a' o dg' false t ∧ dcd b n a' dg') ∧
    (nd b n a' → ∀ V S ct, V o = 0 → S o = 43 → ∃ V' S', Gf b n H a o V S ct 0 = Gf b n H a' o V' S' ct 0 ∧ (∀ j, j < o → V' j = V j ∧ S' j = S j) ∧ V' o = v)
def Oloop (b : Nat → Int32) (n : Nat) (H : Nat → Int32) (σ : zSt) (o a : Nat) (v1 v : Int32) (s : zSt) : Prop :=
  (∃ p a' o', p ≤ n ∧ a' + o ≤ n + 8 ∧ s = rdS σ (nI a') (nI p) o' ∧ ∀ dg t, Rf b n a o dg false t = some p) ∨
  ∃ a', a ≤ a' ∧ a' ≤ n ∧ s = rdS σ (nI a') (-1) (nI o) ∧ zch 4 (bt b n a') = false ∧ (∀ dg t, dcd b n a dg → ∃ dg', Rf b n a o dg false t = Rf b n a' o dg' false t ∧ dcd b n a' dg') ∧
    (nd b n a' → nd b n a ∧ ∀ V S ct, V o = v1 → ∃ V' S', Gf b n H a o V S ct 0 = Gf b n H a' o V' S' ct 0 ∧ (∀ j, j < o → V' j = V j ∧ S' j = S j) ∧ V' o = v)
theorem zx4_neg {c : Int32} : (zidx (zsbyt.getD 4 []) c 0 < 0) ↔ zch 4 c = false := by
  rcases zx_or (show 4 < 5 by decide) c with ⟨e, j, _, hj, e2⟩ | ⟨e, e2⟩
  · rw [e, e2]
    exact ⟨fun h => absurd h (nn0 (by omega)), fun h => by cases h⟩
  · rw [e, e2]
    exact ⟨fun _ => rfl, fun _ => by decide⟩
theorem bt_z4 {b : Nat → Int32} {n a : Nat} (h : zch 4 (bt b n a) = true) : a < n := by
  apply Nat.lt_of_not_le
  intro c
  rw [bt_ge c] at h
  exact absurd h (by decide +kernel)
theorem bt_eq {b : Nat → Int32} {n a : Nat} {c : Int32} (h : bt b n a = c) (h0 : ¬ c = 0) : a < n ∧ b a = c := by
  by_cases q : n ≤ a
  · rw [bt_ge q] at h
    exact absurd h.symm h0
  · rw [bt_lt (by omega)] at h
    exact ⟨by omega, h⟩
theorem l_sgn {b : Nat → Int32} {n : Nat} {H : Nat → Int32} {σ : zSt} {o : Nat} (B : RB σ b n) (ho : o ≤ 6) (one : zSt → Option (Int32 × zSt)) (Hone : ∀ a, a ≤ n → ∃ v s, one (rdS σ (nI a) (-1) (nI o)) = some (v, s) ∧ Oone b n H σ o a v s) : ∀ q a v1 m, a ≤ n → n - a < q → q < m → ∃ v s, b12_sum_L23 one m v1 (zidx (zsbyt.getD 4 []) (bt b n a) 0) (rdS σ (nI a) (-1) (nI o)) = some (v, s) ∧ Oloop b n H σ o a v1 v s := by
  have hn := B.2.1
  intro q
  induction q with
  | zero => intro a v1 m _ h; exact absurd h (Nat.not_lt_zero _)
  | succ q ih =>
    intro a v1 m ha hq hm
    obtain ⟨m, rfl⟩ : ∃ r, m = r + 1 := ⟨m - 1, by omega⟩
    by_cases z : zch 4 (bt b n a) = true
    · have hl := bt_z4 z
      have z' := z
      rw [bt_lt hl] at z'
      have nda : nd b n a := (sg_no z).1
      obtain ⟨r, s, e1, e2⟩ := Hone (a + 1) (by omega)
      have u : ∀ q', b12_sum_L23 one (m + 1) v1 (zidx (zsbyt.getD 4 []) (bt b n a) 0) (rdS σ (nI a) (-1) (nI o)) = q' ↔ (zc1 (f12_byteAt s) fun r11 => zc1 (f12_placeIn r11 43 45 42 47 (-9) s) fun r12 => b12_sum_L23 one m (wk v1 (bt b n a) r) r12 s) = q' := fun q' => by
        rw [b12_sum_L23, rdS_69, if_neg (by decide), if_neg (by rw [zx4_neg, z]; decide), rdS_67, nI_suc a (by omega), rdS_p67, zlt_s, e1, zc2_s, zlt_s]
        dsimp only
        rw [m_op z v1 r (fun a8 => zc1 (f12_byteAt s) fun r11 => zc1 (f12_placeIn r11 43 45 42 47 (-9) s) fun r12 => b12_sum_L23 one m a8 r12 s)]
      rcases e2 with ⟨p, a', o', h1, h2, h3, h4⟩ | ⟨a', h1, h2, h3, h4, h5⟩
      · refine ⟨wk v1 (bt b n a) r, s, ?_, Or.inl ⟨p, a', o', h1, h2, h3, fun dg t => by rw [R_sign hl z', h4]⟩⟩
        rw [u, h3, m_byteAt B (by omega), zc1_s, plc_4 (bt_r B _), zc1_s]
        obtain ⟨m, rfl⟩ : ∃ r, m = r + 1 := ⟨m - 1, by omega⟩
        rw [b12_sum_L23, rdS_69, if_pos (show (0 : Int32) ≤ nI p by rw [i_le, nI_ti (by omega)]; simp only [Int32.reduceToInt]; omega)]
      · obtain ⟨v, s', f1, f2⟩ := ih a' (wk v1 (bt b n a) r) m h2 (by omega) (by omega)
        refine ⟨v, s', ?_, ?_⟩
        · rw [u, h3, m_byteAt B (by omega), zc1_s, plc_4 (bt_r B _), zc1_s, f1]
        · rcases f2 with ⟨p, a2, o2, g1, g2, g3, g4⟩ | ⟨a2, g1, g2, g3, g4, g5, g6⟩
          · refine Or.inl ⟨p, a2, o2, g1, g2, g3, fun dg t => ?_⟩
            obtain ⟨dg', k1, k2⟩ := h4 dg t
            rw [R_sign hl z', k1, g4]
          · refine Or.inr ⟨a2, by omega, g2, g3, g4, fun dg t _ => ?_, fun hnd => ⟨nda, fun V S ct hV => ?_⟩⟩
            · obtain ⟨dg', k1, k2⟩ := h4 dg t
              obtain ⟨dg2, k3, k4⟩ := g5 dg' t k2
              exact ⟨dg2, by rw [R_sign hl z', k1, k3], k4⟩
            · obtain ⟨hnd1, hG⟩ := g6 hnd
              obtain ⟨V1, S1, k1, k2, k3⟩ := h5 hnd1 V (ups S o (b a)) ct
              rw [ups_at, hV, ← bt_lt (b := b) hl] at k3
              obtain ⟨V2, S2, k4, k5, k6⟩ := hG V1 S1 ct k3
              refine ⟨V2, S2, by rw [G_sign hl z', k1, k4], fun j hj => ?_, k6⟩
              obtain ⟨x1, x2⟩ := k5 j hj
              obtain ⟨x3, x4⟩ := k2 j hj
              rw [ups_ne (by omega)] at x4
              exact ⟨x1.trans x3, x2.trans x4⟩
    · have z0 : zch 4 (bt b n a) = false := by
        cases e : zch 4 (bt b n a)
        · rfl
        · exact absurd e z
      refine ⟨v1, rdS σ (nI a) (-1) (nI o), ?_, Or.inr ⟨a, Nat.le_refl _, ha, rfl, z0, fun dg t hd => ⟨dg, rfl, hd⟩, fun hnd => ⟨hnd, fun V S ct hV => ⟨V, S, rfl, fun j _ => ⟨rfl, rfl⟩, hV⟩⟩⟩⟩
      rw [b12_sum_L23, rdS_69, if_neg (by decide), if_pos (zx4_neg.mpr z0)]
theorem l_sum1 {b : Nat → Int32} {n : Nat} {H : Nat → Int32} {σ : zSt} {o : Nat} (B : RB σ b n) (ho : o ≤ 6) (one : zSt → Option (Int32 × zSt)) (Hone : ∀ a, a ≤ n → ∃ v s, one (rdS σ (nI a) (-1) (nI o)) = some (v, s) ∧ Oone b n H σ o a v s) : ∀ a, a ≤ n → ∃ v s, b12_sum one (rdS σ (nI a) (-1) (nI o)) = some (v, s) ∧ Osum b n H σ o a v s := by
  intro a ha
  have hn := B.2.1
  obtain ⟨r, s, e1, e2⟩ := Hone a ha
  unfold b12_sum
  rcases e2 with ⟨p, a', o', h1, h2, h3, h4⟩ | ⟨a', h1, h2, h3, h4, h5⟩
  · refine ⟨r, s, ?_, Or.inl ⟨p, a', o', h1, h2, h3, h4⟩⟩
    rw [e1, zc2_s]
    dsimp only
    rw [h3, m_byteAt B (by omega), zc1_s, plc_4 (bt_r B _), zc1_s, show zfuel = 999999 + 1 from rfl, b12_sum_L23, rdS_69, if_pos (show (0 : Int32) ≤ nI p by rw [i_le, nI_ti (by omega)]; simp only [Int32.reduceToInt]; omega)]
  · obtain ⟨v, s', f1, f2⟩ := l_sgn B ho one Hone (n - a' + 1) a' r zfuel h2 (by omega) (zfuel_pos (by omega))
    refine ⟨v, s', ?_, ?_⟩
    · rw [e1, zc2_s]
      dsimp only
      rw [h3, m_byteAt B (by omega), zc1_s, plc_4 (bt_r B _), zc1_s, f1]
    · rcases f2 with ⟨p, a2, o2, g1, g2, g3, g4⟩ | ⟨a2, g1, g2, g3, g4, g5, g6⟩
      · refine Or.inl ⟨p, a2, o2, g1, g2, g3, fun dg t => ?_⟩
        obtain ⟨dg', k1, k2⟩ := h4 dg t
        rw [k1, g4]
      · refine Or.inr ⟨a2, by omega, g2, g3, g4, fun dg t => ?_, fun hnd V S ct hV hS => ?_⟩
        · obtain ⟨dg', k1, k2⟩ := h4 dg t
          obtain ⟨dg2, k3, k4⟩ := g5 dg' t k2
          exact ⟨dg2, by rw [k1, k3], k4⟩
        · obtain ⟨hnd1, hG⟩ := g6 hnd
          obtain ⟨V1, S1, k1, k2, k3⟩ := h5 hnd1 V S ct
          rw [hV, hS, show wk 0 43 r = r from Int32.zero_add r] at k3
          obtain ⟨V2, S2, k4, k5, k6⟩ := hG V1 S1 ct k3
          refine ⟨V2, S2, by rw [k1, k4], fun j hj => ?_, k6⟩
          obtain ⟨x1, x2⟩ := k5 j hj
          obtain ⟨x3, x4⟩ := k2 j hj
          exact ⟨x1.trans x3, x2.trans x4⟩
/-- a part: a name, a number, or a sum in brackets -/
theorem l_one {b : Nat → Int32} {n : Nat} {H : Nat → Int32} {σ : zSt} {o : Nat} (B : RB σ b n) (hH : ∀ j, j < 5 → gI σ 1377 0 j = H j) (ho : o ≤ 6) (sum : zSt → Option (Int32 × zSt)) (Hsum : o < 6 → ∀ a, a ≤ n → ∃ v s, sum (rdS σ (nI a) (-1) (nI (o + 1))) = some (v, s) ∧ Osum b n H σ (o + 1) a v s) : ∀ a, a ≤ n → ∃ v s, b12_one sum (rdS σ (nI a) (-1) (nI o)) = some (v, s) ∧ Oone b n H σ o a v s := by
  intro a ha
  have hn := B.2.1
  unfold b12_one
  rw [rdS_69, if_pos (by decide), m_byteAt B (by omega), zc1_s, rdS_70]
  by_cases c40 : bt b n a = 40
  · obtain ⟨hl, hb⟩ := bt_eq c40 (by decide)
    rw [if_pos c40]
    by_cases h6 : o = 6
    · rw [h6, if_pos (show nI 6 = 6 from rfl), m_wrong, zc2_s]
      refine ⟨0, _, rfl, Or.inl ⟨a, a, nI 6, ha, by omega, rfl, fun dg t => ?_⟩⟩
      rw [Rf_s hl, if_pos rfl, if_neg (by omega), hb, if_neg (by decide +kernel)]
    · rw [if_neg (show ¬ nI o = 6 by show ¬ _ = nI 6; rw [nI_inj (by omega) (by omega)]; exact h6), nI_suc o (by omega), rdS_p70, zlt_s, rdS_67, nI_suc a (by omega), rdS_p67, zlt_s]
      obtain ⟨r, s, e1, e2⟩ := Hsum (by omega) (a + 1) (by omega)
      have RA : ∀ dg t, Rf b n a o dg true t = Rf b n (a + 1) (o + 1) dg true t := fun dg t => by
        rw [Rf_s hl, if_pos rfl, if_pos ⟨hb, by omega⟩]
      have GA : ∀ V S ct, Gf b n H a o V S ct 0 = Gf b n H (a + 1) (o + 1) (ups V (o + 1) 0) (ups S (o + 1) 43) ct 0 := fun V S ct => by
        rw [Gf_s hl, hb, if_neg (by decide +kernel), if_neg (by decide), if_neg (by decide), if_neg (by decide +kernel), if_pos ⟨rfl, by omega⟩]
      rw [e1, zc2_s]
      dsimp only
      rcases e2 with ⟨p, a', o', h1, h2, h3, h4⟩ | ⟨a', h1, h2, h3, h4, h5, h6'⟩
      · rw [h3, zlt_s, rdS_69, if_pos (show (0 : Int32) ≤ nI p by rw [i_le, nI_ti (by omega)]; simp only [Int32.reduceToInt]; omega), rdS_67, nI_suc a' (by omega), rdS_p67, zlt_s, rdS_70, rdS_p70, zlt_s]
        exact ⟨r, _, rfl, Or.inl ⟨p, a' + 1, o' - 1, h1, by omega, rfl, fun dg t => by rw [RA, h4]⟩⟩
      · rw [h3, zlt_s, rdS_69, if_neg (by decide), m_byteAt B (by omega), zc1_s]
        by_cases c41 : bt b n a' = 41
        · obtain ⟨hl', hb'⟩ := bt_eq c41 (by decide)
          rw [if_pos c41, rdS_67, nI_suc a' (by omega), rdS_p67, zlt_s, rdS_70, show nI (o + 1) - 1 = nI o from sub1' (o + 1) (by omega), rdS_p70, zlt_s]
          refine ⟨r, _, rfl, Or.inr ⟨a' + 1, by omega, by omega, rfl, fun dg t => ?_, fun _ V S ct => ?_⟩⟩
          · obtain ⟨dg', k1, k2⟩ := h5 dg t
            refine ⟨0, ?_, fun _ h => absurd h.1 (Nat.lt_irrefl 0)⟩
            rw [RA, k1, Rf_s hl', if_neg (by decide), hb', if_neg (show ¬ (dig 41 = true ∧ 0 < dg' ∧ dg' < 5) from fun h => absurd h.1 (by decide)), if_pos ⟨rfl, by omega⟩]
            rfl
          · obtain ⟨V1, S1, k1, k2, k3⟩ := h6' (show dig (bt b n a') = false by rw [c41]; decide) (ups V (o + 1) 0) (ups S (o + 1) 43) ct ups_at ups_at
            refine ⟨ups V1 o (wk (V1 o) (S1 o) (V1 (o + 1))), S1, ?_, fun j hj => ?_, ?_⟩
            · rw [GA, k1, Gf_s hl', hb', if_neg (by decide), if_neg (by decide), if_neg (by decide), if_neg (by decide +kernel), if_neg (by intro h; exact absurd h.1 (by decide)), if_pos ⟨rfl, by omega⟩]
              rfl
            · obtain ⟨x1, x2⟩ := k2 j (by omega)
              rw [ups_ne (by omega)] at x1 x2
              exact ⟨(ups_ne (by omega)).trans x1, x2⟩
            · obtain ⟨x1, x2⟩ := k2 o (by omega)
              rw [ups_ne (by omega)] at x1 x2
              rw [ups_at, x1, x2, k3]
        · rw [if_neg c41, m_wrong, zc2_s]
          refine ⟨0, _, rfl, Or.inl ⟨a', a', nI (o + 1), h2, by omega, rfl, fun dg t => ?_⟩⟩
          obtain ⟨dg', k1, k2⟩ := h5 dg t
          rw [RA, k1]
          by_cases hl' : a' < n
          · unfold dcd at k2
            rw [bt_lt hl'] at k2 c41 h4
            rw [Rf_s hl', if_neg (by decide), if_neg (fun h => k2 h.1 h.2), if_neg (fun h => c41 h.1), if_neg (by
              rintro (h | h)
              · rw [h4] at h; cases h
              · omega)]
          · obtain rfl : a' = n := by omega
            rw [Rf_e, if_pos (Or.inr (by omega))]
  · rw [if_neg c40, plc_3, zc1_s]
    rcases zx_or (show 3 < 5 by decide) (bt b n a) with ⟨e, j, hj, hj9, e2⟩ | ⟨e, e2⟩
    · have hl : a < n := Nat.lt_of_not_le fun h => by
        rw [bt_ge h] at e
        exact absurd e (by decide +kernel)
      have hb := bt_lt (b := b) hl
      have e0 := e
      rw [hb] at e0 e2
      obtain ⟨s1, s2, s3, s4, s5, s6⟩ := nm_no e0
      have hj5 : j < 5 := hj
      rw [hb, e2, if_neg (nn0 (by omega)), rdS_67, nI_suc a (by omega), rdS_p67, zlt_s, zix_s hj5 (by decide), rdS_t (by decide), hH j hj5]
      refine ⟨H j, _, rfl, Or.inr ⟨a + 1, by omega, by omega, rfl, fun dg t => ?_, fun _ V S ct => ?_⟩⟩
      · refine ⟨0, ?_, fun _ h => absurd h.1 (Nat.lt_irrefl 0)⟩
        rw [Rf_s hl, if_pos rfl, if_neg (fun h => s2 h.1), if_pos (Or.inr e0), s1]
        rfl
      · refine ⟨ups V o (wk (V o) (S o) (H j)), S, ?_, fun i hi => ⟨ups_ne (by omega), rfl⟩, ups_at⟩
        rw [Gf_s hl, if_neg (by rw [s1]; decide), if_neg s4, if_neg s5, if_pos e0, e2]
        unfold nT
        rw [nI_ti (by omega)]
        rfl
    · rw [e2, if_pos (by decide)]
      have mf := m_figure (most := 5) B (by decide) (a := a) (by omega) (nI o)
      rw [show nI 5 = 5 from rfl] at mf
      rw [mf]
      obtain ⟨d1, d2, d3, d4⟩ := dct_p (b := b) (n := n) 5 a
      by_cases c0 : dct b n 5 a = 0
      · rw [if_pos c0, zc2_s]
        refine ⟨0, _, rfl, Or.inl ⟨a, a, nI o, ha, by omega, rfl, fun dg t => ?_⟩⟩
        rw [c0] at d4
        have d4 := d4 (by omega)
        rw [Nat.add_zero] at d4
        by_cases hl : a < n
        · rw [bt_lt hl] at d4 e c40
          rw [Rf_s hl, if_pos rfl, if_neg (fun h => c40 h.1), if_neg (by rw [d4, e]; simp)]
        · obtain rfl : a = n := by omega
          rw [Rf_e, if_pos (Or.inl rfl)]
      · rw [if_neg c0, zc2_s]
        have g0 := d3 0 (by omega)
        rw [Nat.add_zero] at g0
        have hl := dig_lt g0
        have g0' := g0
        rw [bt_lt hl] at g0'
        have dn := dg_no g0'
        refine ⟨_, _, rfl, Or.inr ⟨a + dct b n 5 a, by omega, d2 ha, rfl, fun dg t => ⟨dct b n 5 a, ?_, fun h5 h => ?_⟩, fun hnd V S ct => ⟨ups V o (wk (V o) (S o) (nvl b (dct b n 5 a) a 0)), S, ?_, fun i hi => ⟨ups_ne (by omega), rfl⟩, ups_at⟩⟩⟩
        · have := Rdig (b := b) (n := n) (o := o) (t := t) (dct b n 5 a - 1) (a + 1) 1 (fun j hj => by rw [show a + 1 + j = a + (j + 1) by omega]; exact d3 (j + 1) (by omega)) (by omega) (by omega)
          rw [Rf_s hl, if_pos rfl, if_neg (fun h => dn.2.1 h.1), if_pos (Or.inl g0'), if_pos g0', this, show a + 1 + (dct b n 5 a - 1) = a + dct b n 5 a by omega, show 1 + (dct b n 5 a - 1) = dct b n 5 a by omega]
        · have := d4 (by omega)
          rw [this] at h5
          cases h5
        · exact Gdig (dct b n 5 a) a 0 (by omega) d3 hnd
theorem g_so {b : Nat → Int32} {n : Nat} {H : Nat → Int32} {σ : zSt} (B : RB σ b n) (hH : ∀ j, j < 5 → gI σ 1377 0 j = H j) : ∀ q o d, o + q = 6 → 2 * q + 2 ≤ d → ∀ a, a ≤ n → ∃ v s, (g12_so d).1 (rdS σ (nI a) (-1) (nI o)) = some (v, s) ∧ Osum b n H σ o a v s := by
  intro q
  induction q with
  | zero =>
    intro o d ho hd
    obtain ⟨d, rfl⟩ : ∃ e, d = e + 2 := ⟨d - 2, by omega⟩
    exact l_sum1 B (by omega) (g12_so (d + 1)).2 (l_one B hH (by omega) (g12_so d).1 (fun h => by omega))
  | succ q ih =>
    intro o d ho hd
    obtain ⟨d, rfl⟩ : ∃ e, d = e + 2 := ⟨d - 2, by omega⟩
    exact l_sum1 B (by omega) (g12_so (d + 1)).2 (l_one B hH (by omega) (g12_so d).1 (fun _ => ih (o + 1) d (by omega) (by omega)))
theorem m_sum {b : Nat → Int32} {n : Nat} {H : Nat → Int32} {σ : zSt} (B : RB σ b n) (hH : ∀ j, j < 5 → gI σ 1377 0 j = H j) {a : Nat} (ha : a ≤ n) : ∃ v s, f12_sum (rdS σ (nI a) (-1) 0) = some (v, s) ∧ Osum b n H σ 0 a v s := g_so B hH 6 0 20 (by omega) (by omega) a ha
