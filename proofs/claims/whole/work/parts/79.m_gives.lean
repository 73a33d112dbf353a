/-! the class works a freeing out -/
/-- the class's picture: depth, values, signs -/
def GS (s : zSt) (b : Nat → Int32) (n : Nat) (H : Nat → Int32) (h1 o : Nat) (V S : Nat → Int32) : Prop := gZ s 1100 h1 = n ∧ (∀ j, j < n → gI s 1100 h1 j = b j) ∧ (∀ j, j < 5 → gI s 300 0 j = H j) ∧ gI s 2 0 3 = nI o ∧ o ≤ 6 ∧ ∀ j, j < 7 → gI s 301 0 j = V j ∧ gI s 302 0 j = S j
theorem GS_V {s : zSt} {b : Nat → Int32} {n : Nat} {H : Nat → Int32} {h1 o : Nat} {V S : Nat → Int32} (h : GS s b n H h1 o V S) (k : Nat) (v : Int32) : GS (pI s 301 0 k v) b n H h1 o (ups V k v) S := by
  obtain ⟨g1, g2, g3, g4, g5, g6⟩ := h
  refine ⟨g1, fun j hj => by rw [gI_ne (by decide)]; exact g2 j hj, fun j hj => by rw [gI_ne (by decide)]; exact g3 j hj, by rw [gI_ne (by decide)]; exact g4, g5, fun j hj => ⟨?_, by rw [gI_ne (by decide)]; exact (g6 j hj).2⟩⟩
  rw [gI_pI]
  by_cases c : j = k
  · rw [if_pos ⟨rfl, rfl, c⟩, c, ups_at]
  · rw [if_neg (fun e => c e.2.2), ups_ne c]
    exact (g6 j hj).1
theorem GS_S {s : zSt} {b : Nat → Int32} {n : Nat} {H : Nat → Int32} {h1 o : Nat} {V S : Nat → Int32} (h : GS s b n H h1 o V S) (k : Nat) (v : Int32) : GS (pI s 302 0 k v) b n H h1 o V (ups S k v) := by
  obtain ⟨g1, g2, g3, g4, g5, g6⟩ := h
  refine ⟨g1, fun j hj => by rw [gI_ne (by decide)]; exact g2 j hj, fun j hj => by rw [gI_ne (by decide)]; exact g3 j hj, by rw [gI_ne (by decide)]; exact g4, g5, fun j hj => ⟨by rw [gI_ne (by decide)]; exact (g6 j hj).1, ?_⟩⟩
  rw [gI_pI]
  by_cases c : j = k
  · rw [if_pos ⟨rfl, rfl, c⟩, c, ups_at]
  · rw [if_neg (fun e => c e.2.2), ups_ne c]
    exact (g6 j hj).2
theorem GS_o {s : zSt} {b : Nat → Int32} {n : Nat} {H : Nat → Int32} {h1 o : Nat} {V S : Nat → Int32} (h : GS s b n H h1 o V S) (o' : Nat) (ho : o' ≤ 6) : GS (pI s 2 0 3 (nI o')) b n H h1 o' V S := by
  obtain ⟨g1, g2, g3, g4, g5, g6⟩ := h
  exact ⟨g1, fun j hj => by rw [gI_ne (by decide)]; exact g2 j hj, fun j hj => by rw [gI_ne (by decide)]; exact g3 j hj, gI_at', ho, fun j hj => ⟨by rw [gI_ne (by decide)]; exact (g6 j hj).1, by rw [gI_ne (by decide)]; exact (g6 j hj).2⟩⟩
theorem in7 {o : Nat} (ho : o ≤ 6) (s : zSt) : f11_isIn (nI o) (nI 7) s = some 1 := e_at_in (show o < 7 by omega) (Nat.le_refl 7) (by decide)
theorem c_level {s : zSt} {b : Nat → Int32} {n : Nat} {H : Nat → Int32} {h1 o : Nat} {V S : Nat → Int32} (h : GS s b n H h1 o V S) : f2_startLevel s = some ((), pI (pI s 301 0 o 0) 302 0 o 43) := by
  have g4 := h.2.2.2.1
  have g5 := h.2.2.2.2.1
  unfold f2_startLevel
  rw [g4, in7 g5, zc1_s, if_neg (by decide), zix_s (show o < 7 by omega) (by decide), zlt_s, gI_ne (show 2 ≠ 301 by decide), g4, zix_s (show o < 7 by omega) (by decide), zlt_s]
theorem c_part {s : zSt} {b : Nat → Int32} {n : Nat} {H : Nat → Int32} {h1 o : Nat} {V S : Nat → Int32} (h : GS s b n H h1 o V S) : ∃ s', f2_startPart s = some ((), s') ∧ Ch s' s ∧ GS s' b n H h1 0 (ups V 0 0) (ups S 0 43) := by
  have h0 := GS_o h 0 (by omega)
  refine ⟨_, ?_, ((Ch.rf.I rfl).I rfl).I rfl, GS_S (GS_V h0 0 0) 0 43⟩
  unfold f2_startPart
  have := c_level h0
  rw [show nI 0 = 0 from rfl] at this
  rw [zlt_s, this, zc2_s]
  rfl
theorem c_work (a c x : Int32) (s : zSt) : f2_workOut a c x s = some (wk a c x) := by
  unfold f2_workOut wk znz
  by_cases h1 : c = 42
  · rw [if_pos h1, if_pos h1]
  · rw [if_neg h1, if_neg h1]
    by_cases h2 : c = 43
    · rw [if_pos h2, if_pos h2]
    · rw [if_neg h2, if_neg h2]
      by_cases h3 : c = 45
      · rw [if_pos h3, if_pos h3]
      · rw [if_neg h3, if_neg h3]
        by_cases h4 : x = 0
        · rw [if_pos h4, if_pos h4]
        · rw [if_neg h4, if_neg h4, if_neg h4]
theorem c_join {s : zSt} {b : Nat → Int32} {n : Nat} {H : Nat → Int32} {h1 o : Nat} {V S : Nat → Int32} (h : GS s b n H h1 o V S) (x : Int32) : ∃ s', f2_join x s = some ((), s') ∧ Ch s' s ∧ GS s' b n H h1 o (ups V o (wk (V o) (S o) x)) S := by
  have g4 := h.2.2.2.1
  have g5 := h.2.2.2.2.1
  obtain ⟨g6, g7⟩ := h.2.2.2.2.2 o (by omega)
  refine ⟨_, ?_, Ch.rf.I rfl, GS_V h o _⟩
  unfold f2_join
  rw [g4, in7 g5, zc1_s, if_neg (by decide), zix_s (show o < 7 by omega) (by decide), zix_s (show o < 7 by omega) (by decide), g6, g7, c_work, zc1_s, zix_s (show o < 7 by omega) (by decide), zlt_s]
theorem c_step {s : zSt} {b : Nat → Int32} {n : Nat} {H : Nat → Int32} {h1 o : Nat} {V S : Nat → Int32} (h : GS s b n H h1 o V S) {c : Int32} (hc : btw 0 c 255) : ∃ s' o' V' S', f2_step c s = some ((), s') ∧ Ch s' s ∧ GS s' b n H h1 o' V' S' ∧ ∀ (d i : Nat) (ct : Bool) (x : Int32),
    (if zch 3 c = true then frG b n H d i o (ups V o (wk (V o) (S o) (H (nT (zidx (zsbyt.getD 3 []) c 0))))) S ct x
    else if c = 40 ∧ o < 6 then frG b n H d i (o + 1) (ups V (o + 1) 0) (ups S (o + 1) 43) ct x
    else if c = 41 ∧ 0 < o then frG b n H d i (o - 1) (ups V (o - 1) (wk (V (o - 1)) (S (o - 1)) (V o))) S ct x
    else frG b n H d i o V (ups S o c) ct x) = frG b n H d i o' V' S' ct x := by
  have h' := h
  obtain ⟨g1, g2, g3, g4, g5, g6⟩ := h
  unfold f2_step
  rw [e_idx hc, zc1_s]
  rcases zx_or (show 3 < 5 by decide) c with ⟨e, j, hj, hj9, e2⟩ | ⟨e, e2⟩
  · have hj5 : j < 5 := hj
    obtain ⟨s', q1, q2, q3⟩ := c_join h' (H j)
    refine ⟨s', o, _, _, ?_, q2, q3, fun d i ct x => ?_⟩
    · rw [e2, show f11_isIn (nI j) (nI 5) s = some 1 from e_at_in hj5 (Nat.le_refl 5) (by decide), zc1_s, if_neg (by decide), zix_s hj5 (by decide), g3 j hj5, q1, zc2_s]
    · have nj : nT (nI j) = j := by unfold nT; rw [nI_ti (by omega)]; rfl
      rw [if_pos e, e2, nj]
  · have o6 : ((6 : Int32) ≤ nI o) = (6 ≤ o) := by
      rw [i_le, nI_ti (by omega)]
      simp only [Int32.reduceToInt]
      apply propext; omega
    have o6' : ((6 : Int32) < nI o) = False := by
      rw [i_lt, nI_ti (by omega)]
      simp only [Int32.reduceToInt]
      apply eq_false; omega
    have o0 : (nI o ≤ 0) = (o = 0) := by
      rw [i_le, nI_ti (by omega)]
      simp only [Int32.reduceToInt]
      apply propext; omega
    rw [e2, show f11_isIn (-1) (nI 5) s = some 0 from e_at_out (n := 5) (by decide) (by decide), zc1_s, if_pos rfl, zlt_s, zlt_s, g4, in7 g5, zc1_s, if_neg (show ¬ (1 : Int32) = 0 by decide), zix_s (show o < 7 by omega) (by decide), zlt_s]
    simp only [o6, o6', o0, if_false]
    by_cases q1 : c = 40 ∧ o < 6
    · rw [if_pos q1.1, if_neg (by omega), nI_suc o (by omega), zlt_s, c_level (GS_o h' (o + 1) (by omega)), zc2_s]
      refine ⟨_, o + 1, _, _, rfl, ((Ch.rf.I rfl).I rfl).I rfl, GS_S (GS_V (GS_o h' (o + 1) (by omega)) (o + 1) 0) (o + 1) 43, fun d i ct x => ?_⟩
      rw [if_neg (by rw [e]; decide), if_pos q1]
    · rw [ite2 (show ¬ (c = 40 ∧ ¬ 6 ≤ o) by intro hh; exact q1 ⟨hh.1, by omega⟩)]
      by_cases q2 : c = 41 ∧ 0 < o
      · have h2 := GS_o h' (o - 1) (by omega)
        obtain ⟨s', r1, r2, r3⟩ := c_join h2 (V o)
        refine ⟨s', o - 1, _, _, ?_, r2.tr (Ch.rf.I rfl), r3, fun d i ct x => ?_⟩
        · rw [if_pos q2.1, if_neg (by omega), show nI o - 1 = nI (o - 1) from sub1' o (by omega), zlt_s, gI_at, nI_suc (o - 1) (by omega), show o - 1 + 1 = o by omega, zix_s (show o < 7 by omega) (by decide), gI_ne (show 301 ≠ 2 by decide), (g6 o (by omega)).1, r1, zc2_s]
        · rw [if_neg (by rw [e]; decide), if_neg q1, if_pos q2]
      · refine ⟨_, o, _, _, ?_, Ch.rf.I rfl, GS_S h' o c, fun d i ct x => ?_⟩
        · by_cases q3 : c = 41
          · rw [if_pos q3, if_pos (show o = 0 by
              have : ¬ 0 < o := fun hh => q2 ⟨q3, hh⟩
              omega)]
          · rw [if_neg q3]
        · rw [if_neg (by rw [e]; decide), if_neg q1, if_neg q2]
theorem l_gives {b : Nat → Int32} {n : Nat} {H : Nat → Int32} {h1 : Nat} (hn : n ≤ 160) (hb : ∀ j, j < n → btw 0 (b j) 255) {K1 : zSt → Option (Int32 × zSt)} {K2 : Int32 → zSt → Option (Int32 × zSt)} (hK1 : ∀ s, K1 s = some (gI s 301 0 0, s)) (hK2 : ∀ (ct : Bool) s, K2 (b01 ct) s = some (if ct = true then gI s 301 0 0 else 0, s)) : ∀ d i o V S ct x m s, i + d = n → d < m → GS s b n H h1 o V S → ∃ s', f2_gives_L11 h1 K1 K2 m (b01 ct) x (nI i) s = some (frG b n H d i o V S ct x, s') ∧ Ch s' s := by
  intro d
  induction d with
  | zero =>
    intro i o V S ct x m s hi hm G
    obtain ⟨m, rfl⟩ : ∃ q, m = q + 1 := ⟨m - 1, by omega⟩
    obtain rfl : i = n := by omega
    refine ⟨s, ?_, Ch.rf⟩
    rw [f2_gives_L11]
    unfold f10_length
    rw [G.1, zc1_s, if_pos (zn_rle _), hK2, (G.2.2.2.2.2 0 (by decide)).1, frG]
  | succ d ih =>
    intro i o V S ct x m s hi hm G
    obtain ⟨m, rfl⟩ : ∃ q, m = q + 1 := ⟨m - 1, by omega⟩
    have hl : i < n := by omega
    have hbi := hb i hl
    have at1 : ∀ j, j < n → f10_at h1 (nI j) s = some (b j) := fun j hj => by
      unfold f10_at
      rw [zlt_s, if_neg (nn0 (by omega)), G.1, if_neg (zn_nle hj (by omega)), zix_s hj (by omega), G.2.1 j hj]
    have at2 : f10_at h1 (nI (i + 1)) s = some (if i + 1 < n then b (i + 1) else -1) := by
      by_cases c : i + 1 < n
      · rw [at1 _ c, if_pos c]
      · unfold f10_at
        rw [zlt_s, if_neg (nn0 (by omega)), G.1, if_pos (show nI n ≤ nI (i + 1) by rw [i_le, nI_ti (by omega), nI_ti (by omega)]; omega), if_neg c]
    have dg2 : dig (if i + 1 < n then b (i + 1) else -1) = dig (bt b n (i + 1)) := by
      by_cases c : i + 1 < n
      · rw [if_pos c, bt_lt c]
      · rw [if_neg c, bt_ge (by omega)]
        decide
    rw [f2_gives_L11]
    unfold f10_length
    rw [G.1, zc1_s, if_neg (zn_nle hl (by omega)), at1 i hl, zc1_s, e_isDigit, zc1_s, zlt_s, frG]
    by_cases c0 : dig (b i) = true
    · rw [if_neg (show ¬ b01 (dig (b i)) = 0 by rw [c0]; decide), if_pos c0, zlt_s, nI_suc i (by omega), at2, zc1_s, e_isDigit, zc1_s, dg2]
      by_cases c1 : dig (bt b n (i + 1)) = true
      · rw [if_neg (show ¬ b01 (dig (bt b n (i + 1))) = 0 by rw [c1]; decide), if_pos c1]
        dsimp only
        rw [zlt_s]
        exact ih (i + 1) o V S ct _ m s (by omega) (by omega) G
      · have c1' : dig (bt b n (i + 1)) = false := by
          cases e : dig (bt b n (i + 1))
          · rfl
          · exact absurd e c1
        obtain ⟨s1, q1, q2, q3⟩ := c_join G (x * 10 + (b i - 48))
        obtain ⟨s', r1, r2⟩ := ih (i + 1) o _ S ct 0 m s1 (by omega) (by omega) q3
        rw [if_pos (show b01 (dig (bt b n (i + 1))) = 0 by rw [c1']; rfl), if_neg c1, q1, zc2_s]
        dsimp only
        rw [zlt_s]
        exact ⟨s', r1, r2.tr q2⟩
    · have c0' : dig (b i) = false := by
        cases e : dig (b i)
        · rfl
        · exact absurd e c0
      rw [if_pos (show b01 (dig (b i)) = 0 by rw [c0']; rfl), if_neg c0]
      by_cases c1 : b i = 58
      · rw [if_pos c1, if_pos c1]
        obtain ⟨s1, q1, q2, q3⟩ := c_part G
        obtain ⟨s', r1, r2⟩ := ih (i + 1) 0 _ _ (!decide (V 0 = 0)) x m s1 (by omega) (by omega) q3
        refine ⟨s', ?_, r2.tr q2⟩
        rw [show ∀ kk : Nat → Option (Int32 × zSt), zix 0 7 kk = kk 0 from fun kk => zix_s (i := 0) (by decide) (by decide) kk, (G.2.2.2.2.2 0 (by decide)).1, zlt_s, q1, zc2_s]
        dsimp only
        rw [nI_suc i (by omega), zlt_s, show (if V 0 = 0 then (0 : Int32) else 1) = b01 (!decide (V 0 = 0)) by
          by_cases h : V 0 = 0
          · rw [if_pos h, decide_eq_true h]; rfl
          · rw [if_neg h, decide_eq_false h]; rfl]
        exact r1
      · rw [if_neg c1, if_neg c1]
        by_cases c2 : b i = 59
        · rw [if_pos c2, if_pos c2]
          cases ct
          · obtain ⟨s1, q1, q2, q3⟩ := c_part G
            obtain ⟨s', r1, r2⟩ := ih (i + 1) 0 _ _ true x m s1 (by omega) (by omega) q3
            refine ⟨s', ?_, r2.tr q2⟩
            rw [if_pos (show b01 false = 0 from rfl), q1, zc2_s, if_neg (by decide)]
            dsimp only
            rw [nI_suc i (by omega), zlt_s]
            exact r1
          · refine ⟨s, ?_, Ch.rf⟩
            rw [if_neg (show ¬ b01 true = 0 by decide), hK1, if_pos rfl, (G.2.2.2.2.2 0 (by decide)).1]
        · rw [if_neg c2, if_neg c2]
          obtain ⟨s1, o', V', S', q1, q2, q3, q4⟩ := c_step G hbi
          obtain ⟨s', r1, r2⟩ := ih (i + 1) o' V' S' ct x m s1 (by omega) (by omega) q3
          refine ⟨s', ?_, r2.tr q2⟩
          rw [q4, q1, zc2_s]
          dsimp only
          rw [nI_suc i (by omega), zlt_s]
          exact r1
theorem c_gives {s : zSt} {b : Nat → Int32} {n : Nat} {H : Nat → Int32} {h1 : Nat} (hn : n ≤ 160) (hb : ∀ j, j < n → btw 0 (b j) 255) (g1 : gZ s 1100 h1 = n) (g2 : ∀ j, j < n → gI s 1100 h1 j = b j) (g3 : ∀ j, j < 5 → gI s 300 0 j = H j) : ∃ s' V S, V 0 = 0 ∧ S 0 = 43 ∧ Ch s' s ∧ f2_gives h1 s = some (frG b n H n 0 0 V S true 0, s') := by
  have G0 : GS (pI s 2 0 3 (nI 0)) b n H h1 0 (fun j => gI s 301 0 j) (fun j => gI s 302 0 j) := by
    refine ⟨g1, fun j hj => by rw [gI_ne (by decide)]; exact g2 j hj, fun j hj => by rw [gI_ne (by decide)]; exact g3 j hj, gI_at', by omega, fun j hj => ⟨by rw [gI_ne (by decide)], by rw [gI_ne (by decide)]⟩⟩
  have e0 := c_level G0
  have G1 := GS_S (GS_V G0 0 0) 0 43
  obtain ⟨s', r1, r2⟩ := l_gives (K1 := fun s30 => zix 0 7 fun m31 => some (gI s30 301 0 m31, s30)) (K2 := fun a32 s33 => if a32 = 0 then (some (0, s33)) else zix 0 7 fun m34 => some (gI s33 301 0 m34, s33)) hn hb (fun s => zix_s (i := 0) (by decide) (by decide) _) (fun ct s => by
    cases ct
    · rfl
    · show (if b01 true = 0 then _ else _) = _
      rw [if_neg (show ¬ b01 true = 0 by decide), if_pos rfl]
      exact zix_s (i := 0) (by decide) (by decide) _) n 0 0 _ _ true 0 zfuel _ (by omega) (zfuel_pos (by omega)) G1
  refine ⟨s', ups (fun j => gI s 301 0 j) 0 0, ups (fun j => gI s 302 0 j) 0 43, ups_at, ups_at, r2.tr (((Ch.rf.I rfl).I rfl).I rfl), ?_⟩
  unfold f2_gives f2_startPart
  rw [show nI 0 = 0 from rfl] at e0
  rw [zlt_s, e0, zc2_s, zc2_s]
  exact r1
