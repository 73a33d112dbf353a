/-! warranties as the reference reads them -/
theorem plc_g (c a1 a2 a3 a4 a5 : Int32) (s : zSt) : f12_placeIn c a1 a2 a3 a4 a5 s = some (zidx [a1, a2, a3, a4, a5] c 0) := by
  unfold f12_placeIn
  show _ = some (if a1 = c then nI 0 else if a2 = c then nI 1 else if a3 = c then nI 2 else if a4 = c then nI 3 else if a5 = c then nI 4 else -1)
  by_cases h0 : c = a1
  · rw [if_pos h0, if_pos h0.symm]; rfl
  · rw [if_neg h0, if_neg (show ¬ a1 = c from fun e => h0 e.symm)]
    by_cases h1 : c = a2
    · rw [if_pos h1, if_pos h1.symm]; rfl
    · rw [if_neg h1, if_neg (show ¬ a2 = c from fun e => h1 e.symm)]
      by_cases h2 : c = a3
      · rw [if_pos h2, if_pos h2.symm]; rfl
      · rw [if_neg h2, if_neg (show ¬ a3 = c from fun e => h2 e.symm)]
        by_cases h3 : c = a4
        · rw [if_pos h3, if_pos h3.symm]; rfl
        · rw [if_neg h3, if_neg (show ¬ a4 = c from fun e => h3 e.symm)]
          by_cases h4 : c = a5
          · rw [if_pos h4, if_pos h4.symm]; rfl
          · rw [if_neg h4, if_neg (show ¬ a5 = c from fun e => h4 e.symm)]
theorem not_m9 {c : Int32} (h : btw 0 c 255) : ¬ (-9 : Int32) = c := fun e => by
  have := h.1
  rw [← e] at this
  revert this
  decide
theorem plc_1 {c : Int32} (h : btw 0 c 255) (s : zSt) : f12_placeIn c 60 61 33 43 (-9) s = some (zidx (zsbyt.getD 1 []) c 0) := by
  rw [plc_g]
  show some (if (60 : Int32) = c then nI 0 else if (61 : Int32) = c then nI 1 else if (33 : Int32) = c then nI 2 else if (43 : Int32) = c then nI 3 else if (-9 : Int32) = c then nI 4 else -1) = _
  rw [if_neg (not_m9 h)]
  rfl
theorem zch0_or {c : Int32} (h : zch 0 c = true) : c = 121 ∨ c = 107 ∨ c = 116 ∨ c = 115 ∨ c = 110 ∨ c = 111 ∨ c = 103 ∨ c = 100 ∨ c = 102 := by
  have h : c ∈ [(121 : Int32), 107, 116, 115, 110, 111, 103, 100, 102] := of_decide_eq_true h
  simpa using h
theorem zch1_or {c : Int32} (h : zch 1 c = true) : c = 60 ∨ c = 61 ∨ c = 33 ∨ c = 43 := by
  have h : c ∈ [(60 : Int32), 61, 33, 43] := of_decide_eq_true h
  simpa using h
theorem zch2_or {c : Int32} (h : zch 2 c = true) : c = 98 ∨ c = 119 ∨ c = 104 ∨ c = 99 ∨ c = 118 := by
  have h : c ∈ [(98 : Int32), 119, 104, 99, 118] := of_decide_eq_true h
  simpa using h
def pv1 (c : Int32) : Int32 := zidx [121, 107, 116, 115, 110] c 0
def pv2 (c : Int32) : Int32 := zidx [111, 103, 100, 102, -9] c 0
theorem pv_in {c : Int32} (h : zch 0 c = true) : ¬ (pv1 c < 0 ∧ pv2 c < 0) ∧ ∀ {β : Type} (F : Nat → Option β), (if pv1 c < 0 then zix (5 + pv2 c) 9 F else zix (pv1 c) 9 F) = F (nT (zidx (zsbyt.getD 0 []) c 0)) := by
  rcases zch0_or h with rfl | rfl | rfl | rfl | rfl | rfl | rfl | rfl | rfl <;> exact ⟨by decide +kernel, fun F => rfl⟩
theorem pv_out {c : Int32} (hb : btw 0 c 255) (h : zch 0 c = false) : pv1 c = -1 ∧ pv2 c = -1 := by
  have h : ¬ c ∈ [(121 : Int32), 107, 116, 115, 110, 111, 103, 100, 102] := of_decide_eq_false h
  have h9 := not_m9 hb
  simp only [List.mem_cons, not_or] at h
  obtain ⟨h1, h2, h3, h4, h5, h6, h7, h8, h10, -⟩ := h
  constructor
  · exact (zidx_or c [121, 107, 116, 115, 110] 0).2 (by simp only [List.mem_cons, not_or]; exact ⟨h1, h2, h3, h4, h5, by simp⟩)
  · exact (zidx_or c [111, 103, 100, 102, -9] 0).2 (by simp only [List.mem_cons, not_or]; exact ⟨h6, h7, h8, h10, fun e => h9 e.symm, by simp⟩)
theorem nm0_no {c : Int32} (h : zch 0 c = true) : dig c = false ∧ c ≠ 62 ∧ c ≠ 38 := by
  rcases zch0_or h with rfl | rfl | rfl | rfl | rfl | rfl | rfl | rfl | rfl <;> decide +kernel
theorem sg1_no {c : Int32} (h : zch 1 c = true) : dig c = false := by
  rcases zch1_or h with rfl | rfl | rfl | rfl <;> decide +kernel
theorem py_no {c : Int32} (h : zch 2 c = true) : dig c = false := by
  rcases zch2_or h with rfl | rfl | rfl | rfl | rfl <;> decide +kernel
theorem dg_no2 {c : Int32} (h : dig c = true) : c ≠ 62 ∧ c ≠ 38 ∧ c ≠ 59 := by
  refine ⟨?_, ?_, ?_⟩
  · rintro rfl; exact absurd h (by decide)
  · rintro rfl; exact absurd h (by decide)
  · rintro rfl; exact absurd h (by decide)
/-- does a test hold -/
def cmv (c v x : Int32) : Bool := if c = 60 then decide (v < x) else if c = 61 then decide (v = x) else if c = 33 then !decide (v = x) else !decide (v < x)
def TS (b : Nat → Int32) (n a j k : Nat) : Prop := a + 2 + k ≤ n ∧ zch 0 (b a) = true ∧ zidx (zsbyt.getD 0 []) (b a) 0 = nI j ∧ j < 9 ∧ zch 1 (b (a + 1)) = true ∧ k = dct b n 4 (a + 2) ∧ 0 < k
def FT (b : Nat → Int32) (n a p : Nat) : Prop := (p = a ∧ a ≤ n ∧ zch 0 (bt b n a) = false) ∨ (p = a + 1 ∧ a < n ∧ zch 0 (b a) = true ∧ zch 1 (bt b n (a + 1)) = false) ∨ (p = a + 2 ∧ a + 1 < n ∧ zch 0 (b a) = true ∧ zch 1 (b (a + 1)) = true ∧ dig (bt b n (a + 2)) = false)
theorem bt_zk {b : Nat → Int32} {n a k : Nat} (hk : k < 5) (h : zch k (bt b n a) = true) : a < n := by
  apply Nat.lt_of_not_le
  intro c
  rw [bt_ge c] at h
  revert h
  have : ∀ k, k < 5 → ¬ zch k 0 = true := by decide +kernel
  exact this k hk
theorem m_test {b : Nat → Int32} {n : Nat} {H : Nat → Int32} {σ : zSt} (B : RB σ b n) (hH : ∀ j, j < 9 → gI σ 1371 0 j = H j) {a : Nat} (ha : a ≤ n) (o : Int32) : ∃ r s, f12_test (rdS σ (nI a) (-1) o) = some (b01 r, s) ∧ ((∃ p, s = rdS σ (nI p) (nI p) o ∧ FT b n a p) ∨ ∃ j k, TS b n a j k ∧ s = rdS σ (nI (a + 2 + k)) (-1) o ∧ r = cmv (b (a + 1)) (H j) (nvl b k (a + 2) 0)) := by
  have hn := B.2.1
  unfold f12_test
  rw [m_byteAt B (by omega), zc1_s, plc_g, zc1_s, plc_g, zc1_s, rdS_67, nI_suc a (by omega), rdS_p67]
  rw [show zidx [121, 107, 116, 115, 110] (bt b n a) 0 = pv1 (bt b n a) from rfl, show zidx [111, 103, 100, 102, -9] (bt b n a) 0 = pv2 (bt b n a) from rfl]
  cases z : zch 0 (bt b n a)
  · obtain ⟨e1, e2⟩ := pv_out (bt_r B a) z
    simp only [zlt_s]
    rw [e1, e2, if_neg (by decide), if_neg (by decide), m_wrong, zc2_s]
    dsimp only
    rw [if_pos (show (0 : Int32) ≤ 0 by decide)]
    exact ⟨false, _, rfl, Or.inl ⟨a, rfl, Or.inl ⟨rfl, ha, z⟩⟩⟩
  · have hl := bt_zk (show 0 < 5 by decide) z
    obtain ⟨e1, e2⟩ := pv_in z
    rw [bt_lt hl] at z e1 e2 ⊢
    rcases zx_or (show 0 < 5 by decide) (b a) with ⟨-, j, _, hj9, ej⟩ | ⟨e, -⟩
    rotate_left
    · rw [z] at e; cases e
    rw [ej] at e2
    have nj : nT (nI j) = j := by unfold nT; rw [nI_ti (by omega)]; rfl
    rw [nj] at e2
    have Q : ∀ (J X : Option (Int32 × zSt)), (if 0 ≤ pv1 (b a) then J else if 0 ≤ pv2 (b a) then J else X) = J := fun J X => by
      by_cases q1 : 0 ≤ pv1 (b a)
      · rw [if_pos q1]
      · rw [if_neg q1, if_pos]
        apply Classical.byContradiction
        intro q2
        exact e1 ⟨by rw [i_lt]; rw [i_le] at q1; omega, by rw [i_lt]; rw [i_le] at q2; omega⟩
    rw [zlt_s, Q, zlt_s, zlt_s, e2]
    dsimp only
    rw [rdS_t (t := 1371) (by decide), hH j hj9, m_byteAt B (by omega), zc1_s, plc_1 (bt_r B _), zc1_s]
    cases z1 : zch 1 (bt b n (a + 1))
    · rcases zx_or (show 1 < 5 by decide) (bt b n (a + 1)) with ⟨e, -⟩ | ⟨-, e⟩
      · rw [z1] at e; cases e
      · rw [e, if_neg (by decide), m_wrong, zc2_s]
        dsimp only
        rw [if_pos (show (0 : Int32) ≤ 0 by decide)]
        exact ⟨false, _, rfl, Or.inl ⟨a + 1, rfl, Or.inr (Or.inl ⟨rfl, hl, z, z1⟩)⟩⟩
    · have hl1 := bt_zk (show 1 < 5 by decide) z1
      rcases zx_or (show 1 < 5 by decide) (bt b n (a + 1)) with ⟨-, i, _, hi9, ei⟩ | ⟨e, -⟩
      rotate_left
      · rw [z1] at e; cases e
      rw [bt_lt hl1] at z1 ei ⊢
      have mf := m_figure (most := 4) B (by decide) (a := a + 2) (by omega) o
      rw [show nI 4 = 4 from rfl] at mf
      obtain ⟨d1, d2, d3, d4⟩ := dct_p (b := b) (n := n) 4 (a + 2)
      have V : ∀ (x : Int32) (s : zSt), (if zidx (zsbyt.getD 1 []) (b (a + 1)) 0 = 0 then (if x ≤ H j then some ((0 : Int32), s) else some (1, s)) else if zidx (zsbyt.getD 1 []) (b (a + 1)) 0 = 1 then (if H j = x then some (1, s) else some (0, s)) else if zidx (zsbyt.getD 1 []) (b (a + 1)) 0 = 2 then (if H j = x then some (0, s) else some (1, s)) else if H j < x then some (0, s) else some (1, s)) = some (b01 (cmv (b (a + 1)) (H j) x), s) := fun x s => by
        have lx : (x ≤ H j) ↔ ¬ H j < x := by rw [i_le, i_lt]; omega
        rcases zch1_or z1 with e | e | e | e <;> rw [e]
        · show (if x ≤ H j then some ((0 : Int32), s) else some (1, s)) = some (b01 (decide (H j < x)), s)
          by_cases q : H j < x
          · rw [if_neg (fun h => lx.mp h q), decide_eq_true q]; rfl
          · rw [if_pos (lx.mpr q), decide_eq_false q]; rfl
        · show (if H j = x then some ((1 : Int32), s) else some (0, s)) = some (b01 (decide (H j = x)), s)
          by_cases q : H j = x
          · rw [if_pos q, decide_eq_true q]; rfl
          · rw [if_neg q, decide_eq_false q]; rfl
        · show (if H j = x then some ((0 : Int32), s) else some (1, s)) = some (b01 (!decide (H j = x)), s)
          by_cases q : H j = x
          · rw [if_pos q, decide_eq_true q]; rfl
          · rw [if_neg q, decide_eq_false q]; rfl
        · show (if H j < x then some ((0 : Int32), s) else some (1, s)) = some (b01 (!decide (H j < x)), s)
          by_cases q : H j < x
          · rw [if_pos q, decide_eq_true q]; rfl
          · rw [if_neg q, decide_eq_false q]; rfl
      rw [if_pos (show 0 ≤ zidx (zsbyt.getD 1 []) (b (a + 1)) 0 by rw [ei]; exact le0 (by omega)), rdS_67, nI_suc (a + 1) (by omega), rdS_p67, zlt_s, show a + 1 + 1 = a + 2 from rfl, mf]
      by_cases c0 : dct b n 4 (a + 2) = 0
      · rw [if_pos c0, zc2_s, V]
        rw [c0] at d4
        exact ⟨_, _, rfl, Or.inl ⟨a + 2, rfl, Or.inr (Or.inr ⟨rfl, hl1, z, z1, d4 (by omega)⟩)⟩⟩
      · rw [if_neg c0, zc2_s, V]
        exact ⟨_, _, rfl, Or.inr ⟨j, dct b n 4 (a + 2), ⟨d2 (by omega), z, ej, hj9, z1, rfl, by omega⟩, rfl, rfl⟩⟩
/-- a step of the class's look -/
def Wf (b : Nat → Int32) (n a ph dg : Nat) : Option Nat := wrR b (n - a) a ph dg
theorem Wf_s {b : Nat → Int32} {n a ph dg : Nat} (h : a < n) : Wf b n a ph dg = if dig (b a) = true ∧ 4 ≤ dg then some a else if wnx ph (b a) = 7 then some a else Wf b n (a + 1) (wnx ph (b a)) (if dig (b a) = true then dg + 1 else 0) := by
  unfold Wf
  rw [show n - a = (n - (a + 1)) + 1 by omega, wrR]
theorem Wf_e {b : Nat → Int32} {n ph dg : Nat} : Wf b n n ph dg = if 0 < n ∧ ph = 0 then none else some n := by
  unfold Wf
  rw [Nat.sub_self, wrR]
def okw (b : Nat → Int32) (n a ph : Nat) : Prop := ph = 1 ∨ (ph = 0 ∧ (a < n ∨ n = 0) ∧ ¬ bt b n a = 62)
theorem W_name {b : Nat → Int32} {n a ph : Nat} (h : a < n) (ho : okw b n a ph) (z : zch 0 (b a) = true) : Wf b n a ph 0 = Wf b n (a + 1) 2 0 := by
  obtain ⟨n1, n2, n3⟩ := nm0_no z
  have w : wnx ph (b a) = 2 := by
    unfold wnx
    rcases ho with rfl | ⟨rfl, -⟩
    · rw [if_neg (by decide), if_pos rfl, if_pos z]
    · rw [if_pos rfl, if_neg n2, if_pos z]
  rw [Wf_s h, if_neg (fun q => by omega), w, if_neg (by decide), n1]
  rfl
theorem W_sign {b : Nat → Int32} {n a : Nat} (h : a < n) (z : zch 1 (b a) = true) : Wf b n a 2 0 = Wf b n (a + 1) 3 0 := by
  have w : wnx 2 (b a) = 3 := by
    unfold wnx
    rw [if_neg (by decide), if_neg (by decide), if_pos rfl, if_pos z]
  rw [Wf_s h, if_neg (fun q => by omega), w, if_neg (by decide), sg1_no z]
  rfl
theorem W_FT {b : Nat → Int32} {n a ph p : Nat} (ho : okw b n a ph) (h : FT b n a p) : p ≤ n ∧ Wf b n a ph 0 = some p := by
  rcases h with ⟨rfl, h1, h2⟩ | ⟨rfl, h1, h2, h3⟩ | ⟨rfl, h1, h2, h3, h4⟩
  · refine ⟨h1, ?_⟩
    by_cases hl : p < n
    · rw [bt_lt hl] at h2
      have w : wnx ph (b p) = 7 := by
        unfold wnx
        rcases ho with rfl | ⟨rfl, -, h62⟩
        · rw [if_neg (by decide), if_pos rfl, if_neg (by rw [h2]; decide)]
        · rw [bt_lt hl] at h62
          rw [if_pos rfl, if_neg h62, if_neg (by rw [h2]; decide)]
      rw [Wf_s hl, if_neg (fun q => by omega), if_pos w]
    · obtain rfl : p = n := by omega
      rw [Wf_e, if_neg (by rcases ho with rfl | ⟨rfl, h3, -⟩ <;> omega)]
  · refine ⟨by omega, ?_⟩
    rw [W_name h1 ho h2]
    by_cases hl : a + 1 < n
    · rw [bt_lt hl] at h3
      have w : wnx 2 (b (a + 1)) = 7 := by
        unfold wnx
        rw [if_neg (by decide), if_neg (by decide), if_pos rfl, if_neg (by rw [h3]; decide)]
      rw [Wf_s hl, if_neg (fun q => by omega), if_pos w]
    · rw [show a + 1 = n by omega, Wf_e, if_neg (by omega)]
  · refine ⟨by omega, ?_⟩
    rw [W_name (by omega) ho h2, W_sign h1 h3]
    by_cases hl : a + 1 + 1 < n
    · rw [show a + 2 = a + 1 + 1 from rfl, bt_lt hl] at h4
      have w : wnx 3 (b (a + 1 + 1)) = 7 := by
        unfold wnx
        rw [if_neg (by decide), if_neg (by decide), if_neg (by decide), if_pos rfl, if_neg (by rw [h4]; decide)]
      rw [Wf_s hl, if_neg (fun q => by omega), if_pos w]
    · rw [show a + 1 + 1 = n by omega, Wf_e, if_neg (by omega)]
theorem Wdig {b : Nat → Int32} {n ph : Nat} (hp : ph = 4 ∨ ph = 6) : ∀ k a dg, (∀ j, j < k → dig (bt b n (a + j)) = true) → dg + k ≤ 4 → Wf b n a ph dg = Wf b n (a + k) ph (dg + k)
  | 0, _, _, _, _ => rfl
  | k + 1, a, dg, h, h4 => by
    have h1 := h 0 (by omega)
    rw [Nat.add_zero] at h1
    have hl := dig_lt h1
    rw [bt_lt hl] at h1
    obtain ⟨g1, g2, g3⟩ := dg_no2 h1
    have w : wnx ph (b a) = ph := by
      unfold wnx
      rcases hp with rfl | rfl
      · rw [if_neg (by decide), if_neg (by decide), if_neg (by decide), if_neg (by decide), if_pos rfl, if_neg g2, if_neg g1, if_pos h1]
      · rw [if_neg (by decide), if_neg (by decide), if_neg (by decide), if_neg (by decide), if_neg (by decide), if_neg (by decide), if_pos rfl, if_neg g3, if_pos h1]
    rw [Wf_s hl, if_neg (fun q => by omega), w, if_neg (by omega), if_pos h1, Wdig hp k (a + 1) (dg + 1) (fun j hj => by rw [show a + 1 + j = a + (j + 1) by omega]; exact h (j + 1) (by omega)) (by omega), show a + 1 + k = a + (k + 1) by omega, show dg + 1 + k = dg + (k + 1) by omega]
theorem W_TS {b : Nat → Int32} {n a ph j k : Nat} (ho : okw b n a ph) (h : TS b n a j k) : k ≤ 4 ∧ (dig (bt b n (a + 2 + k)) = true → 4 ≤ k) ∧ Wf b n a ph 0 = Wf b n (a + 2 + k) 4 k := by
  obtain ⟨t1, t2, t3, t4, t5, t6, t7⟩ := h
  obtain ⟨d1, d2, d3, d4⟩ := dct_p (b := b) (n := n) 4 (a + 2)
  rw [← t6] at d1 d2 d3 d4
  refine ⟨d1, fun h => ?_, ?_⟩
  · apply Nat.le_of_not_lt
    intro h5
    rw [d4 h5] at h
    cases h
  · rw [W_name (by omega) ho t2, W_sign (by omega) t5]
    have h0 := d3 0 t7
    rw [Nat.add_zero] at h0
    have hl := dig_lt h0
    rw [bt_lt hl] at h0
    have w : wnx 3 (b (a + 2)) = 4 := by
      unfold wnx
      rw [if_neg (by decide), if_neg (by decide), if_neg (by decide), if_pos rfl, if_pos h0]
    rw [show a + 1 + 1 = a + 2 from rfl, Wf_s hl, if_neg (fun q => by omega), w, if_neg (by decide), if_pos h0, Wdig (Or.inl rfl) (k - 1) (a + 2 + 1) 1 (fun j hj => by rw [show a + 2 + 1 + j = a + 2 + (j + 1) by omega]; exact d3 (j + 1) (by omega)) (by omega), show a + 2 + 1 + (k - 1) = a + 2 + k by omega, show 1 + (k - 1) = k by omega]
