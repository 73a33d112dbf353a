/-! a line of a warranty -/
theorem m_wrong' {σ : zSt} {a o : Int32} {p : Nat} (hp : p < 2 ^ 31) : f12_wrong (rdS σ a (nI p) o) = some (0, rdS σ a (nI p) o) := by
  unfold f12_wrong
  rw [rdS_69, if_pos (le0 hp), rdS_p69, zlt_s]
/-- σ but for what a reader of warranties writes -/
def LT (τ σ : zSt) : Prop := Ch τ σ ∧ (∀ t, t ≠ 12 → gI τ t = gI σ t) ∧ ∀ k, k < 72 ∨ 76 < k → gI τ 12 0 k = gI σ 12 0 k
theorem LT.rf {σ : zSt} : LT σ σ := ⟨Ch.rf, fun _ _ => rfl, fun _ _ => rfl⟩
theorem nsc12 {k : Nat} (hk : 63 ≤ k) : nsc 12 k = false := by
  unfold nsc
  rw [show nscA 12 = false from rfl, decide_eq_false (show ¬ k ≤ 55 by omega), decide_eq_false (show ¬ k = 62 by omega)]
  rfl
theorem LT.I {τ σ : zSt} (h : LT τ σ) {k : Nat} {v : Int32} (hk : 72 ≤ k ∧ k ≤ 76) : LT (pI τ 12 0 k v) σ :=
  ⟨h.1.I (nsc12 (by omega)), fun t ht => by rw [gI_ne ht, h.2.1 t ht], fun k' hk' => by rw [gI_nk (fun e => by omega), h.2.2 k' hk']⟩
theorem LT.tr {τ u σ : zSt} (h : LT τ u) (h2 : LT u σ) : LT τ σ := ⟨h.1.tr h2.1, fun t ht => (h.2.1 t ht).trans (h2.2.1 t ht), fun k hk => (h.2.2 k hk).trans (h2.2.2 k hk)⟩
theorem RB_LT {τ σ : zSt} {b : Nat → Int32} {n : Nat} (h : LT τ σ) (B : RB σ b n) : RB τ b n := by
  unfold RB at B ⊢
  rw [h.2.2 66 (by omega), h.2.2 68 (by omega), h.2.1 1348 (by decide), h.2.1 1350 (by decide)]
  exact B
/-- σ but for all that a reader writes -/
def LW (s σ : zSt) : Prop := Ch s σ ∧ ∀ k, k < 66 ∨ 76 < k → gI s 12 0 k = gI σ 12 0 k
theorem LW.rd {τ σ : zSt} (h : LW τ σ) {a F o : Int32} : LW (rdS τ a F o) σ := ⟨Ch_rd h.1, fun k hk => by rw [rdS_k (by omega), h.2 k hk]⟩
theorem LT.lw {τ σ : zSt} (h : LT τ σ) : LW τ σ := ⟨h.1, fun k hk => h.2.2 k (by omega)⟩
theorem LW.tr {τ u σ : zSt} (h : LW τ u) (h2 : LW u σ) : LW τ σ := ⟨h.1.tr h2.1, fun k hk => (h.2 k hk).trans (h2.2 k hk)⟩
noncomputable def lnK (a2 : Int32) (s3 : zSt) : Option (Int32 × zSt) :=
  zlt (zlt (pI s3 12 0 67 ((gI s3 12 0 67) + (if 0 ≤ (gI s3 12 0 69) then 0 else 1))) fun s12 =>
  zc1 (f12_byteAt s12) fun r13 =>
  zc1 (f12_placeIn r13 98 119 104 99 118 s12) fun r14 =>
  zlt (pI s12 12 0 72 r14) fun s15 =>
  zlt (zc2 (f12_wrong s15) fun r18 s19 =>
  if r18 ≤ 0 then (some (0, s19)) else
  some (1, s19)) fun j16 =>
  if 0 ≤ (gI s15 12 0 69) then (j16) else
  if 0 ≤ (gI s15 12 0 72) then (zlt (pI s15 12 0 67 ((gI s15 12 0 67) + 1)) fun s20 =>
  zc1 (f12_byteAt s20) fun r21 =>
  zlt (fun (a22 : Int32) =>
  zlt (fun (a25 : Int32) (s26 : zSt) =>
  zlt (pI s26 12 0 73 a25) fun s29 =>
  zlt (zlt (pI s29 12 0 67 ((gI s29 12 0 67) + (if 0 ≤ (gI s29 12 0 69) then 0 else 1))) fun s36 =>
  zbo a2 (some (a2, s36))) fun j30 =>
  if 0 ≤ (gI s29 12 0 69) then (j30) else
  zc1 (f12_byteAt s29) fun r37 =>
  if r37 = 59 then (j30) else
  zc2 (f12_wrong s29) fun r38 s39 =>
  if r38 ≤ 0 then (some (0, s39)) else
  some (1, s39)) fun j27 =>
  if a22 = 0 then (j27 0 s20) else
  zc2 (f12_figure 4 s20) fun r40 s41 =>
  j27 r40 s41) fun j23 =>
  zlt (j23 0) fun j42 =>
  if r21 < 48 then (j42) else
  zc1 (f12_byteAt s20) fun r44 =>
  if (57 : Int32) < r44 then (j42) else
  j23 1) else
  j16) fun j6 =>
  if 0 ≤ (gI s3 12 0 69) then (j6) else
  zc1 (f12_byteAt s3) fun r45 =>
  if r45 = 62 then (j6) else
  zc2 (f12_wrong s3) fun r46 s47 =>
  if r46 ≤ 0 then (some (0, s47)) else
  some (1, s47)
theorem line_eq (σ : zSt) : f12_line σ = zc1 (f12_byteAt σ) fun r1 => if r1 = 62 then lnK 1 σ else f12_line_L13 (fun a s => lnK a s) zfuel 1 1 σ := by
  unfold f12_line
  rfl
theorem zbo_b (b : Bool) {β : Type} (k : Option β) : zbo (b01 b) k = k := by cases b <;> rfl
/-- once there is a fault, or no sign behind the tests -/
theorem lnK_bad {b : Nat → Int32} {n : Nat} {σ : zSt} (B : RB σ b n) {a p : Nat} (hp : p ≤ n) (ha : a ≤ 900) (a2 o : Int32) : ∃ w, lnK a2 (rdS σ (nI a) (nI p) o) = some (0, rdS (pI σ 12 0 72 w) (nI a) (nI p) o) := by
  have hn := B.2.1
  refine ⟨zidx [98, 119, 104, 99, 118] (bt b n a) 0, ?_⟩
  unfold lnK
  rw [rdS_69, if_pos (le0 (show p < 2 ^ 31 by omega)), zlt_s, if_pos (le0 (show p < 2 ^ 31 by omega)), rdS_67, i_add0, rdS_p67, zlt_s, m_byteAt B (by omega), zc1_s, plc_g, zc1_s, rdS_pk (by decide), zlt_s, zlt_s, rdS_69, if_pos (le0 (show p < 2 ^ 31 by omega)), m_wrong' (by omega), zc2_s]
  dsimp only
  rw [if_pos (show (0 : Int32) ≤ 0 by decide)]
theorem lnK_no {b : Nat → Int32} {n : Nat} {σ : zSt} (B : RB σ b n) {a : Nat} (ha : a ≤ n) (h : ¬ bt b n a = 62) (a2 o : Int32) : lnK a2 (rdS σ (nI a) (-1) o) = some (0, rdS σ (nI a) (nI a) o) := by
  have hn := B.2.1
  unfold lnK
  rw [rdS_69, zlt_s, if_neg (show ¬ (0 : Int32) ≤ -1 by decide), if_neg (show ¬ (0 : Int32) ≤ -1 by decide), m_byteAt B (by omega), zc1_s, if_neg h, m_wrong, zc2_s]
  dsimp only
  rw [if_pos (show (0 : Int32) ≤ 0 by decide)]
theorem W5 {b : Nat → Int32} {n a ph dg : Nat} (h : a < n) (h62 : b a = 62) (hp : ph = 0 ∨ ph = 4) : Wf b n a ph dg = Wf b n (a + 1) 5 0 := by
  have w : wnx ph 62 = 5 := by rcases hp with rfl | rfl <;> rfl
  rw [Wf_s h, h62, if_neg (fun q => absurd q.1 (by decide)), w, if_neg (by decide), if_neg (by decide)]
theorem lnK_ok {b : Nat → Int32} {n : Nat} {σ : zSt} (B : RB σ b n) {e : Nat} (h62 : bt b n e = 62) (al : Bool) (o : Int32) : ∃ r τ a', LT τ σ ∧ (∀ k, 74 ≤ k → gI τ 12 0 k = gI σ 12 0 k) ∧ a' ≤ n ∧
    ((∃ p, p ≤ n ∧ lnK (b01 al) (rdS σ (nI e) (-1) o) = some (r, rdS τ (nI a') (nI p) o) ∧ Wf b n (e + 1) 5 0 = some p) ∨
     (lnK (b01 al) (rdS σ (nI e) (-1) o) = some (b01 al, rdS τ (nI a') (-1) o) ∧ Wf b n (e + 1) 5 0 = Wf b n a' 0 0 ∧ ∃ k, k ≤ 4 ∧ e + 2 + k < n ∧ zch 2 (b (e + 1)) = true ∧ (∀ j, j < k → dig (bt b n (e + 2 + j)) = true) ∧ b (e + 2 + k) = 59 ∧ gI τ 12 0 72 = zidx (zsbyt.getD 2 []) (b (e + 1)) 0 ∧ gI τ 12 0 73 = nvl b k (e + 2) 0 ∧ a' = e + 2 + k + 1)) := by
  have hn := B.2.1
  obtain ⟨hl, hb⟩ := bt_eq h62 (by decide)
  have l0 : ¬ (0 : Int32) ≤ -1 := by decide
  have start : lnK (b01 al) (rdS σ (nI e) (-1) o) = (zlt (rdS (pI σ 12 0 72 (zidx (zsbyt.getD 2 []) (bt b n (e + 1)) 0)) (nI (e + 1)) (-1) o) fun s15 =>
      zlt (zc2 (f12_wrong s15) fun r18 s19 => if r18 ≤ 0 then (some (0, s19)) else some (1, s19)) fun j16 =>
      if 0 ≤ (gI s15 12 0 72) then (zlt (pI s15 12 0 67 ((gI s15 12 0 67) + 1)) fun s20 =>
      zc1 (f12_byteAt s20) fun r21 =>
      zlt (fun (a22 : Int32) =>
      zlt (fun (a25 : Int32) (s26 : zSt) =>
      zlt (pI s26 12 0 73 a25) fun s29 =>
      zlt (zlt (pI s29 12 0 67 ((gI s29 12 0 67) + (if 0 ≤ (gI s29 12 0 69) then 0 else 1))) fun s36 =>
      zbo (b01 al) (some (b01 al, s36))) fun j30 =>
      if 0 ≤ (gI s29 12 0 69) then (j30) else
      zc1 (f12_byteAt s29) fun r37 =>
      if r37 = 59 then (j30) else
      zc2 (f12_wrong s29) fun r38 s39 =>
      if r38 ≤ 0 then (some (0, s39)) else
      some (1, s39)) fun j27 =>
      if a22 = 0 then (j27 0 s20) else
      zc2 (f12_figure 4 s20) fun r40 s41 =>
      j27 r40 s41) fun j23 =>
      zlt (j23 0) fun j42 =>
      if r21 < 48 then (j42) else
      zc1 (f12_byteAt s20) fun r44 =>
      if (57 : Int32) < r44 then (j42) else
      j23 1) else
      j16) := by
    unfold lnK
    rw [rdS_69, if_neg l0, m_byteAt B (by omega), zlt_s, if_neg l0, zc1_s, if_pos h62, rdS_67, nI_suc e (by omega), rdS_p67, zlt_s, m_byteAt B (by omega), zc1_s, plc_g, zc1_s, rdS_pk (by decide), zlt_s, zlt_s, rdS_69, if_neg l0]
    rfl
  cases z : zch 2 (bt b n (e + 1))
  · rcases zx_or (show 2 < 5 by decide) (bt b n (e + 1)) with ⟨q, -⟩ | ⟨-, e2⟩
    · rw [z] at q; cases q
    refine ⟨0, pI σ 12 0 72 (-1), e + 1, LT.rf.I (by omega), fun k hk => gI_nk (fun h => by omega) 0, by omega, Or.inl ⟨e + 1, by omega, ?_, ?_⟩⟩
    · rw [start, e2, zlt_s, zlt_s, rdS_k (by decide), gI_at, if_neg l0, m_wrong, zc2_s]
      dsimp only
      rw [if_pos (show (0 : Int32) ≤ 0 by decide)]
    · by_cases hl1 : e + 1 < n
      · rw [bt_lt hl1] at z
        have w : wnx 5 (b (e + 1)) = 7 := by
          unfold wnx
          rw [if_neg (by decide), if_neg (by decide), if_neg (by decide), if_neg (by decide), if_neg (by decide), if_pos rfl, if_neg (by rw [z]; decide)]
        rw [Wf_s hl1, if_neg (fun q => by omega), if_pos w]
      · rw [show e + 1 = n by omega, Wf_e, if_neg (by omega)]
  · have hl1 := bt_zk (show 2 < 5 by decide) z
    rcases zx_or (show 2 < 5 by decide) (bt b n (e + 1)) with ⟨-, i, _, hi9, e2⟩ | ⟨q, -⟩
    rotate_left
    · rw [z] at q; cases q
    obtain ⟨d1, d2, d3, d4⟩ := dct_p (b := b) (n := n) 4 (e + 2)
    generalize hk : dct b n 4 (e + 2) = k at d1 d2 d3 d4
    have d2 := d2 (by omega)
    have B1 : RB (pI σ 12 0 72 (nI i)) b n := RB_LT (LT.rf.I (by omega)) B
    have B2 : ∀ x, RB (pI (pI σ 12 0 72 (nI i)) 12 0 73 x) b n := fun x => RB_LT ((LT.rf.I (by omega)).I (by omega)) B
    have mid : lnK (b01 al) (rdS σ (nI e) (-1) o) = if bt b n (e + 2 + k) = 59 then some (b01 al, rdS (pI (pI σ 12 0 72 (nI i)) 12 0 73 (nvl b k (e + 2) 0)) (nI (e + 2 + k + 1)) (-1) o) else some (0, rdS (pI (pI σ 12 0 72 (nI i)) 12 0 73 (nvl b k (e + 2) 0)) (nI (e + 2 + k)) (nI (e + 2 + k)) o) := by
      have fin : ∀ (x : Int32) (c : Nat), c ≤ 900 → (zlt (pI (rdS (pI σ 12 0 72 (nI i)) (nI c) (-1) o) 12 0 73 x) fun s29 =>
          zlt (zlt (pI s29 12 0 67 ((gI s29 12 0 67) + (if 0 ≤ (gI s29 12 0 69) then 0 else 1))) fun s36 =>
          zbo (b01 al) (some (b01 al, s36))) fun j30 =>
          if 0 ≤ (gI s29 12 0 69) then (j30) else
          zc1 (f12_byteAt s29) fun r37 =>
          if r37 = 59 then (j30) else
          zc2 (f12_wrong s29) fun r38 s39 =>
          if r38 ≤ 0 then (some (0, s39)) else
          some (1, s39)) = if bt b n c = 59 then some (b01 al, rdS (pI (pI σ 12 0 72 (nI i)) 12 0 73 x) (nI (c + 1)) (-1) o) else some (0, rdS (pI (pI σ 12 0 72 (nI i)) 12 0 73 x) (nI c) (nI c) o) := fun x c hc => by
        rw [rdS_pk (by decide), zlt_s, zlt_s, rdS_69, if_neg l0, if_neg l0, m_byteAt (B2 x) (by omega), zc1_s, rdS_67, nI_suc c (by omega), rdS_p67, zlt_s, zbo_b, m_wrong, zc2_s]
        dsimp only
        rw [if_pos (show (0 : Int32) ≤ 0 by decide)]
      have mf := m_figure (most := 4) B1 (by decide) (a := e + 2) (by omega) o
      rw [show nI 4 = 4 from rfl, hk] at mf
      rw [start, zlt_s, zlt_s, e2, rdS_k (by decide), gI_at, if_pos (le0 (by omega)), rdS_67, nI_suc (e + 1) (by omega), rdS_p67, zlt_s, show e + 1 + 1 = e + 2 from rfl, m_byteAt B1 (by omega), zc1_s, zlt_s, zlt_s, zc1_s, mf]
      simp only [zlt_s, if_neg (show ¬ (1 : Int32) = 0 by decide), if_true]
      have hd : dig (bt b n (e + 2)) = decide (48 ≤ (bt b n (e + 2)).toInt ∧ (bt b n (e + 2)).toInt ≤ 57) := rfl
      have F0 := fin 0 (e + 2) (by omega)
      have F1 := fin (nvl b k (e + 2) 0) (e + 2 + k) (by omega)
      simp only [zlt_s] at F0 F1
      by_cases c0 : k = 0
      · subst c0
        have d4 := d4 (by omega)
        rw [Nat.add_zero] at d4 F1 ⊢
        rw [hd] at d4
        have d4 := of_decide_eq_false d4
        by_cases c1 : bt b n (e + 2) < 48
        · rw [if_pos c1]
          exact F0
        · rw [if_neg c1, if_pos (by rw [i_lt] at c1 ⊢; simp only [Int32.reduceToInt] at c1 ⊢; omega)]
          exact F0
      · have d3 := d3 0 (by omega)
        rw [Nat.add_zero, hd] at d3
        have d3 := of_decide_eq_true d3
        rw [if_neg (show ¬ bt b n (e + 2) < 48 by rw [i_lt]; simp only [Int32.reduceToInt]; omega), if_neg (show ¬ (57 : Int32) < bt b n (e + 2) by rw [i_lt]; simp only [Int32.reduceToInt]; omega), if_neg c0, zc2_s]
        exact F1
    have g72 : ∀ x, gI (pI (pI σ 12 0 72 (nI i)) 12 0 73 x) 12 0 72 = nI i := fun x => by rw [gI_nk (by decide), gI_at]
    have hb1 := bt_lt (b := b) hl1
    rw [hb1] at z e2
    have w : wnx 5 (b (e + 1)) = 6 := by
      unfold wnx
      rw [if_neg (by decide), if_neg (by decide), if_neg (by decide), if_neg (by decide), if_neg (by decide), if_pos rfl, if_pos z]
    have W6 : Wf b n (e + 1) 5 0 = Wf b n (e + 2 + k) 6 k := by
      rw [Wf_s hl1, if_neg (fun q => by omega), w, if_neg (by decide), py_no z, if_neg (by decide), Wdig (Or.inr rfl) k (e + 1 + 1) 0 d3 (by omega), Nat.zero_add]
    by_cases c59 : bt b n (e + 2 + k) = 59
    · obtain ⟨hl2, hb2⟩ := bt_eq c59 (by decide)
      rw [if_pos c59] at mid
      refine ⟨b01 al, _, e + 2 + k + 1, (LT.rf.I (by omega)).I (by omega), fun k hk => by rw [gI_nk (fun h => by omega), gI_nk (fun h => by omega)], by omega, Or.inr ⟨mid, ?_, k, d1, hl2, z, d3, hb2, ?_, gI_at', rfl⟩⟩
      · have w6 : wnx 6 59 = 0 := rfl
        rw [W6, Wf_s hl2, hb2, if_neg (fun q => absurd q.1 (by decide)), w6, if_neg (by decide), if_neg (by decide)]
      · rw [g72, e2]
    · rw [if_neg c59] at mid
      refine ⟨0, _, e + 2 + k, (LT.rf.I (by omega)).I (by omega), fun k hk => by rw [gI_nk (fun h => by omega), gI_nk (fun h => by omega)], by omega, Or.inl ⟨e + 2 + k, d2, mid, ?_⟩⟩
      rw [W6]
      by_cases hl2 : e + 2 + k < n
      · rw [bt_lt hl2] at c59 d4
        rw [Wf_s hl2]
        by_cases q : dig (b (e + 2 + k)) = true
        · rw [if_pos ⟨q, Nat.le_of_not_lt fun h4 => by rw [d4 h4] at q; cases q⟩]
        · have w7 : wnx 6 (b (e + 2 + k)) = 7 := by
            unfold wnx
            rw [if_neg (by decide), if_neg (by decide), if_neg (by decide), if_neg (by decide), if_neg (by decide), if_neg (by decide), if_pos rfl, if_neg c59, if_neg q]
          rw [if_neg (fun h => q h.1), if_pos w7]
      · rw [show e + 2 + k = n by omega, Wf_e, if_neg (by omega)]
