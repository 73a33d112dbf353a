/-! plans: the reference's search -/
def Tr (s : zSt) (q : Nat) (x : Nat → Nat) (i : Nat) : Prop := ∀ k, k < i → gI s 1360 0 k = enc q (x k)
def Bst (σ s : zSt) (J q : Nat) (B : Option (Nat → Nat)) : Prop := match B with
  | none => gI s 12 0 63 = -1
  | some β => gI s 12 0 63 = nI (qW (jsv σ) (jlt σ q) β J) ∧ gI s 12 0 64 = nI (qL β J) ∧ gI s 12 0 65 = nI (qA q β J) ∧ ∀ k, k < J → gI s 1361 0 k = enc q (β k)
def pkk (σ : zSt) (J q : Nat) (x : Nat → Nat) : Nat := pck (jsv σ) (jlt σ q) x J
def Fe (σ : zSt) (J D q : Nat) (x : Nat → Nat) : Prop := Fea J D (jav σ q) (jtr σ) (jmn σ) x
def domB (σ : zSt) (J q : Nat) (B : Option (Nat → Nat)) (y : Nat → Nat) : Prop := ∃ β, B = some β ∧ pkk σ J q β ≤ pkk σ J q y
def GoR (σ : zSt) (J D q i : Nat) (x : Nat → Nat) (B : Option (Nat → Nat)) (bd : Nat) (s' : zSt) : Prop := GO s' σ ∧ Tr s' q x i ∧ ∃ β, Bst σ s' J q (some β) ∧ Fe σ J D q β ∧ qG β J < bd ∧ (∀ y, Fe σ J D q y → (∀ k, k < i → y k = x k) → pkk σ J q β ≤ pkk σ J q y) ∧ ∀ β0, B = some β0 → pkk σ J q β ≤ pkk σ J q β0
theorem qb {σ : zSt} {J D q : Nat} (h : RI σ) (P : PLC σ J D q) {x : Nat → Nat} {n : Nat} (hn : n ≤ J) (hx : ∀ k, k < n → x k ≤ 14) : qW (jsv σ) (jlt σ q) x n ≤ 63 ∧ qL x n ≤ 7 ∧ qA q x n ≤ 70084 := by
  have J7 := P.2.1
  have q9 := P.2.2.2.1
  have w := qW_le (jsv σ) (jlt σ q) (x := x) (n := n) (fun i hi => (j_st h P (show i < J by omega)).2.2.2.2.2.2.2.2.2.2.2.2.2)
  have l := qL_le x n
  have a := qA_le (q := q) (x := x) (n := n) (by omega) hx
  have : 9 * n ≤ 63 := by omega
  have : 10012 * n ≤ 70084 := by omega
  exact ⟨by omega, by omega, by omega⟩
theorem enc_c {q d : Nat} (hd : d ≤ 14) (hq : q ≤ 9999) : (0 ≤ enc q d) ↔ ¬ d = 14 := by
  unfold enc
  by_cases c : d = 14
  · rw [if_pos c]
    exact ⟨fun h => absurd h (by decide), fun h => absurd c h⟩
  · rw [if_neg c]
    exact ⟨fun _ => c, fun _ => le0 (by omega)⟩
theorem m_L13 {σ s : zSt} {J D q : Nat} (h : RI σ) (P : PLC σ J D q) (g : GO s σ) (go : Int32 → Int32 → Int32 → Int32 → zSt → Option (Unit × zSt)) (w1 w2 w3 w4 : Int32) (K : Int32 → Int32 → Int32 → Option (Unit × zSt)) {x : Nat → Nat} {i : Nat} (hi : i ≤ J) (hx : ∀ k, k < i → x k ≤ 14) : b12_go_L13 go w1 w2 w3 w4 s K zfuel (nI (qW (jsv σ) (jlt σ q) x i)) (nI (qL x i)) (nI (qA q x i)) (nI i) = K (nI (qW (jsv σ) (jlt σ q) (rlx D (jav σ q) (jtr σ) (jmn σ) x i) J)) (nI (qL (rlx D (jav σ q) (jtr σ) (jmn σ) x i) J)) (nI (qA q (rlx D (jav σ q) (jtr σ) (jmn σ) x i) J)) := by
  have J7 := P.2.1
  obtain ⟨b1, b2, b3⟩ := P.2.2.2.1
  obtain ⟨z, hz⟩ : ∃ z, z = rlx D (jav σ q) (jtr σ) (jmn σ) x i := ⟨_, rfl⟩
  have zx : ∀ k, k < i → z k = x k := fun k hk => by
    rw [hz]
    unfold rlx
    rw [if_pos hk]
  have zf : ∀ k, i ≤ k → z k = fdd D (jav σ q) (jtr σ) (jmn σ) k := fun k hk => by
    rw [hz]
    unfold rlx
    rw [if_neg (by omega)]
  have z14 : ∀ k, z k ≤ 14 := fun k => by
    by_cases c : k < i
    · rw [zx k c]; exact hx k c
    · rw [zf k (by omega)]; exact fdd_le D _ _ _ b2 k
  have eW : qW (jsv σ) (jlt σ q) x i = qW (jsv σ) (jlt σ q) z i := nsu_cg i fun k hk => by rw [zx k hk]
  have eL : qL x i = qL z i := nsu_cg i fun k hk => by rw [zx k hk]
  have eA : qA q x i = qA q z i := nsu_cg i fun k hk => by rw [zx k hk]
  have e47 : gI s 12 0 47 = nI J := by rw [g.2.1 47 (by omega), P.1]
  rw [eW, eL, eA, ← hz]
  have key : ∀ e k m, k + e = J → i ≤ k → e < m → b12_go_L13 go w1 w2 w3 w4 s K m (nI (qW (jsv σ) (jlt σ q) z k)) (nI (qL z k)) (nI (qA q z k)) (nI k) = K (nI (qW (jsv σ) (jlt σ q) z J)) (nI (qL z J)) (nI (qA q z J)) := by
    intro e
    induction e with
    | zero =>
      intro k m hk hik hm
      obtain ⟨m, rfl⟩ : ∃ r, m = r + 1 := ⟨m - 1, by omega⟩
      obtain rfl : k = J := by omega
      rw [b12_go_L13, e47, if_pos (zn_rle _)]
    | succ e ih =>
      intro k m hk hik hm
      obtain ⟨m, rfl⟩ : ∃ r, m = r + 1 := ⟨m - 1, by omega⟩
      have hkJ : k < J := by omega
      obtain ⟨a1, a2, a3, a4, a5, a6, a7, a8, a9, a10, a11, a12, a13, a14⟩ := j_st h P hkJ
      have ih := ih (k + 1) m (by omega) (by omega) (by omega)
      obtain ⟨q1, q2, q3⟩ := qb h P (x := z) (n := k) (by omega) (fun k _ => z14 k)
      have zk := z14 k
      have cw := cWt_le (jsv σ) (jlt σ q) (i := k) (d := z k) a14
      have ca : cAb q (z k) ≤ 10013 := by
        unfold cAb
        split <;> omega
      have cl : cLf (z k) ≤ 1 := by
        unfold cLf
        split <;> omega
      have r1 : qW (jsv σ) (jlt σ q) z (k + 1) = qW (jsv σ) (jlt σ q) z k + cWt (jsv σ) (jlt σ q) k (z k) := rfl
      have r2 : qL z (k + 1) = qL z k + cLf (z k) := rfl
      have r3 : qA q z (k + 1) = qA q z k + cAb q (z k) := rfl
      rw [r1, r2, r3, ← nI_add' _ _ (by omega), ← nI_add' _ _ (by omega), ← nI_add' _ _ (by omega)] at ih
      rw [b12_go_L13, e47, if_neg (zn_nle hkJ (by omega)), zix_s (show k < 7 by omega) (by decide), g.1 1346 (by decide) (by decide) (by decide), a1, m_firstDay h P g hkJ, ← zf k hik, zc1_s]
      simp only [zlt_s, zix_s (show k < 7 by omega) (show 7 < 2 ^ 31 by decide), a1, zix_s a3 (show 200 < 2 ^ 31 by decide), nI_suc k (show k + 1 < 2 ^ 31 by omega), g.1 1321 (by decide) (by decide) (by decide), g.1 1331 (by decide) (by decide) (by decide), a12]
      have ec := enc_c (q := q) zk (by omega)
      have c2 : nI (cLf (z k)) = if 0 ≤ enc q (z k) then 0 else 1 := by
        unfold cLf
        by_cases c : z k = 14
        · rw [if_pos c, if_neg (fun hh => ec.mp hh c)]; rfl
        · rw [if_neg c, if_pos (ec.mpr c)]; rfl
      have c3 : nI (cAb q (z k)) = if 0 ≤ enc q (z k) then enc q (z k) else 0 := by
        unfold cAb
        by_cases c : z k = 14
        · rw [if_pos c, if_neg (fun hh => ec.mp hh c)]; rfl
        · rw [if_neg c, if_pos (ec.mpr c)]
          unfold enc
          rw [if_neg c]
      rw [← c2, ← c3]
      by_cases c : z k = 14
      · have n0 : enc q (z k) < 0 := by
          unfold enc
          rw [if_pos c]
          decide
        have cwk : cWt (jsv σ) (jlt σ q) k (z k) = jsv σ k := by
          unfold cWt
          rw [if_pos c]
        rw [cwk] at ih
        rw [if_pos n0]
        exact ih
      · have e9 : enc q (z k) = nI (q + z k) := by
          unfold enc
          rw [if_neg c]
        have n0 : ¬ enc q (z k) < 0 := by rw [e9]; exact nn0 (by omega)
        rw [if_neg n0]
        by_cases cl2 : nI (q + z k) ≤ gI σ 1331 0 (jb σ k)
        · have cwk : cWt (jsv σ) (jlt σ q) k (z k) = 0 := by
            unfold cWt jlt
            rw [if_neg c, decide_eq_true cl2, if_neg (by decide)]
          rw [cwk] at ih
          rw [if_pos (by rw [e9]; exact cl2)]
          exact ih
        · have cwk : cWt (jsv σ) (jlt σ q) k (z k) = jsv σ k := by
            unfold cWt jlt
            rw [if_neg c, decide_eq_false cl2, if_pos (show (!false) = true from rfl)]
          rw [cwk] at ih
          rw [if_neg (by rw [e9]; exact cl2)]
          exact ih
  exact key (J - i) i zfuel (by omega) (Nat.le_refl _) (zfuel_pos (by omega))
def upn (f : Nat → Nat) (i v : Nat) : Nat → Nat := fun j => if j = i then v else f j
theorem upn_at {f : Nat → Nat} {i v : Nat} : upn f i v i = v := by unfold upn; rw [if_pos rfl]
theorem upn_ne {f : Nat → Nat} {i j v : Nat} (h : j ≠ i) : upn f i v j = f j := by unfold upn; rw [if_neg h]
theorem qW_u (sv : Nat → Nat) (lt : Nat → Nat → Bool) (x : Nat → Nat) (i d : Nat) : qW sv lt (upn x i d) (i + 1) = qW sv lt x i + cWt sv lt i d := by
  show nsu _ i + cWt sv lt i (upn x i d i) = _
  rw [upn_at, nsu_cg i (h := fun k => cWt sv lt k (x k)) fun k hk => by rw [upn_ne (by omega)]]
  rfl
theorem qL_u (x : Nat → Nat) (i d : Nat) : qL (upn x i d) (i + 1) = qL x i + cLf d := by
  show nsu _ i + cLf (upn x i d i) = _
  rw [upn_at, nsu_cg i (h := fun k => cLf (x k)) fun k hk => by rw [upn_ne (by omega)]]
  rfl
theorem qA_u (q : Nat) (x : Nat → Nat) (i d : Nat) : qA q (upn x i d) (i + 1) = qA q x i + cAb q d := by
  show nsu _ i + cAb q (upn x i d i) = _
  rw [upn_at, nsu_cg i (h := fun k => cAb q (x k)) fun k hk => by rw [upn_ne (by omega)]]
  rfl
theorem qG_u (x : Nat → Nat) (i d : Nat) : qG (upn x i d) (i + 1) = qG x i + d * dgt i := by
  show nsu _ i + upn x i d i * dgt i = _
  rw [upn_at, nsu_cg i (h := fun k => x k * dgt k) fun k hk => by rw [upn_ne (by omega)]]
  rfl
theorem Inc_u {D : Nat} {av : Nat → Nat → Bool} {tr mn : Nat → Nat} {x : Nat → Nat} {i d : Nat} (h : Inc D av tr mn x i) (hd : d ≤ 14) (h2 : d < 14 → d < D ∧ av i d = true ∧ cdt tr x d (tr i) i < mn (tr i)) : Inc D av tr mn (upn x i d) (i + 1) := by
  intro k hk
  by_cases c : k = i
  · subst c
    rw [upn_at]
    refine ⟨hd, fun hh => ?_⟩
    obtain ⟨h3, h4, h5⟩ := h2 hh
    refine ⟨h3, h4, ?_⟩
    rw [cdt_cg tr (x := upn x k d) (y := x) d (tr k) k fun j hj => upn_ne (by omega)]
    exact h5
  · rw [upn_ne c]
    obtain ⟨h3, h4⟩ := h k (by omega)
    refine ⟨h3, fun hh => ?_⟩
    obtain ⟨h5, h6, h7⟩ := h4 hh
    refine ⟨h5, h6, ?_⟩
    rw [cdt_cg tr (x := upn x i d) (y := x) (x k) (tr k) k fun j hj => upn_ne (by omega)]
    exact h7
