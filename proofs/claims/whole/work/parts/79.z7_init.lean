/-! both made: the state that the loop starts with -/
def lkI : List (Nat × Nat × Nat × Int32) → Nat → Nat → Nat → Int32
  | [], _, _, _ => 0
  | (a, b, c, v) :: F, t, i, k => if t = a ∧ i = b ∧ k = c then v else lkI F t i k
def lkR : List (Nat × Nat × Nat × Nat) → Nat → Nat → Nat → Option Nat
  | [], _, _, _ => none
  | (a, b, c, v) :: F, t, i, k => if t = a ∧ i = b ∧ k = c then some v else lkR F t i k
def SS (s : zSt) (F : List (Nat × Nat × Nat × Int32)) (R : List (Nat × Nat × Nat × Nat)) (N : List Nat) : Prop := gI s = lkI F ∧ gR s = lkR R ∧ ∀ t, gN s t = N.count t
def frI (F : List (Nat × Nat × Nat × Int32)) (t i : Nat) : Bool := F.all fun e => !(decide (e.1 = t) && decide (e.2.1 = i))
def frO (R : List (Nat × Nat × Nat × Nat)) (t i : Nat) : Bool := R.all fun e => !(decide (e.1 = t) && decide (e.2.1 = i))
theorem lkI_0 {t i : Nat} : ∀ {F : List (Nat × Nat × Nat × Int32)}, frI F t i = true → ∀ k, lkI F t i k = 0
  | [], _, _ => rfl
  | (a, b, c, v) :: F, h, k => by
    unfold frI at h
    rw [List.all_cons, Bool.and_eq_true] at h
    have h1 := h.1
    rw [lkI, if_neg (fun hh => by rw [show decide ((a, b, c, v).1 = t) = true from decide_eq_true hh.1.symm, show decide ((a, b, c, v).2.1 = i) = true from decide_eq_true hh.2.1.symm] at h1; cases h1)]
    exact lkI_0 (F := F) h.2 k
theorem lkR_0 {t i : Nat} : ∀ {F : List (Nat × Nat × Nat × Nat)}, frO F t i = true → ∀ k, lkR F t i k = none
  | [], _, _ => rfl
  | (a, b, c, v) :: F, h, k => by
    unfold frO at h
    rw [List.all_cons, Bool.and_eq_true] at h
    have h1 := h.1
    rw [lkR, if_neg (fun hh => by rw [show decide ((a, b, c, v).1 = t) = true from decide_eq_true hh.1.symm, show decide ((a, b, c, v).2.1 = i) = true from decide_eq_true hh.2.1.symm] at h1; cases h1)]
    exact lkR_0 (F := F) h.2 k
def Run (p : Option (Unit × zSt)) (Q : zSt → Prop) : Prop := ∃ s', p = some ((), s') ∧ Q s'
theorem Run.bind {p : Option (Unit × zSt)} {Q1 Q : zSt → Prop} {K : Unit → zSt → Option (Unit × zSt)} (h : Run p Q1) (hK : ∀ s, Q1 s → Run (K () s) Q) : Run (zc2 p K) Q := by
  obtain ⟨s, e, q⟩ := h
  rw [e, zc2_s]
  exact hK s q
theorem Run.fin {s : zSt} {Q : zSt → Prop} (h : Q s) : Run (some ((), s)) Q := ⟨s, rfl, h⟩
section
variable {s : zSt} {F : List (Nat × Nat × Nat × Int32)} {R : List (Nat × Nat × Nat × Nat)} {N : List Nat}
theorem ss_nw (h : SS s F R N) {t n v : Nat} (hv : N.count t = v) (c1 : frI F t v = true) (c2 : frO R t v = true) : SS (nw s t n) F R (t :: N) := by
  obtain ⟨h1, h2, h3⟩ := h
  refine ⟨?_, ?_, fun a => ?_⟩
  · funext a b c
    rw [gI_nw, h3, hv, h1]
    by_cases e : a = t ∧ b = v
    · rw [if_pos e, e.1, e.2, lkI_0 c1]
    · rw [if_neg e]
  · funext a b c
    rw [gR_nw, h3, hv, h2]
    by_cases e : a = t ∧ b = v
    · rw [if_pos e, e.1, e.2, lkR_0 c2]
    · rw [if_neg e]
  · rw [gN_nw, List.count_cons, h3, h3]
    by_cases e : a = t
    · rw [if_pos e, e, if_pos (beq_self_eq_true t)]
    · rw [if_neg e, if_neg (fun hh => e (eq_of_beq hh).symm)]
      rfl
theorem ss_obj (h : SS s F R N) {t n : Nat} (v : Nat) (hv : N.count t = v) (c1 : frI F t v = true) (c2 : frO R t v = true) {K : Nat → zSt → Option (Unit × zSt)} {Q : zSt → Prop} (hK : ∀ s2, SS s2 F R (t :: N) → Run (K v s2) Q) : Run (zlt (gN s t) fun i => zlt (nw s t n) (K i)) Q := by
  rw [zlt_s, zlt_s, h.2.2, hv]
  exact hK _ (ss_nw h hv c1 c2)
theorem ss_R (h : SS s F R N) {t i k v : Nat} {K : zSt → Option (Unit × zSt)} {Q : zSt → Prop} (hK : ∀ s2, SS s2 F ((t, i, k, v) :: R) N → Run (K s2) Q) : Run (zlt (pR s t i k (some v)) K) Q := by
  rw [zlt_s]
  refine hK _ ⟨?_, ?_, h.2.2⟩
  · rw [← h.1]; rfl
  · funext a b c
    rw [gR_pR, h.2.1]
    rfl
theorem ss_pI (h : SS s F R N) {t i k : Nat} {v : Int32} : SS (pI s t i k v) ((t, i, k, v) :: F) R N := by
  refine ⟨?_, ?_, h.2.2⟩
  · funext a b c
    rw [gI_pI, h.1]
    rfl
  · rw [← h.2.1]; rfl
theorem ss_I (h : SS s F R N) {t i k : Nat} {v : Int32} {K : zSt → Option (Unit × zSt)} {Q : zSt → Prop} (hK : ∀ s2, SS s2 ((t, i, k, v) :: F) R N → Run (K s2) Q) : Run (zlt (pI s t i k v) K) Q := by
  rw [zlt_s]
  exact hK _ (ss_pI h)
def ff (t : Nat) : Nat → List (Nat × Nat × Nat × Int32) → List (Nat × Nat × Nat × Int32)
  | 0, F => F
  | k + 1, F => (t, 0, k, 1) :: ff t k F
theorem r_fill : ∀ e k m (s : zSt), k + e = 10 → e < m → SS s (ff 100 k F) R N → Run (fJ7_fill_53178_L5 0 1 (nI 10) m (nI k) s) (fun s' => SS s' (ff 100 10 F) R N) := by
  intro e
  induction e with
  | zero =>
    intro k m s hk hm h
    obtain ⟨m, rfl⟩ : ∃ r, m = r + 1 := ⟨m - 1, by omega⟩
    obtain rfl : k = 10 := by omega
    rw [fJ7_fill_53178_L5, if_pos (zn_rle _)]
    exact Run.fin h
  | succ e ih =>
    intro k m s hk hm h
    obtain ⟨m, rfl⟩ : ∃ r, m = r + 1 := ⟨m - 1, by omega⟩
    rw [fJ7_fill_53178_L5, if_neg (zn_nle (show k < 10 by omega) (by omega))]
    rw [zix_s (show k < 10 by omega) (by decide), zlt_s, nI_suc k (by omega), zlt_s]
    exact ih (k + 1) m _ (by omega) (by omega) (ss_pI h)
theorem r_one : ∀ e k m (s : zSt), k + e = 10 → e < m → lkR R 12 0 45 = some 0 → SS s (ff 1345 k F) R N → Run (f12_init_L462 0 m (nI k) s) (fun s' => SS s' (ff 1345 10 F) R N) := by
  intro e
  induction e with
  | zero =>
    intro k m s hk hm hr h
    obtain ⟨m, rfl⟩ : ∃ r, m = r + 1 := ⟨m - 1, by omega⟩
    obtain rfl : k = 10 := by omega
    rw [f12_init_L462, if_pos (show (10 : Int32) ≤ nI 10 from zn_rle _)]
    exact Run.fin h
  | succ e ih =>
    intro k m s hk hm hr h
    obtain ⟨m, rfl⟩ : ∃ r, m = r + 1 := ⟨m - 1, by omega⟩
    rw [f12_init_L462, if_neg (show ¬ (10 : Int32) ≤ nI k from zn_nle (N := 10) (show k < 10 by omega) (by omega)), zlt_s, h.2.1, hr, zoc_s, zix_s (show k < 10 by omega) (by decide), zlt_s, nI_suc k (by omega), zlt_s]
    exact ih (k + 1) m _ (by omega) (by omega) hr (ss_pI h)
theorem r_9 (h : SS s F R N) {i : Nat} (v : Nat) (hv : N.count 1000 = v) (c1 : frI F 1000 v = true) (c2 : frO R 1000 v = true) : Run (f9_init i s) (fun s' => SS s' F ((9, i, 0, v) :: R) (1000 :: N)) := by
  unfold f9_init
  refine ss_obj h v hv c1 c2 (fun s h => ?_)
  refine ss_R h (fun s h => ?_)
  exact Run.fin h
end
