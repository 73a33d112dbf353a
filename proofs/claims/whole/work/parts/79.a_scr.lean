/-! scratch fields: what nobody reads after the call -/
def nscA (t : Nat) : Bool := decide (1300 ≤ t ∧ t ≤ 1354) || decide (t ∈ [100, 103, 400, 401, 500, 501, 502, 610, 611, 1100, 1210, 1217, 1361, 0, 1, 3, 4, 5, 7, 9, 10, 11])
def nsc (t k : Nat) : Bool := nscA t || (decide (t = 12) && (decide (k ≤ 55) || decide (k = 62)))
theorem off_of {A : List Nat} {S : List (Nat × Nat)} {t k : Nat} (hA : A.all nscA = true) (hS : (S.all fun p => nsc p.1 p.2) = true) (h : nsc t k = false) : zoff A S t k = true := by
  unfold zoff
  rw [Bool.and_eq_true]
  constructor
  · rw [List.all_eq_true]
    intro a ha
    have h1 := List.all_eq_true.mp hA a ha
    cases e : a == t
    · rfl
    · have e := eq_of_beq e
      rw [e] at h1
      unfold nsc at h
      rw [h1] at h
      cases h
  · rw [List.all_eq_true]
    intro p hp
    have h1 := List.all_eq_true.mp hS p hp
    cases e : (p.1 == t && p.2 == k)
    · rfl
    · rw [Bool.and_eq_true] at e
      rw [eq_of_beq e.1, eq_of_beq e.2, h] at h1
      cases h1
theorem Inv_scr {σ : zSt} (h : Inv σ) {t k : Nat} (hs : nsc t k = false) (i : Nat) (v : Int32) : Inv (pI σ t i k v) := by
  obtain ⟨hO, hC, hN, hH, hK, hF, hS, hL, hG, hD, hT, hX, hZ⟩ := h
  exact ⟨hO, fr_vC_I (off_of (by decide) (by decide) hs) hC, fr_vN_I (off_of (by decide) (by decide) hs) hN, fr_vH_I (off_of (by decide) (by decide) hs) hH, fr_vK_I (off_of (by decide) (by decide) hs) hK, fr_vF_I (off_of (by decide) (by decide) hs) hF, fr_vS_I (off_of (by decide) (by decide) hs) hS, fr_vL_I (off_of (by decide) (by decide) hs) hL, fr_vG_I (off_of (by decide) (by decide) hs) hG, fr_vD_I (off_of (by decide) (by decide) hs) hD, fr_vT_I (off_of (by decide) (by decide) hs) hT, fr_vX_I (off_of (by decide) (by decide) hs) hX, fr_vZ_I (off_of (by decide) (by decide) hs) hZ⟩
/-- s came of σ by writes to scratch fields -/
def Ch (s σ : zSt) : Prop := (Inv σ → Inv s) ∧ (∀ t k, nsc t k = true → ∀ i, gI s t i k = gI σ t i k) ∧ gR s = gR σ ∧ gN s = gN σ ∧ gZ s = gZ σ
theorem Ch.rf {σ : zSt} : Ch σ σ := ⟨fun h => h, fun _ _ _ _ => rfl, rfl, rfl, rfl⟩
theorem Ch.I {s σ : zSt} (h : Ch s σ) {t k : Nat} (hs : nsc t k = false) {i : Nat} {v : Int32} : Ch (pI s t i k v) σ :=
  ⟨fun q => Inv_scr (h.1 q) hs i v, fun t' k' q i' => by
    rw [gI_nk (fun e => by rw [e.1, e.2, hs] at q; cases q), h.2.1 t' k' q i'], h.2.2.1, h.2.2.2.1, h.2.2.2.2⟩
theorem Ch.tr {s u σ : zSt} (h : Ch s u) (h2 : Ch u σ) : Ch s σ :=
  ⟨fun q => h.1 (h2.1 q), fun t k q i => (h.2.1 t k q i).trans (h2.2.1 t k q i), h.2.2.1.trans h2.2.2.1, h.2.2.2.1.trans h2.2.2.2.1, h.2.2.2.2.trans h2.2.2.2.2⟩
theorem nscA_c {t : Nat} (h : nscA t = true) (k : Nat) : nsc t k = true := by unfold nsc; rw [h]; rfl
theorem Ch.A {s σ : zSt} (h : Ch s σ) {t : Nat} (ht : nscA t = true) : gI s t = gI σ t := by
  funext i k
  exact h.2.1 t k (nscA_c ht k) i
theorem Ch.ry {s σ : zSt} (h : Ch s σ) : RY s σ := ⟨fun a h1 h2 => h.A (by unfold nscA; rw [decide_eq_true ⟨h1, h2⟩]; rfl), fun c hc => h.2.1 12 c (by unfold nsc; rw [decide_eq_true rfl, decide_eq_true (show c ≤ 55 by omega)]; rfl) 0⟩
theorem Ch_rd {s σ : zSt} (h : Ch s σ) {a F o : Int32} : Ch (rdS s a F o) σ := by
  unfold rdS
  exact ((h.I rfl).I rfl).I rfl
