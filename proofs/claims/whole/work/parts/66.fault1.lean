/-! a new FAULT: the class's object -/
def fA (N : Nat) (rm kv sv ey : Int32) (k : Nat) : Int32 := if k = 6 then ey else if k = 5 then sv else if k = 3 then kv else if k = 2 then rm else if k = 0 then nI N else if k = 13 then 0 else if k = 12 then -1 else 0
def rA (N h kd : Nat) (go : Option Nat) (k : Nat) : Option Nat := if k = 8 then go else if k = 4 then some kd else if k = 1 then some h else if k = 7 then some N else none
/-- what is said of the state behind Fault's constructor -/
def NF (σ : zSt) (N h kd : Nat) (rm kv sv ey : Int32) (cr : Bool) (s : zSt) : Prop :=
  (∀ i k, gI s 1 i k = if i = N then fA N rm kv sv ey k else gI σ 1 i k) ∧ (∀ a i k, a = 4 ∨ a = 500 ∨ a = 501 ∨ a = 502 → gI s a i k = if i = N then 0 else gI σ a i k) ∧
  (∀ a i k, a = 3 ∨ a = 400 ∨ a = 401 → i < gN σ 3 → gI s a i k = gI σ a i k) ∧ (cr = true → gI s 3 (gN σ 3) 2 = 0) ∧
  (∀ a, a ≠ 1 ∧ a ≠ 3 ∧ a ≠ 4 ∧ a ≠ 400 ∧ a ≠ 401 ∧ a ≠ 500 ∧ a ≠ 501 ∧ a ≠ 502 → gI s a = gI σ a) ∧
  (∀ i k, gR s 1 i k = if i = N then rA N h kd (if cr then some (gN σ 3) else none) k else gR σ 1 i k) ∧ (∀ i k, gR s 4 i k = if i = N then (if k < 3 then some N else none) else gR σ 4 i k) ∧
  (∀ i k, i < gN σ 3 → gR s 3 i k = gR σ 3 i k) ∧ (cr = true → gR s 3 (gN σ 3) 0 = some (gN σ 3) ∧ gR s 3 (gN σ 3) 1 = some (gN σ 3)) ∧
  (∀ a, a ≠ 1 ∧ a ≠ 3 ∧ a ≠ 4 ∧ a ≠ 400 ∧ a ≠ 401 ∧ a ≠ 500 ∧ a ≠ 501 ∧ a ≠ 502 → gR s a = gR σ a) ∧
  (∀ a, gN s a = if a = 1 ∨ a = 4 ∨ a = 500 ∨ a = 501 ∨ a = 502 ∨ (cr = true ∧ (a = 3 ∨ a = 400 ∨ a = 401)) then gN σ a + 1 else gN σ a) ∧ gZ s 1100 = gZ σ 1100
/-- up to where the crack is asked for -/
def nfA (σ : zSt) (N h kd : Nat) (rm kv sv ey : Int32) : zSt := pI (pI (pR (pI (pI (pR (pI (pI (pI (pR (pR (nw (pR (nw (pR (nw (nw (nw σ 1 0) 4 0) 500 30) 4 N 0 (some N)) 501 30) 4 N 1 (some N)) 502 30) 4 N 2 (some N)) 1 N 7 (some N)) 1 N 12 (-1)) 1 N 13 0) 1 N 0 (nI N)) 1 N 1 (some h)) 1 N 2 rm) 1 N 3 kv) 1 N 4 (some kd)) 1 N 5 sv) 1 N 6 ey
def nfB (s : zSt) (G : Nat) : zSt := pR (nw (pR (nw (nw s 3 0) 400 12) 3 G 0 (some G)) 401 12) 3 G 1 (some G)
theorem nfA_I {σ : zSt} {N h kd : Nat} {rm kv sv ey : Int32} (h1 : gN σ 1 = N) (h4 : gN σ 4 = N) (h500 : gN σ 500 = N) (h501 : gN σ 501 = N) (h502 : gN σ 502 = N) :
    (∀ i k, gI (nfA σ N h kd rm kv sv ey) 1 i k = if i = N then fA N rm kv sv ey k else gI σ 1 i k) ∧ (∀ a i k, a = 4 ∨ a = 500 ∨ a = 501 ∨ a = 502 → gI (nfA σ N h kd rm kv sv ey) a i k = if i = N then 0 else gI σ a i k) ∧
    (∀ a, a ≠ 1 ∧ a ≠ 4 ∧ a ≠ 500 ∧ a ≠ 501 ∧ a ≠ 502 → gI (nfA σ N h kd rm kv sv ey) a = gI σ a) := by
  refine ⟨fun i k => ?_, fun a i k ha => ?_, fun a ha => ?_⟩
  · unfold nfA fA
    by_cases e : i = N
    · subst e
      simp [gI_pI, gI_pR, gI_nw, gN_pI, gN_pR, gN_nw, h1]
    · simp [gI_pI, gI_pR, gI_nw, gN_pI, gN_pR, gN_nw, h1, e]
  · unfold nfA
    rcases ha with rfl | rfl | rfl | rfl
    · simp [gI_pI, gI_pR, gI_nw, gN_pI, gN_pR, gN_nw, h4]
    · simp [gI_pI, gI_pR, gI_nw, gN_pI, gN_pR, gN_nw, h500]
    · simp [gI_pI, gI_pR, gI_nw, gN_pI, gN_pR, gN_nw, h501]
    · simp [gI_pI, gI_pR, gI_nw, gN_pI, gN_pR, gN_nw, h502]
  · unfold nfA
    funext i k
    obtain ⟨a1, a4, a500, a501, a502⟩ := ha
    simp only [gI_pI, gI_pR, gI_nw, a1, a4, a500, a501, a502, false_and, if_false]
theorem nfA_R {σ : zSt} {N h kd : Nat} {rm kv sv ey : Int32} (h1 : gN σ 1 = N) (h4 : gN σ 4 = N) :
    (∀ i k, gR (nfA σ N h kd rm kv sv ey) 1 i k = if i = N then rA N h kd none k else gR σ 1 i k) ∧ (∀ i k, gR (nfA σ N h kd rm kv sv ey) 4 i k = if i = N then (if k < 3 then some N else none) else gR σ 4 i k) ∧
    (∀ a, a ≠ 1 ∧ a ≠ 4 ∧ a ≠ 500 ∧ a ≠ 501 ∧ a ≠ 502 → gR (nfA σ N h kd rm kv sv ey) a = gR σ a) ∧
    (∀ a, gN (nfA σ N h kd rm kv sv ey) a = if a = 1 ∨ a = 4 ∨ a = 500 ∨ a = 501 ∨ a = 502 then gN σ a + 1 else gN σ a) ∧ gZ (nfA σ N h kd rm kv sv ey) 1100 = gZ σ 1100 := by
  refine ⟨fun i k => ?_, fun i k => ?_, fun a ha => ?_, fun a => ?_, ?_⟩
  · unfold nfA rA
    by_cases e : i = N
    · subst e
      by_cases e8 : k = 8
      · subst e8
        simp [gR_pI, gR_pR, gR_nw, gN_pI, gN_pR, gN_nw, h1]
      · simp [gR_pI, gR_pR, gR_nw, gN_pI, gN_pR, gN_nw, h1, e8]
    · simp [gR_pI, gR_pR, gR_nw, gN_pI, gN_pR, gN_nw, h1, e]
  · unfold nfA
    by_cases e : i = N
    · subst e
      by_cases k0 : k = 0
      · subst k0; simp [gR_pI, gR_pR, gR_nw, gN_pI, gN_pR, gN_nw, h4]
      · by_cases k1 : k = 1
        · subst k1; simp [gR_pI, gR_pR, gR_nw, gN_pI, gN_pR, gN_nw, h4]
        · by_cases k2 : k = 2
          · subst k2; simp [gR_pI, gR_pR, gR_nw, gN_pI, gN_pR, gN_nw, h4]
          · have : ¬ k < 3 := by omega
            simp [gR_pI, gR_pR, gR_nw, gN_pI, gN_pR, gN_nw, h4, k0, k1, k2, this]
    · simp [gR_pI, gR_pR, gR_nw, gN_pI, gN_pR, gN_nw, h4, e]
  · unfold nfA
    funext i k
    obtain ⟨a1, a4, a500, a501, a502⟩ := ha
    simp only [gR_pI, gR_pR, gR_nw, a1, a4, a500, a501, a502, false_and, if_false]
  · unfold nfA
    simp only [gN_pI, gN_pR, gN_nw]
    by_cases e1 : a = 1
    · subst e1; simp
    · by_cases e4 : a = 4
      · subst e4; simp
      · by_cases e5 : a = 500
        · subst e5; simp
        · by_cases e6 : a = 501
          · subst e6; simp
          · by_cases e7 : a = 502
            · subst e7; simp
            · simp [e1, e4, e5, e6, e7]
  · funext b
    unfold nfA
    simp [gZ_pI, gZ_pR, gZ_nw]
theorem nfB_at {s : zSt} {G : Nat} (h3 : gN s 3 = G) (h400 : gN s 400 = G) (h401 : gN s 401 = G) :
    (∀ a i k, a = 3 ∨ a = 400 ∨ a = 401 → gI (nfB s G) a i k = if i = G then 0 else gI s a i k) ∧ (∀ a, a ≠ 3 ∧ a ≠ 400 ∧ a ≠ 401 → gI (nfB s G) a = gI s a ∧ gR (nfB s G) a = gR s a) ∧
    (∀ i k, i ≠ G → gR (nfB s G) 3 i k = gR s 3 i k) ∧ (gR (nfB s G) 3 G 0 = some G ∧ gR (nfB s G) 3 G 1 = some G) ∧ (∀ a, gN (nfB s G) a = if a = 3 ∨ a = 400 ∨ a = 401 then gN s a + 1 else gN s a) ∧ gZ (nfB s G) 1100 = gZ s 1100 := by
  refine ⟨fun a i k ha => ?_, fun a ha => ⟨?_, ?_⟩, fun i k hi => ?_, ⟨?_, ?_⟩, fun a => ?_, ?_⟩
  · unfold nfB
    rcases ha with rfl | rfl | rfl
    · simp [gI_pI, gI_pR, gI_nw, gN_pI, gN_pR, gN_nw, h3]
    · simp [gI_pI, gI_pR, gI_nw, gN_pI, gN_pR, gN_nw, h400]
    · simp [gI_pI, gI_pR, gI_nw, gN_pI, gN_pR, gN_nw, h401]
  · unfold nfB
    funext i k
    obtain ⟨a3, a4, a5⟩ := ha
    simp only [gI_pI, gI_pR, gI_nw, a3, a4, a5, false_and, if_false]
  · unfold nfB
    funext i k
    obtain ⟨a3, a4, a5⟩ := ha
    simp only [gR_pI, gR_pR, gR_nw, a3, a4, a5, false_and, if_false]
  · unfold nfB
    simp [gR_pI, gR_pR, gR_nw, gN_pI, gN_pR, gN_nw, h3, hi]
  · unfold nfB
    simp [gR_pI, gR_pR, gR_nw, gN_pI, gN_pR, gN_nw, h3]
  · unfold nfB
    simp [gR_pI, gR_pR, gR_nw, gN_pI, gN_pR, gN_nw, h3]
  · unfold nfB
    simp only [gN_pI, gN_pR, gN_nw]
    by_cases e1 : a = 3
    · subst e1; simp
    · by_cases e4 : a = 400
      · subst e4; simp
      · by_cases e5 : a = 401
        · subst e5; simp
        · simp [e1, e4, e5]
  · funext b
    unfold nfB
    simp [gZ_pI, gZ_pR, gZ_nw]
theorem c_newFault {σ : zSt} (hC : vC σ) {N h kd : Nat} {rm kv sv ey : Int32} (hN : gN σ 1 = N) (cr : Bool) (hcr : gI σ 7 kd 2 &&& 2 = 0 ↔ cr = false) : ∃ s, f1_init N (nI N) h rm kv kd sv ey (nw σ 1 0) = some ((), s) ∧ NF σ N h kd rm kv sv ey cr s := by
  obtain ⟨-, -, -, -, -, -, c4, c500, c501, c502, -, -, c400, c401, -⟩ := hC
  rw [hN] at c4 c500 c501 c502
  obtain ⟨i1, i2, i3⟩ := nfA_I (h := h) (kd := kd) (rm := rm) (kv := kv) (sv := sv) (ey := ey) hN c4 c500 c501 c502
  obtain ⟨r1, r2, r3, r4, r5⟩ := nfA_R (h := h) (kd := kd) (rm := rm) (kv := kv) (sv := sv) (ey := ey) hN c4
  have run : f1_init N (nI N) h rm kv kd sv ey (nw σ 1 0) = if gI σ 7 kd 2 &&& 2 = 0 then some ((), pR (nfA σ N h kd rm kv sv ey) 1 N 8 none) else zc2 (f3_init (gN (nfA σ N h kd rm kv sv ey) 3) (nw (nfA σ N h kd rm kv sv ey) 3 0)) (fun _ s24 => some ((), pR s24 1 N 8 (some (gN (nfA σ N h kd rm kv sv ey) 3)))) := by
    unfold f1_init f4_init
    have e4 : gN (nw σ 1 0) 4 = N := c4
    have e5 : gN (nw (nw σ 1 0) 4 0) 500 = N := c500
    have e6 : gN (pR (nw (nw (nw σ 1 0) 4 0) 500 30) 4 N 0 (some N)) 501 = N := c501
    have e7 : gN (pR (nw (pR (nw (nw (nw σ 1 0) 4 0) 500 30) 4 N 0 (some N)) 501 30) 4 N 1 (some N)) 502 = N := c502
    rw [e4, zlt_s, zlt_s, e5, zlt_s, zlt_s, zlt_s, e6, zlt_s, zlt_s, zlt_s, e7, zlt_s, zlt_s, zlt_s, zc2_s]
    have eh : f7_has kd 2 (nfA σ N h kd rm kv sv ey) = some (if gI σ 7 kd 2 &&& 2 = 0 then 0 else 1) := by
      unfold f7_has
      rw [i3 7 (by decide), ite_some]
    show zc1 (f7_has kd 2 (nfA σ N h kd rm kv sv ey)) _ = _
    rw [eh, zc1_s]
    by_cases e : gI σ 7 kd 2 &&& 2 = 0
    · rw [if_pos e, if_pos e]
      rfl
    · rw [if_neg e, if_neg e]
      rfl
  rw [run]
  cases cr
  · rw [if_pos (hcr.mpr rfl)]
    refine ⟨_, rfl, fun i k => i1 i k, fun a i k ha => i2 a i k ha, fun a i k ha hi => ?_, fun e => (by cases e), fun a ha => i3 a (by omega), fun i k => ?_, fun i k => r2 i k, fun i k hi => ?_, fun e => (by cases e), fun a ha => ?_, fun a => ?_, r5⟩
    · rw [gI_R, i3 a (by omega)]
    · rw [gR_pR, r1]
      by_cases e : i = N
      · subst e
        rw [if_pos rfl, if_pos rfl]
        by_cases e8 : k = 8
        · rw [if_pos ⟨rfl, rfl, e8⟩, e8]; rfl
        · rw [if_neg (fun hh => e8 hh.2.2)]; rfl
      · rw [if_neg (fun hh => e hh.2.1), if_neg e, if_neg e]
    · show gR (nfA σ N h kd rm kv sv ey) 3 i k = _
      rw [r3 3 (by decide)]
    · rw [gR_ne (by omega), r3 a (by omega)]
    · rw [gN_R, r4]
      simp
  · have hne : ¬ gI σ 7 kd 2 &&& 2 = 0 := fun e => by have := hcr.mp e; cases this
    have g3 : gN (nfA σ N h kd rm kv sv ey) 3 = gN σ 3 := by rw [r4, if_neg (by decide)]
    have g400 : gN (nfA σ N h kd rm kv sv ey) 400 = gN σ 3 := by rw [r4, if_neg (by decide), c400]
    have g401 : gN (nfA σ N h kd rm kv sv ey) 401 = gN σ 3 := by rw [r4, if_neg (by decide), c401]
    have run3 : f3_init (gN σ 3) (nw (nfA σ N h kd rm kv sv ey) 3 0) = some ((), nfB (nfA σ N h kd rm kv sv ey) (gN σ 3)) := by
      unfold f3_init
      have q1 : gN (nw (nfA σ N h kd rm kv sv ey) 3 0) 400 = gN σ 3 := g400
      have q2 : gN (pR (nw (nw (nfA σ N h kd rm kv sv ey) 3 0) 400 12) 3 (gN σ 3) 0 (some (gN σ 3))) 401 = gN σ 3 := g401
      rw [q1, zlt_s, zlt_s, zlt_s, q2, zlt_s, zlt_s, zlt_s]
      rfl
    obtain ⟨b1, b2, b3, b4, b5, b6⟩ := nfB_at g3 g400 g401
    rw [if_neg hne, g3, run3, zc2_s]
    refine ⟨_, rfl, fun i k => ?_, fun a i k ha => ?_, fun a i k ha hi => ?_, fun _ => ?_, fun a ha => ?_, fun i k => ?_, fun i k => ?_, fun i k hi => ?_, fun _ => ⟨b4.1, b4.2⟩, fun a ha => ?_, fun a => ?_, ?_⟩
    · rw [gI_R, (b2 1 (by decide)).1]
      exact i1 i k
    · rw [gI_R, (b2 a (by omega)).1]
      exact i2 a i k ha
    · rw [gI_R, b1 a i k ha, if_neg (by omega), i3 a (by omega)]
    · rw [gI_R, b1 3 _ _ (Or.inl rfl), if_pos rfl]
    · rw [gI_R, (b2 a (by omega)).1, i3 a (by omega)]
    · rw [gR_pR, (b2 1 (by decide)).2, r1]
      by_cases e : i = N
      · subst e
        rw [if_pos rfl, if_pos rfl]
        by_cases e8 : k = 8
        · rw [if_pos ⟨rfl, rfl, e8⟩, e8]; rfl
        · rw [if_neg (fun hh => e8 hh.2.2)]
          unfold rA
          rw [if_neg e8, if_neg e8]
      · rw [if_neg (fun hh => e hh.2.1), if_neg e, if_neg e]
    · show gR (nfB (nfA σ N h kd rm kv sv ey) (gN σ 3)) 4 i k = _
      rw [(b2 4 (by decide)).2]
      exact r2 i k
    · show gR (nfB (nfA σ N h kd rm kv sv ey) (gN σ 3)) 3 i k = _
      rw [b3 i k (by omega), r3 3 (by decide)]
    · rw [gR_ne (by omega), (b2 a (by omega)).2, r3 a (by omega)]
    · rw [gN_R, b5, r4]
      by_cases e3 : a = 3 ∨ a = 400 ∨ a = 401
      · rw [if_pos e3, if_neg (by omega), if_pos (Or.inr (Or.inr (Or.inr (Or.inr (Or.inr ⟨rfl, e3⟩)))))]
      · rw [if_neg e3]
        by_cases e4 : a = 1 ∨ a = 4 ∨ a = 500 ∨ a = 501 ∨ a = 502
        · rw [if_pos e4, if_pos (by omega)]
        · rw [if_neg e4, if_neg (by omega)]
    · show gZ (nfB (nfA σ N h kd rm kv sv ey) (gN σ 3)) 1100 = _
      rw [b6, r5]
theorem NF_zOK {σ s : zSt} {N h kd : Nat} {rm kv sv ey : Int32} {cr : Bool} (hN : gN σ 1 = N) (h4 : gN σ 4 = N) (H : NF σ N h kd rm kv sv ey cr s) (hO : zOK σ) : zOK s := by
  obtain ⟨-, -, -, -, -, r1, r4, r3, r3', rr, nn, -⟩ := H
  intro t i k j hi hf
  rw [nn] at hi
  by_cases t1 : t = 1
  · subst t1
    rw [if_pos (Or.inl rfl), hN] at hi
    rw [r1]
    by_cases e : i = N
    · subst e
      by_cases e7 : k = 7
      · subst e7
        have : i = j := by simpa [zfin] using hf
        rw [if_pos rfl, ← this]
        rfl
      · simp [zfin, e7] at hf
    · rw [if_neg e]
      exact hO 1 i k j (by omega) hf
  · by_cases t4 : t = 4
    · subst t4
      rw [if_pos (Or.inr (Or.inl rfl)), h4] at hi
      rw [r4]
      by_cases e : i = N
      · subst e
        rw [if_pos rfl]
        by_cases e0 : k = 0
        · subst e0
          have : i = j := by simpa [zfin] using hf
          rw [← this]; rfl
        · by_cases e1 : k = 1
          · subst e1
            have : i = j := by simpa [zfin] using hf
            rw [← this]; rfl
          · by_cases e2 : k = 2
            · subst e2
              have : i = j := by simpa [zfin] using hf
              rw [← this]; rfl
            · simp [zfin, e0, e1, e2] at hf
      · rw [if_neg e]
        exact hO 4 i k j (by omega) hf
    · by_cases t3 : t = 3
      · subst t3
        by_cases e : i < gN σ 3
        · rw [r3 i k e]
          exact hO 3 i k j e hf
        · cases cr
          · rw [if_neg (by simp)] at hi
            omega
          · rw [if_pos (by simp)] at hi
            have ei : i = gN σ 3 := by omega
            by_cases e0 : k = 0
            · subst e0
              have : i = j := by simpa [zfin] using hf
              rw [← this, ei]; exact (r3' rfl).1
            · by_cases e1 : k = 1
              · subst e1
                have : i = j := by simpa [zfin] using hf
                rw [← this, ei]; exact (r3' rfl).2
              · simp [zfin, e0, e1] at hf
      · by_cases t5 : t = 400 ∨ t = 401 ∨ t = 500 ∨ t = 501 ∨ t = 502
        · rcases t5 with rfl | rfl | rfl | rfl | rfl <;> cases hf
        · rw [if_neg (by omega)] at hi
          rw [rr t (by omega)]
          exact hO t i k j hi hf
