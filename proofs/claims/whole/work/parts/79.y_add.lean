/-! plans: the class, one day more -/
def hsP (fL fO : Nat → Nat) (A w : Nat) : Prop := w ≤ fL A ∧ (∀ P, 0 < P → P &&& A = P → w ≤ fL (A - P) + fO P) ∧ (w = fL A ∨ ∃ P, 0 < P ∧ P &&& A = P ∧ w = fL (A - P) + fO P)
theorem e_addIn {σ : zSt} {J : Nat} (J7 : J ≤ 7) {fL fO : Nat → Nat} (bL : ∀ A, A < 2 ^ J → fL A ≤ NWN) (bO : ∀ A, A < 2 ^ J → fO A ≤ NWN) {A : Nat} (hA : A < 2 ^ J) (K : zSt → Option (Unit × zSt)) :
    ∀ n P m (u : zSt) (w : Nat), P ≤ n → n < m → P &&& A = P → CO u σ → (∀ B, B < A → gL u 105 0 B = zL (fL B)) → (∀ B, B < 2 ^ J → gL u 106 0 B = zL (fO B)) → gL u 105 0 A = zL w → w ≤ fL A → (∀ Q, P < Q → Q &&& A = Q → w ≤ fL (A - Q) + fO Q) → (w = fL A ∨ ∃ Q, 0 < Q ∧ Q &&& A = Q ∧ w = fL (A - Q) + fO Q) →
      ∃ u' w', f0_addDay_L10 (nI A) K m (nI P) u = K u' ∧ CO u' σ ∧ gI u' = gI u ∧ (∀ B, B ≠ A → gL u' 105 0 B = gL u 105 0 B) ∧ gL u' 106 = gL u 106 ∧ gL u' 105 0 A = zL w' ∧ hsP fL fO A w' := by
  have p7 : 2 ^ J ≤ 128 := Nat.pow_le_pow_right (by decide) J7
  intro n
  induction n with
  | zero =>
    intro P m u w hP hmm hs g h5 h6 hw w1 w2 w3
    obtain ⟨m, rfl⟩ : ∃ r, m = r + 1 := ⟨m - 1, by omega⟩
    obtain rfl : P = 0 := by omega
    refine ⟨u, w, ?_, g, rfl, fun _ _ => rfl, rfl, hw, w1, w2, w3⟩
    rw [f0_addDay_L10, if_pos (by decide)]
  | succ n ih =>
    intro P m u w hP hmm hs g h5 h6 hw w1 w2 w3
    by_cases c0 : P = 0
    · exact ih P m u w (by omega) (by omega) hs g h5 h6 hw w1 w2 w3
    · obtain ⟨m, rfl⟩ : ∃ r, m = r + 1 := ⟨m - 1, by omega⟩
      have hPA : P ≤ A := by rw [← hs]; exact Nat.and_le_right
      obtain ⟨n1, n2⟩ := nxt_b A (by omega) P (by omega) (by omega) hs
      have n3 := nxt_c A (by omega) P (by omega) ⟨by omega, hs⟩
      have x1 := bL (A - P) (by omega)
      have x2 := bO P (by omega)
      have x3 := bL A hA
      have N1 : NWN < 2 ^ 60 := by decide
      obtain ⟨u', w', q1, q2, q3, q4, q5, q6, q7⟩ := ih ((P - 1) &&& A) m (pL u 105 0 A (zL (min w (fL (A - P) + fO P)))) (min w (fL (A - P) + fO P)) (by omega) (by omega) n1 g.L (fun B hB => by rw [gL_pL, if_neg (fun hh => by omega)]; exact h5 B hB) (fun B hB => by rw [gL_pL, if_neg (fun hh => absurd hh.1 (by decide))]; exact h6 B hB) (by rw [gL_pL, if_pos ⟨rfl, rfl, rfl⟩]) (by omega) (fun Q hQ hs' => by
        by_cases c1 : P < Q
        · have := w2 Q c1 hs'
          omega
        · by_cases c2 : Q = P
          · rw [c2]; exact Nat.min_le_right _ _
          · rcases n3 Q (by omega) with k | k
            · exact absurd hs' k
            · omega) (by
        by_cases c : w ≤ fL (A - P) + fO P
        · rw [Nat.min_eq_left c]; exact w3
        · rw [Nat.min_eq_right (by omega)]; exact Or.inr ⟨P, by omega, hs, rfl⟩)
      refine ⟨u', w', ?_, q2, by rw [q3]; rfl, fun B hB => by rw [q4 B hB, gL_pL, if_neg (fun hh => hB hh.2.2)], ?_, q6, q7⟩
      · rw [f0_addDay_L10, if_neg (show ¬ nI P ≤ 0 from zn_nle (show 0 < P by omega) (by omega)), nI_sub hPA (by omega), zix_s (show A < 128 by omega) (by decide), zix_s (show A - P < 128 by omega) (by decide), zix_s (show P < 128 by omega) (by decide), zix_s (show A < 128 by omega) (by decide), zlt_s, hw, h5 (A - P) (by omega), h6 P (by omega), zL_add (by omega), zminl_s (by omega) (by omega), sub1' P (by omega), and_k, zlt_s, q1]
      · rw [q5]
        funext b c
        rw [gL_pL, if_neg (fun hh => absurd hh.1 (by decide))]
theorem e_addDay {s σ : zSt} {J : Nat} (J7 : J ≤ 7) (g : CO s σ) {fL fO : Nat → Nat} (hL : ∀ A, A < 2 ^ J → gL s 105 0 A = zL (fL A) ∧ fL A ≤ NWN) (hO : ∀ A, A < 2 ^ J → gL s 106 0 A = zL (fO A) ∧ fO A ≤ NWN) :
    ∃ (s' : zSt) (fL' : Nat → Nat), f0_addDay (nI (2 ^ J)) s = some ((), s') ∧ CO s' σ ∧ gI s' = gI s ∧ ∀ A, A < 2 ^ J → gL s' 105 0 A = zL (fL' A) ∧ hsP fL fO A (fL' A) := by
  have p7 : 2 ^ J ≤ 128 := Nat.pow_le_pow_right (by decide) J7
  have p0 : 0 < 2 ^ J := Nat.pow_pos (by decide)
  have key : ∀ A m (u : zSt) (f : Nat → Nat), A < 2 ^ J → A < m → CO u σ → gI u = gI s → (∀ B, B < 2 ^ J → gL u 106 0 B = zL (fO B)) → (∀ B, B ≤ A → gL u 105 0 B = zL (fL B)) → (∀ B, A < B → B < 2 ^ J → gL u 105 0 B = zL (f B) ∧ hsP fL fO B (f B)) →
      ∃ (s' : zSt) (fL' : Nat → Nat), f0_addDay_L4 m (nI A) u = some ((), s') ∧ CO s' σ ∧ gI s' = gI s ∧ ∀ A, A < 2 ^ J → gL s' 105 0 A = zL (fL' A) ∧ hsP fL fO A (fL' A) := by
    intro A
    induction A with
    | zero =>
      intro m u f hA hmm g hI h6 h5 hf
      obtain ⟨m, rfl⟩ : ∃ r, m = r + 1 := ⟨m - 1, by omega⟩
      refine ⟨u, upn f 0 (fL 0), ?_, g, hI, fun B hB => ?_⟩
      · rw [f0_addDay_L4, if_pos (by decide)]
      · by_cases c : B = 0
        · rw [c, upn_at]
          refine ⟨h5 0 (Nat.le_refl _), Nat.le_refl _, fun P h0 hP => ?_, Or.inl rfl⟩
          rw [Nat.and_zero] at hP
          omega
        · rw [upn_ne c]
          exact hf B (by omega) hB
    | succ A ih =>
      intro m u f hA hmm g hI h6 h5 hf
      obtain ⟨m, rfl⟩ : ∃ r, m = r + 1 := ⟨m - 1, by omega⟩
      obtain ⟨u', w', q1, q2, q3, q4, q5, q6, q7⟩ := e_addIn (σ := σ) J7 (fun B hB => (hL B hB).2) (fun B hB => (hO B hB).2) hA (fun s8 => zlt (nI (A + 1) + (-1) : Int32) fun x9 => f0_addDay_L4 m x9 s8) (A + 1) (A + 1) zfuel u (fL (A + 1)) (Nat.le_refl _) (zfuel_pos (by omega)) (Nat.and_self _) g (fun B hB => h5 B (by omega)) h6 (h5 _ (Nat.le_refl _)) (Nat.le_refl _) (fun Q h1 h2 => by
        have : Q ≤ A + 1 := by rw [← h2]; exact Nat.and_le_right
        omega) (Or.inl rfl)
      obtain ⟨s', fL', r1, r2⟩ := ih m u' (upn f (A + 1) w') (by omega) (by omega) q2 (by rw [q3, hI]) (fun B hB => by rw [q5]; exact h6 B hB) (fun B hB => by rw [q4 B (by omega)]; exact h5 B (by omega)) (fun B h1 h2 => by
        by_cases c : B = A + 1
        · rw [c, upn_at]; exact ⟨q6, q7⟩
        · rw [q4 B c, upn_ne c]
          exact hf B (by omega) h2)
      refine ⟨s', fL', ?_, r2⟩
      rw [f0_addDay_L4, if_neg (show ¬ nI (A + 1) ≤ 0 from zn_nle (show 0 < A + 1 by omega) (by omega)), q1, zlt_s, nm1, show nI (A + 1) - 1 = nI A from sub1' (A + 1) (by omega), r1]
  obtain ⟨s', fL', q1, q2⟩ := key (2 ^ J - 1) zfuel s (fun _ => 0) (by omega) (zfuel_pos (by omega)) g rfl (fun B hB => (hO B hB).1) (fun B hB => (hL B (by omega)).1) (fun B h1 h2 => by omega)
  refine ⟨s', fL', ?_, q2⟩
  unfold f0_addDay
  rw [sub1' _ (by omega), zlt_s, q1]
