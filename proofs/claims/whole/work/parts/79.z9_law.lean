/-! the beginning -/
theorem zOK_made {s : zSt} (h : SS s FB2 RB2 NB2) : zOK s := by
  intro t i k j h1 h2
  rw [h.2.2] at h1
  rw [h.2.1]
  have ht : t < 13 := by
    apply Nat.lt_of_not_le
    intro hh
    obtain ⟨n, rfl⟩ : ∃ n, t = n + 13 := ⟨t - 13, by omega⟩
    cases h2
  have hk : k < 83 := by
    apply Nat.lt_of_not_le
    intro hh
    obtain ⟨n, rfl⟩ : ∃ n, k = n + 83 := ⟨k - 83, by omega⟩
    have all : ∀ t, t < 13 → zfin t (n + 83) i = none := by
      intro t ht
      rcases t with _ | _ | _ | _ | _ | _ | _ | _ | _ | _ | _ | _ | _ | t
      all_goals first | rfl | omega
    rw [all t ht] at h2
    cases h2
  have hi : i < 2 := by
    have : ∀ t, t < 13 → NB2.count t ≤ 2 := by decide +kernel
    have := this t ht
    omega
  have key : ∀ t, t < 13 → ∀ k, k < 83 → ∀ i, i < 2 → (!decide (i < NB2.count t) || (zfin t k i).all fun j => decide (lkR RB2 t i k = some j)) = true := by decide +kernel
  have := key t ht k hk i hi
  rw [h2, decide_eq_true h1] at this
  exact of_decide_eq_true this
theorem Inv_made {s : zSt} (h : SS s FB2 RB2 NB2) : Inv s := by
  have hO := zOK_made h
  obtain ⟨eI, eR, eN⟩ := h
  have n1 : gN s 1 = 0 := by rw [eN]; decide +kernel
  have n5 : gN s 5 = 0 := by rw [eN]; decide +kernel
  have n7 : gN s 7 = 0 := by rw [eN]; decide +kernel
  have z : ∀ t i, frI FB2 t i = true → ∀ k, gI s t i k = 0 := fun t i q k => by rw [eI]; exact lkI_0 q k
  have j0 : jbn s = 0 := by unfold jbn; rw [eI]; rfl
  have l0 : pln s = 0 := by unfold pln; rw [eI]; rfl
  have t0 : tpn s = 0 := by unfold tpn; rw [eI]; rfl
  have x0 : ∀ w, txn s w = 0 := fun w => by unfold txn; rw [z 1354 0 rfl]; rfl
  refine ⟨hO, ?_, ?_, fun i hi => ?_, fun i hi => ?_, fun f hf => ?_, fun f hf => ?_, ⟨fun f hf => ?_, fun c hc => ?_⟩, ⟨fun f hf => ?_, fun f f' g hf => ?_⟩, ?_, ?_, fun w hw => ?_, ⟨fun i _ => ?_, fun f _ => ?_⟩⟩
  · unfold vC
    simp only [eN]
    decide +kernel
  · unfold vN qday btw
    simp only [eI, eN]
    decide +kernel
  · rw [n5] at hi; exact absurd hi (Nat.not_lt_zero _)
  · rw [n7] at hi; exact absurd hi (Nat.not_lt_zero _)
  · rw [n1] at hf; exact absurd hf (Nat.not_lt_zero _)
  · rw [n1] at hf; exact absurd hf (Nat.not_lt_zero _)
  · rw [n1] at hf; exact absurd hf (Nat.not_lt_zero _)
  · rw [n1, z 1217 0 rfl, z 1337 0 rfl, z 1338 0 rfl, z 1339 0 rfl]
    refine ⟨rfl, rfl, rfl, by decide, by decide, by decide, rfl⟩
  · rw [n1] at hf; exact absurd hf (Nat.not_lt_zero _)
  · rw [n1] at hf; exact absurd hf (Nat.not_lt_zero _)
  · unfold vD
    rw [j0, l0]
    refine ⟨?_, by rw [eI]; rfl, by rw [eI]; rfl, by decide, fun i hi => absurd hi (Nat.not_lt_zero _), fun i j f hi => absurd hi (Nat.not_lt_zero _), by rw [eI]; rfl, by rw [eI]; rfl, by decide, fun i hi => absurd hi (Nat.not_lt_zero _)⟩
    unfold btw
    simp only [eI]
    decide +kernel
  · unfold vT
    rw [t0]
    exact ⟨by rw [eI]; rfl, by rw [eI]; rfl, by decide, fun i hi => absurd hi (Nat.not_lt_zero _)⟩
  · rw [x0, z 1354 0 rfl, z 9 w (by
      have : ∀ w, w < 2 → frI FB2 9 w = true := by decide +kernel
      exact this w hw)]
    exact ⟨rfl, rfl, by decide, fun i hi => absurd hi (Nat.not_lt_zero _)⟩
  · exact ⟨z 1307 0 rfl i, z 1310 0 rfl i, z 1311 0 rfl i, z 1312 0 rfl i, fun j _ => z 1306 0 rfl _⟩
  · exact ⟨z 1329 0 rfl f, z 1330 0 rfl f, z 1332 0 rfl f, z 1333 0 rfl f, z 1334 0 rfl f, z 1335 0 rfl f, z 1344 0 rfl f⟩
theorem flaw_made (L : Nat) (xs : Nat → Int32) (hL : L ≤ 2560) : flaw xs L = some () := by
  have h0 : SS zst0 [] [] [] := ⟨rfl, rfl, fun _ => rfl⟩
  obtain ⟨s2, e2, h2⟩ := r_f11 (ss_nw h0 (t := 11) (n := 0) (v := 0) rfl rfl rfl)
  obtain ⟨s4, e4, h4⟩ := r_f12 (ss_nw h2 (t := 12) (n := 0) (v := 0) (by decide +kernel) (by decide +kernel) (by decide +kernel))
  have n12 : gN s2 12 = 0 := by rw [h2.2.2]; decide +kernel
  unfold flaw
  rw [e2, zc2_s, if_pos n12, e4, zc2_s]
  exact flaw_L_ok hL 600 0 s4 (Inv_made h4) (by omega) (by omega) (by omega)
