/-! the law's loop -/
theorem flaw_L_ok {xs : Nat → Int32} {L : Nat} (hL : L ≤ 2560) : ∀ n k (σ : zSt), Inv σ → 1 ≤ n → L < k + 5 * n → k ≤ 2600 → flaw_L xs L n (nI k) σ = some () := by
  intro n
  induction n with
  | zero => intro k σ _ h; omega
  | succ n ih =>
    intro k σ h hn hk hk2
    have el : (nI L - 5).toInt = (L : Int) - 5 := by
      rw [i_subp (by rw [nI_ti (by omega)]; simp only [Int32.reduceToInt]; omega), nI_ti (by omega)]
      rfl
    rw [flaw_L]
    by_cases c : L < k + 5
    · rw [if_pos (by rw [i_lt, el, nI_ti (by omega)]; omega)]
    · have c : k + 5 ≤ L := by omega
      rw [if_neg (by rw [i_lt, el, nI_ti (by omega)]; omega), zix_s (show k < L by omega) (by omega), show nI k + 5 = nI (k + 5) from nI_add' k 5 (by omega)]
      have go : ∀ σ', Inv σ' → flaw_L xs L n (nI (k + 5)) σ' = some () := fun σ' h' => ih (k + 5) σ' h' (by omega) (by omega) (by omega)
      by_cases c0 : xs k &&& 63 = 0
      · rw [if_pos c0]
        obtain ⟨σ', h1, h2⟩ := l_days h xs c hL (fun σ => flaw_L xs L n (nI (k + 5)) σ)
        rw [h2]
        exact go σ' h1
      rw [if_neg c0]
      by_cases c1 : xs k &&& 63 = 1
      · rw [if_pos c1]
        obtain ⟨σ', h1, h2⟩ := l_home h xs c hL (fun σ => flaw_L xs L n (nI (k + 5)) σ)
        rw [h2]
        exact go σ' h1
      rw [if_neg c1]
      by_cases c2 : xs k &&& 63 = 2
      · rw [if_pos c2]
        obtain ⟨σ', h1, h2⟩ := l_key h xs c hL (fun σ => flaw_L xs L n (nI (k + 5)) σ)
        rw [h2]
        exact go σ' h1
      rw [if_neg c2]
      by_cases c3 : xs k &&& 63 = 3
      · rw [if_pos c3]
        obtain ⟨σ', h1, h2⟩ := l_sell h xs c hL (fun σ => flaw_L xs L n (nI (k + 5)) σ)
        rw [h2]
        exact go σ' h1
      rw [if_neg c3]
      by_cases c4 : xs k &&& 63 = 4
      · rw [if_pos c4]
        obtain ⟨σ', h1, h2⟩ := l_in h xs c hL (fun σ => flaw_L xs L n (nI (k + 5)) σ)
        rw [h2]
        exact go σ' h1
      rw [if_neg c4]
      by_cases c5 : xs k &&& 63 = 5
      · rw [if_pos c5]
        obtain ⟨σ', h1, h2⟩ := l_crew h xs c hL (fun σ => flaw_L xs L n (nI (k + 5)) σ)
        rw [h2]
        exact go σ' h1
      rw [if_neg c5]
      by_cases c6 : xs k &&& 63 = 6
      · rw [if_pos c6]
        obtain ⟨σ', h1, h2⟩ := l_ofHome h xs c hL (fun σ => flaw_L xs L n (nI (k + 5)) σ)
        rw [h2]
        exact go σ' h1
      rw [if_neg c6]
      by_cases c7 : xs k &&& 63 = 7
      · rw [if_pos c7]
        obtain ⟨σ', h1, h2⟩ := l_kind h xs c hL (fun σ => flaw_L xs L n (nI (k + 5)) σ)
        rw [h2]
        exact go σ' h1
      rw [if_neg c7]
      by_cases c8 : xs k &&& 63 = 8
      · rw [if_pos c8]
        obtain ⟨σ', h1, h2⟩ := l_fault h xs c hL (fun σ => flaw_L xs L n (nI (k + 5)) σ)
        rw [h2]
        exact go σ' h1
      rw [if_neg c8]
      by_cases c9 : xs k &&& 63 = 9
      · rw [if_pos c9]
        obtain ⟨σ', h1, h2⟩ := l_promise h xs c hL (fun σ => flaw_L xs L n (nI (k + 5)) σ)
        rw [h2]
        exact go σ' h1
      rw [if_neg c9]
      by_cases c10 : xs k &&& 63 = 10
      · rw [if_pos c10]
        obtain ⟨σ', h1, h2⟩ := l_said h xs c hL (fun σ => flaw_L xs L n (nI (k + 5)) σ)
        rw [h2]
        exact go σ' h1
      rw [if_neg c10]
      by_cases c11 : xs k &&& 63 = 11
      · rw [if_pos c11]
        obtain ⟨σ', h1, h2⟩ := l_look h xs c hL (fun σ => flaw_L xs L n (nI (k + 5)) σ)
        rw [h2]
        exact go σ' h1
      rw [if_neg c11]
      by_cases c12 : xs k &&& 63 = 12
      · rw [if_pos c12]
        obtain ⟨σ', h1, h2⟩ := l_voids h xs c hL (fun σ => flaw_L xs L n (nI (k + 5)) σ)
        rw [h2]
        exact go σ' h1
      rw [if_neg c12]
      by_cases c13 : xs k &&& 63 = 13
      · rw [if_pos c13]
        obtain ⟨σ', h1, h2⟩ := l_state h xs c hL (fun σ => flaw_L xs L n (nI (k + 5)) σ)
        rw [h2]
        exact go σ' h1
      rw [if_neg c13]
      by_cases c14 : xs k &&& 63 = 14
      · rw [if_pos c14]
        obtain ⟨σ', h1, h2⟩ := l_ofFault h xs c hL (fun σ => flaw_L xs L n (nI (k + 5)) σ)
        rw [h2]
        exact go σ' h1
      rw [if_neg c14]
      by_cases c15 : xs k &&& 63 = 15
      · rw [if_pos c15]
        obtain ⟨σ', h1, h2⟩ := l_source h xs c hL (fun σ => flaw_L xs L n (nI (k + 5)) σ)
        rw [h2]
        exact go σ' h1
      rw [if_neg c15]
      by_cases c16 : xs k &&& 63 = 16
      · rw [if_pos c16]
        obtain ⟨σ', h1, h2⟩ := l_damage h xs c hL (fun σ => flaw_L xs L n (nI (k + 5)) σ)
        rw [h2]
        exact go σ' h1
      rw [if_neg c16]
      by_cases c17 : xs k &&& 63 = 17
      · rw [if_pos c17]
        obtain ⟨σ', h1, h2⟩ := l_rule h xs c hL (fun σ => flaw_L xs L n (nI (k + 5)) σ)
        rw [h2]
        exact go σ' h1
      rw [if_neg c17]
      by_cases c18 : xs k &&& 63 = 18
      · rw [if_pos c18]
        obtain ⟨σ', h1, h2⟩ := l_joined h xs c hL (fun σ => flaw_L xs L n (nI (k + 5)) σ)
        rw [h2]
        exact go σ' h1
      rw [if_neg c18]
      by_cases c19 : xs k &&& 63 = 19
      · rw [if_pos c19]
        obtain ⟨σ', h1, h2⟩ := l_chance h xs c hL (fun σ => flaw_L xs L n (nI (k + 5)) σ)
        rw [h2]
        exact go σ' h1
      rw [if_neg c19]
      by_cases c20 : xs k &&& 63 = 20
      · rw [if_pos c20]
        obtain ⟨σ', h1, h2⟩ := l_cause h xs c hL (fun σ => flaw_L xs L n (nI (k + 5)) σ)
        rw [h2]
        exact go σ' h1
      rw [if_neg c20]
      by_cases c21 : xs k &&& 63 = 21
      · rw [if_pos c21]
        obtain ⟨σ', h1, h2⟩ := l_rivals h xs c hL (fun σ => flaw_L xs L n (nI (k + 5)) σ)
        rw [h2]
        exact go σ' h1
      rw [if_neg c21]
      by_cases c22 : xs k &&& 63 = 22
      · rw [if_pos c22]
        obtain ⟨σ', h1, h2⟩ := l_read h xs c hL (fun σ => flaw_L xs L n (nI (k + 5)) σ)
        rw [h2]
        exact go σ' h1
      rw [if_neg c22]
      by_cases c23 : xs k &&& 63 = 23
      · rw [if_pos c23]
        obtain ⟨σ', h1, h2⟩ := l_gauge h xs c hL (fun σ => flaw_L xs L n (nI (k + 5)) σ)
        rw [h2]
        exact go σ' h1
      rw [if_neg c23]
      by_cases c24 : xs k &&& 63 = 24
      · rw [if_pos c24]
        obtain ⟨σ', h1, h2⟩ := l_pace h xs c hL (fun σ => flaw_L xs L n (nI (k + 5)) σ)
        rw [h2]
        exact go σ' h1
      rw [if_neg c24]
      by_cases c25 : xs k &&& 63 = 25
      · rw [if_pos c25]
        obtain ⟨σ', h1, h2⟩ := l_sinking h xs c hL (fun σ => flaw_L xs L n (nI (k + 5)) σ)
        rw [h2]
        exact go σ' h1
      rw [if_neg c25]
      by_cases c26 : xs k &&& 63 = 26
      · rw [if_pos c26]
        obtain ⟨σ', h1, h2⟩ := l_men h xs c hL (fun σ => flaw_L xs L n (nI (k + 5)) σ)
        rw [h2]
        exact go σ' h1
      rw [if_neg c26]
      by_cases c27 : xs k &&& 63 = 27
      · rw [if_pos c27]
        obtain ⟨σ', h1, h2⟩ := l_job h xs c hL (fun σ => flaw_L xs L n (nI (k + 5)) σ)
        rw [h2]
        exact go σ' h1
      rw [if_neg c27]
      by_cases c28 : xs k &&& 63 = 28
      · rw [if_pos c28]
        obtain ⟨σ', h1, h2⟩ := l_plan h xs c hL (fun σ => flaw_L xs L n (nI (k + 5)) σ)
        rw [h2]
        exact go σ' h1
      rw [if_neg c28]
      by_cases c29 : xs k &&& 63 = 29
      · rw [if_pos c29]
        obtain ⟨σ', h1, h2⟩ := l_planned h xs c hL (fun σ => flaw_L xs L n (nI (k + 5)) σ)
        rw [h2]
        exact go σ' h1
      rw [if_neg c29]
      by_cases c30 : xs k &&& 63 = 30
      · rw [if_pos c30]
        obtain ⟨σ', h1, h2⟩ := l_feed h xs c hL (fun σ => flaw_L xs L n (nI (k + 5)) σ)
        rw [h2]
        exact go σ' h1
      rw [if_neg c30]
      by_cases c31 : xs k &&& 63 = 31
      · rw [if_pos c31]
        obtain ⟨σ', h1, h2⟩ := l_text h xs c hL (fun σ => flaw_L xs L n (nI (k + 5)) σ)
        rw [h2]
        exact go σ' h1
      rw [if_neg c31]
      by_cases c32 : xs k &&& 63 = 32
      · rw [if_pos c32]
        obtain ⟨σ', h1, h2⟩ := l_inForce h xs c hL (fun σ => flaw_L xs L n (nI (k + 5)) σ)
        rw [h2]
        exact go σ' h1
      rw [if_neg c32]
      by_cases c33 : xs k &&& 63 = 33
      · rw [if_pos c33]
        obtain ⟨σ', h1, h2⟩ := l_judge h xs c hL (fun σ => flaw_L xs L n (nI (k + 5)) σ)
        rw [h2]
        exact go σ' h1
      rw [if_neg c33]
      by_cases c34 : xs k &&& 63 = 34
      · rw [if_pos c34]
        obtain ⟨σ', h1, h2⟩ := l_free h xs c hL (fun σ => flaw_L xs L n (nI (k + 5)) σ)
        rw [h2]
        exact go σ' h1
      rw [if_neg c34]
      by_cases c35 : xs k &&& 63 = 35
      · rw [if_pos c35]
        obtain ⟨σ', h1, h2⟩ := l_take h xs c hL (fun σ => flaw_L xs L n (nI (k + 5)) σ)
        rw [h2]
        exact go σ' h1
      rw [if_neg c35]
      by_cases c36 : xs k &&& 63 = 36
      · rw [if_pos c36]
        obtain ⟨σ', h1, h2⟩ := l_doubles h xs c hL (fun σ => flaw_L xs L n (nI (k + 5)) σ)
        rw [h2]
        exact go σ' h1
      rw [if_neg c36]
      by_cases c37 : xs k &&& 63 = 37
      · rw [if_pos c37]
        obtain ⟨σ', h1, h2⟩ := l_lots h xs c hL (fun σ => flaw_L xs L n (nI (k + 5)) σ)
        rw [h2]
        exact go σ' h1
      rw [if_neg c37]
      by_cases c38 : xs k &&& 63 = 38
      · rw [if_pos c38]
        obtain ⟨σ', h1, h2⟩ := l_draw h xs c hL (fun σ => flaw_L xs L n (nI (k + 5)) σ)
        rw [h2]
        exact go σ' h1
      rw [if_neg c38]
      by_cases c39 : xs k &&& 63 = 39
      · rw [if_pos c39]
        obtain ⟨σ', h1, h2⟩ := l_ofCrew h xs c hL (fun σ => flaw_L xs L n (nI (k + 5)) σ)
        rw [h2]
        exact go σ' h1
      rw [if_neg c39]
      by_cases c40 : xs k &&& 63 = 40
      · rw [if_pos c40]
        obtain ⟨σ', h1, h2⟩ := l_bounds h xs c hL (fun σ => flaw_L xs L n (nI (k + 5)) σ)
        rw [h2]
        exact go σ' h1
      rw [if_neg c40]
      by_cases c41 : xs k &&& 63 = 41
      · rw [if_pos c41]
        obtain ⟨σ', h1, h2⟩ := l_worst h xs c hL (fun σ => flaw_L xs L n (nI (k + 5)) σ)
        rw [h2]
        exact go σ' h1
      rw [if_neg c41]
      by_cases c42 : xs k &&& 63 = 42
      · rw [if_pos c42]
        obtain ⟨σ', h1, h2⟩ := l_weight h xs c hL (fun σ => flaw_L xs L n (nI (k + 5)) σ)
        rw [h2]
        exact go σ' h1
      rw [if_neg c42]
      by_cases c43 : xs k &&& 63 = 43
      · rw [if_pos c43]
        obtain ⟨σ', h1, h2⟩ := l_count h xs c hL (fun σ => flaw_L xs L n (nI (k + 5)) σ)
        rw [h2]
        exact go σ' h1
      rw [if_neg c43]
      exact go σ h
