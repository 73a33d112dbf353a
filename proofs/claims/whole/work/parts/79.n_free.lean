/-! free -/
def frH (σ : zSt) (i : Nat) : Nat → Int32
  | 0 => zs (gleft σ (qday σ) i) (mF σ)
  | 1 => qday σ - gI σ 1305 0 i
  | 2 => zs (gfals σ i) (mF σ)
  | 3 => zs (gbrok σ i) (mF σ)
  | _ => gI σ 1310 0 i
theorem RY_frH {s σ : zSt} (x : RY s σ) : frH s = frH σ := by
  obtain ⟨y1, y2, y3, y4⟩ := RY_sums x
  have b := RY_b x
  funext i j
  unfold frH
  rw [y1, y2, y3, b.2.2.2.2.2.2.1, b.2.2.2.2.2.2.2.2.2.1, x.1 1305 (by omega) (by omega), x.1 1310 (by omega) (by omega)]
noncomputable def frK (v1 a19 : Int32) (s20 : zSt) : Option (Int32 × zSt) :=
  zlt (fun (a23 : Int32) =>
  zix v1 40 fun m26 =>
  zix v1 40 fun m27 =>
  zlt (pI s20 1310 0 m27 ((gI s20 1310 0 m26) - a23)) fun s28 =>
  zix v1 40 fun m29 =>
  zix v1 40 fun m30 =>
  zlt (pI s28 1311 0 m30 ((gI s28 1311 0 m29) + a23)) fun s31 =>
  some (a23, s31)) fun j24 =>
  if 0 ≤ a19 then (zix v1 40 fun m32 =>
  if a19 ≤ (gI s20 1310 0 m32) then (j24 a19) else
  zix v1 40 fun m33 =>
  j24 (gI s20 1310 0 m33)) else
  j24 0
theorem t_free {σ : zSt} (h : Inv σ) (v1 : Int32) : Ok2 (f11_free v1 σ) (f12_free v1) := by
  have hr := RI_of h
  rcases zcase v1 (mH σ) (by have := hr.1.2; omega) with ⟨i, hi, rfl, hv⟩ | hv
  · have hi4 : i < 40 := Nat.lt_of_lt_of_le hi hr.1.2
    have a := A_H h hi
    have a4 : gI σ 5 i 4 = gI σ 1305 0 i := a.2.2.2.2.2.1
    have a6 : gI σ 5 i 6 = gI σ 1310 0 i := a.2.2.2.2.2.2.2.1
    have a7 : gI σ 5 i 7 = gI σ 1311 0 i := a.2.2.2.2.2.2.2.2.1
    have b4 : btw (-1) (gI σ 1305 0 i) 9999 := (hr.2.2.2.2.2.1 i hi).2.2.1
    have b6 : btw 0 (gI σ 1310 0 i) 99999 := (hr.2.2.2.2.2.1 i hi).2.2.2.2.1
    have ck := e_hasKey (σ := σ) (i := i) (by rw [a4]; exact b4)
    rw [a4] at ck
    have q6 := (N_q h).1
    by_cases hk : 0 ≤ (gI σ 1305 0 i).toInt
    · obtain ⟨x1', x2', x3', x4'⟩ := X_at h (w := 1) (by decide)
      have hold := e_holding h (w := 1) (by decide) hi (qday σ)
      -- the answer of a value
      obtain ⟨clm, hclm⟩ : ∃ clm : Int32 → Int32, clm = fun v => zmax 0 (zmin v (gI σ 1310 0 i)) := ⟨_, rfl⟩
      have cl_in : ∀ v, 0 ≤ (clm v).toInt ∧ (clm v).toInt ≤ (gI σ 1310 0 i).toInt := fun v => by
        have h1 := b6.1
        have z : (0 : Int32).toInt = 0 := rfl
        rw [hclm]
        dsimp only
        unfold zmax zmin
        by_cases c : gI σ 1310 0 i < v
        · rw [if_pos c]
          by_cases c2 : 0 < gI σ 1310 0 i
          · rw [if_pos c2]; omega
          · rw [if_neg c2, z]; omega
        · rw [if_neg c]
          rw [i_lt] at c
          by_cases c2 : 0 < v
          · rw [if_pos c2]
            rw [i_lt, z] at c2
            omega
          · rw [if_neg c2, z]; omega
      have cl_eq : ∀ v {β : Type} (J : Int32 → β), (if 0 ≤ v then (if v ≤ gI σ 1310 0 i then J v else J (gI σ 1310 0 i)) else J 0) = J (clm v) := fun v β J => by
        have h1 := b6.1
        have z : (0 : Int32).toInt = 0 := rfl
        rw [hclm]
        dsimp only
        unfold zmax zmin
        by_cases c : 0 ≤ v
        · rw [if_pos c]
          by_cases c2 : v ≤ gI σ 1310 0 i
          · rw [if_pos c2, if_neg (show ¬ gI σ 1310 0 i < v by rw [i_lt]; rw [i_le] at c2; omega)]
            by_cases c3 : 0 < v
            · rw [if_pos c3]
            · rw [if_neg c3]
              congr 1
              rw [i_eq]
              rw [i_le] at c
              rw [i_lt] at c3
              omega
          · rw [if_neg c2, if_pos (show gI σ 1310 0 i < v by rw [i_lt]; rw [i_le] at c2; omega)]
            by_cases c3 : 0 < gI σ 1310 0 i
            · rw [if_pos c3]
            · rw [if_neg c3]
              congr 1
              rw [i_eq]
              rw [i_lt] at c3
              omega
        · rw [if_neg c, if_neg (show ¬ gI σ 1310 0 i < v by rw [i_lt]; rw [i_le] at c; omega), if_neg (show ¬ 0 < v by rw [i_lt]; rw [i_le] at c; omega)]
      -- the class behind the value
      have tailC : ∀ v s, Ch s σ → (zlt (zmax 0 (zmin v (gI s 5 i 6)) : Int32) fun x12 => zlt (pI s 5 i 6 ((gI s 5 i 6) - x12)) fun s13 => zlt (pI s13 5 i 7 ((gI s13 5 i 7) + x12)) fun s14 => some (x12, s14)) = some (clm v, pI (pI s 5 i 6 (gI σ 1310 0 i - clm v)) 5 i 7 (gI σ 1311 0 i + clm v)) := fun v s hs => by
        have e6 : gI s 5 i 6 = gI σ 1310 0 i := by rw [hs.A (t := 5) rfl, a6]
        have e7 : ∀ w, gI (pI s 5 i 6 w) 5 i 7 = gI σ 1311 0 i := fun w => by rw [gI_nk (by decide), hs.A (t := 5) rfl, a7]
        rw [zlt_s, zlt_s, e6, e7, zlt_s, hclm]
      -- the reference's first steps
      have front : ∀ s1, RY s1 σ → ∃ s18, Ch s18 s1 ∧ RY s18 σ ∧ (∀ j, j < 5 → gI s18 1377 0 j = frH σ i j) ∧ f12_free (nI i) s1 = if 0 ≤ frc σ 1 i (qday σ) then (zix (10 + frc σ 1 i (qday σ)) 20 fun m34 => zc2 (f12_readFreeing (160 * (10 + frc σ 1 i (qday σ))) (gI s18 1351 0 m34) s18) fun r35 s36 => frK (nI i) r35 s36) else frK (nI i) 0 s18 := fun s1 x1 => by
        have hr1 := RI_Y x1 hr
        have mH1 : mH s1 = mH σ := (RY_b x1).2.2.2.2.2.2.2.1
        let u1 := pI s1 1377 0 0 (frH σ i 0)
        let u2 := pI u1 1377 0 1 (frH σ i 1)
        let u3 := pI u2 1377 0 2 (frH σ i 2)
        let u4 := pI u3 1377 0 3 (frH σ i 3)
        have y1 : RY u2 σ := (x1.I (by omega)).I (by omega)
        have y3 : RY u3 σ := y1.I (by omega)
        have y5 : RY (pI u4 1377 0 4 (frH σ i 4)) σ := (y3.I (by omega)).I (by omega)
        refine ⟨pI u4 1377 0 4 (frH σ i 4), ((((Ch.rf.I rfl).I rfl).I rfl).I rfl).I rfl, y5, fun j hj => ?_, ?_⟩
        · have hj' : j = 0 ∨ j = 1 ∨ j = 2 ∨ j = 3 ∨ j = 4 := by omega
          show gI (pI (pI (pI (pI (pI s1 1377 0 0 (frH σ i 0)) 1377 0 1 (frH σ i 1)) 1377 0 2 (frH σ i 2)) 1377 0 3 (frH σ i 3)) 1377 0 4 (frH σ i 4)) 1377 0 j = _
          rw [gI_pI, gI_pI, gI_pI, gI_pI, gI_pI]
          rcases hj' with rfl | rfl | rfl | rfl | rfl <;> rfl
        · have fr := m_force (σ := s1) (w := 1) (h := i) (by decide) hi4 (by
            unfold txn at x1' ⊢
            rw [x1.1 1354 (by omega) (by omega)]
            exact x1') (by
            unfold txn at x3' ⊢
            rw [x1.1 1354 (by omega) (by omega)]
            exact x3') (qday σ)
          rw [RY_frc x1] at fr
          have lf := m_leftOf hr1 (i := i) hi4
          have ff := m_falseOf (RI_Y y1 hr) (i := i) hi4
          have fb := m_brokenOf (RI_Y y3 hr) (i := i) hi4
          rw [(RY_sums x1).1, (RY_b x1).2.2.2.2.2.2.1, (RY_b x1).2.2.2.2.2.2.2.2.2.1] at lf
          rw [(RY_sums y1).2.1, (RY_b y1).2.2.2.2.2.2.1] at ff
          rw [(RY_sums y3).2.2.1, (RY_b y3).2.2.2.2.2.2.1] at fb
          have z : ∀ {k : Nat} (hk : k < 5) (kk : Nat → Option (Int32 × zSt)), zix (nI k) 5 kk = kk k := fun hk kk => zix_s hk (by decide) kk
          have z0 : ∀ kk : Nat → Option (Int32 × zSt), zix 0 5 kk = kk 0 := fun kk => z (k := 0) (by decide) kk
          have z1 : ∀ kk : Nat → Option (Int32 × zSt), zix 1 5 kk = kk 1 := fun kk => z (k := 1) (by decide) kk
          have z2 : ∀ kk : Nat → Option (Int32 × zSt), zix 2 5 kk = kk 2 := fun kk => z (k := 2) (by decide) kk
          have z3 : ∀ kk : Nat → Option (Int32 × zSt), zix 3 5 kk = kk 3 := fun kk => z (k := 3) (by decide) kk
          have z4 : ∀ kk : Nat → Option (Int32 × zSt), zix 4 5 kk = kk 4 := fun kk => z (k := 4) (by decide) kk
          unfold f12_free
          rw [m_isH hr1, mH1, if_pos hv, zc1_s, if_neg (by decide), zix_s hi4 (by decide), x1.1 1305 (by omega) (by omega), if_pos (show 0 ≤ gI σ 1305 0 i by rw [i_le]; exact hk), x1.2 0 (by omega)]
          rw [show f12_force 1 (nI i) (gI σ 12 0 0) s1 = some (frc σ 1 i (qday σ)) from fr, zc1_s, lf, zc1_s, z0, zlt_s, zix_s hi4 (by decide), z1, gI_ne (show 12 ≠ 1377 by decide), gI_ne (show 1305 ≠ 1377 by decide), x1.2 0 (by omega), x1.1 1305 (by omega) (by omega), zlt_s]
          rw [show f12_falseOf (nI i) (pI (pI s1 1377 0 0 (zs (gleft σ (qday σ) i) (mF σ))) 1377 0 1 (gI σ 12 0 0 - gI σ 1305 0 i)) = some (zs (gfals σ i) (mF σ)) from ff, zc1_s, z2, zlt_s]
          rw [show f12_brokenOf (nI i) (pI (pI (pI s1 1377 0 0 (zs (gleft σ (qday σ) i) (mF σ))) 1377 0 1 (gI σ 12 0 0 - gI σ 1305 0 i)) 1377 0 2 (zs (gfals σ i) (mF σ))) = some (zs (gbrok σ i) (mF σ)) from fb, zc1_s, z3, zlt_s, zix_s hi4 (by decide), z4, gI_ne (show 1310 ≠ 1377 by decide), gI_ne (show 1310 ≠ 1377 by decide), gI_ne (show 1310 ≠ 1377 by decide), gI_ne (show 1310 ≠ 1377 by decide), x1.1 1310 (by omega) (by omega), zlt_s]
          rfl
      have J : ∀ (v : Int32) (s20 : zSt), RY s20 σ → frK (nI i) v s20 = some (clm v, pI (pI s20 1310 0 i (gI σ 1310 0 i - clm v)) 1311 0 i (gI σ 1311 0 i + clm v)) := fun v s20 x20 => by
        have h20 := x20.1 1310 (by omega) (by omega)
        have h21 := x20.1 1311 (by omega) (by omega)
        unfold frK
        simp only [zlt_s, zix_s hi4 (show 40 < 2 ^ 31 by decide), h20]
        rw [cl_eq v (fun a23 => some (a23, pI (pI s20 1310 0 i (gI σ 1310 0 i - a23)) 1311 0 i (gI (pI s20 1310 0 i (gI σ 1310 0 i - a23)) 1311 0 i + a23)))]
        rw [gI_ne (show 1311 ≠ 1310 by decide), h21]
      have hi5 : i < gN σ 5 := by have := mH_e h; omega
      have bA : ∀ v, btw 0 (gI σ 1310 0 i - clm v) 99999 := fun v => by
        obtain ⟨c1, c2⟩ := cl_in v
        have h1 := b6.1
        have h2 := b6.2
        unfold btw
        rw [i_subp (by omega)]
        omega
      -- the end, once both have the same value
      have fin : ∀ v s9 s36, Ch s9 σ → Ch s36 (pI (pI s9 5 i 6 (gI σ 1310 0 i - clm v)) 5 i 7 (gI σ 1311 0 i + clm v)) → Inv (pI (pI s36 1310 0 i (gI σ 1310 0 i - clm v)) 1311 0 i (gI σ 1311 0 i + clm v)) := fun v s9 s36 h9 h36 => by
        have c : Ch (pI (pI s36 1310 0 i (gI σ 1310 0 i - clm v)) 1311 0 i (gI σ 1311 0 i + clm v)) (pI (pI (pI (pI σ 5 i 6 (gI σ 1310 0 i - clm v)) 5 i 7 (gI σ 1311 0 i + clm v)) 1310 0 i (gI σ 1310 0 i - clm v)) 1311 0 i (gI σ 1311 0 i + clm v)) := ((h36.tr ((h9.ex).ex)).ex).ex
        exact c.1 (Inv_m7 h hi5 (bA v))
      have okC : ∀ s9, Ch s9 σ → ∀ A D, zOK (pI (pI s9 5 i 6 A) 5 i 7 D) := fun s9 h9 A D => (h9.1 h).1
      have ryC : ∀ s9, Ch s9 σ → ∀ A D, RY (pI (pI s9 5 i 6 A) 5 i 7 D) σ := fun s9 h9 A D => (h9.ry.I (by omega)).I (by omega)
      rcases hlp_in (p := phl σ 1 i (qday σ)) (txn σ 1) (by omega) with ⟨e, -⟩ | ⟨k, hk2, e, -⟩
      · have ef : frc σ 1 i (qday σ) = -1 := e
        have ea : f9_at 1 (-4) σ = some none := by
          rcases e_at h (w := 1) (by decide) (-4) with ⟨j, t, hj, e4, -⟩ | ⟨-, e4⟩
          · exact absurd (show (0 : Int32) ≤ -4 by rw [e4]; exact le0 (by omega)) (by decide)
          · exact e4
        have ez : zpl (-1) = -4 := rfl
        obtain ⟨s18, f1, f2, f3, f4⟩ := front _ (ryC σ Ch.rf (gI σ 1310 0 i - clm 0) (gI σ 1311 0 i + clm 0))
        refine ⟨clm 0, _, _, ?_, okC σ Ch.rf (gI σ 1310 0 i - clm 0) (gI σ 1311 0 i + clm 0), ?_, fin 0 σ s18 Ch.rf f1⟩
        · unfold f11_free
          rw [e_hAt h hi, zc1_s, zoc_s, ck, if_pos hk, zc1_s, if_neg (by decide), q6, hold, ef, ez, zc1_s, ea, zc1_s, zlt_s, zoc_n]
          exact tailC 0 σ Ch.rf
        · rw [f4, ef, if_neg (by decide)]
          exact J 0 s18 f2
      · have ef : frc σ 1 i (qday σ) = nI k := e
        obtain ⟨t, y1, y2, y3, y4, y5, y6, y7, y8⟩ := x4' k hk2
        rw [show 10 * 1 + k = 10 + k by omega] at y5 y7 y8
        have hn := y6
        generalize hN : gZ σ 1100 t = n at y5 y6 y7 y8 hn
        have hvd : frR (fun j => gI σ 1350 0 (160 * (10 + k) + j)) n 0 0 0 true false = none := y8.2 rfl
        have ea : f9_at 1 (nI k) σ = some (some t) := by
          rcases e_at h (w := 1) (by decide) (nI k) with ⟨j, t', hj, e4, e5, e6⟩ | ⟨e4, -⟩
          · rw [nI_inj (by omega) (by omega)] at e4
            rw [← e4, y2] at e5
            cases e5
            exact e6
          · exact absurd ⟨by rw [nI_ti (by omega)]; omega, by rw [nI_ti (by omega)]; omega⟩ e4
        have ez : zpl (nI k) = nI k := zpl_pos (by rw [nI_ti (by omega)]; omega)
        have sF : f2_setFacts (frH σ i 0) (frH σ i 1) (frH σ i 2) (frH σ i 3) (frH σ i 4) σ = some ((), pI (pI (pI (pI (pI σ 300 0 0 (frH σ i 0)) 300 0 1 (frH σ i 1)) 300 0 2 (frH σ i 2)) 300 0 3 (frH σ i 3)) 300 0 4 (frH σ i 4)) := by
          unfold f2_setFacts
          rw [show ∀ kk : Nat → Option (Unit × zSt), zix 0 5 kk = kk 0 from fun kk => zix_s (i := 0) (by decide) (by decide) kk, zlt_s, show ∀ kk : Nat → Option (Unit × zSt), zix 1 5 kk = kk 1 from fun kk => zix_s (i := 1) (by decide) (by decide) kk, zlt_s, show ∀ kk : Nat → Option (Unit × zSt), zix 2 5 kk = kk 2 from fun kk => zix_s (i := 2) (by decide) (by decide) kk, zlt_s, show ∀ kk : Nat → Option (Unit × zSt), zix 3 5 kk = kk 3 from fun kk => zix_s (i := 3) (by decide) (by decide) kk, zlt_s, show ∀ kk : Nat → Option (Unit × zSt), zix 4 5 kk = kk 4 from fun kk => zix_s (i := 4) (by decide) (by decide) kk, zlt_s]
        have cF : Ch (pI (pI (pI (pI (pI σ 300 0 0 (frH σ i 0)) 300 0 1 (frH σ i 1)) 300 0 2 (frH σ i 2)) 300 0 3 (frH σ i 3)) 300 0 4 (frH σ i 4)) σ := ((((Ch.rf.I rfl).I rfl).I rfl).I rfl).I rfl
        generalize hS : pI (pI (pI (pI (pI σ 300 0 0 (frH σ i 0)) 300 0 1 (frH σ i 1)) 300 0 2 (frH σ i 2)) 300 0 3 (frH σ i 3)) 300 0 4 (frH σ i 4) = s20 at sF cF
        obtain ⟨s22, V, S, g1, g2, g3, g4⟩ := c_gives (s := s20) (b := fun j => gI σ 1350 0 (160 * (10 + k) + j)) (n := n) (H := frH σ i) (h1 := t) hn (fun j hj => (y7 j hj).2) (by rw [cF.2.2.2.2, hN]) (fun j hj => by rw [cF.A (t := 1100) rfl]; exact (y7 j hj).1) (fun j hj => by
          rw [← hS, gI_pI, gI_pI, gI_pI, gI_pI, gI_pI]
          have hj' : j = 0 ∨ j = 1 ∨ j = 2 ∨ j = 3 ∨ j = 4 := by omega
          rcases hj' with rfl | rfl | rfl | rfl | rfl <;> rfl)
        have c22 : Ch s22 σ := g3.tr cF
        obtain ⟨s18, f1, f2, f3, f4⟩ := front _ (ryC s22 c22 (gI σ 1310 0 i - clm (frG (fun j => gI σ 1350 0 (160 * (10 + k) + j)) n (frH σ i) n 0 0 V S true 0)) (gI σ 1311 0 i + clm (frG (fun j => gI σ 1350 0 (160 * (10 + k) + j)) n (frH σ i) n 0 0 V S true 0)))
        have B : RB (bgT s18 (nI (160 * (10 + k))) (nI n)) (fun j => gI σ 1350 0 (160 * (10 + k) + j)) n := by
          unfold RB bgT
          rw [gI_at, gI_ne (show 1348 ≠ 12 by decide), gI_ne (show 1348 ≠ 12 by decide), gI_ne (show 1350 ≠ 12 by decide), gI_ne (show 1350 ≠ 12 by decide), gI_nk (show ¬ (12 = 12 ∧ 66 = 68) by decide), gI_at, f2.1 1350 (by omega) (by omega)]
          exact ⟨rfl, hn, fun j hj => (y7 j hj).2, Or.inr ⟨160 * (10 + k), by omega, rfl, fun j _ => rfl⟩⟩
        obtain ⟨v, a', o', m1, m2⟩ := m_readFreeing B f3
        have m2 := m2 hvd V S g1 g2
        rw [← m2] at f4 g4
        have c36 : Ch (rdS (bgT s18 (nI (160 * (10 + k))) (nI n)) (nI a') (ofo (frR (fun j => gI σ 1350 0 (160 * (10 + k) + j)) n 0 0 0 true false)) o') s18 := Ch_rd ((Ch.rf.I rfl).I rfl)
        rw [← m2] at f1
        refine ⟨clm v, _, _, ?_, okC s22 c22 (gI σ 1310 0 i - clm v) (gI σ 1311 0 i + clm v), ?_, fin v s22 _ c22 (c36.tr f1)⟩
        · unfold f11_free
          have E0 : zs (gleft σ (qday σ) i) (mF σ) = frH σ i 0 := rfl
          have E1 : qday σ - gI σ 1305 0 i = frH σ i 1 := rfl
          have E2 : zs (gfals σ i) (mF σ) = frH σ i 2 := rfl
          have E3 : zs (gbrok σ i) (mF σ) = frH σ i 3 := rfl
          have E4 : gI σ 1310 0 i = frH σ i 4 := rfl
          rw [e_hAt h hi, zc1_s, zoc_s, ck, if_pos hk, zc1_s, if_neg (by decide), q6, hold, ef, ez, zc1_s, ea, zc1_s, zlt_s, zoc_s, e_leftIn h, zc1_s, e_falseIn h, zc1_s, e_brokenIn h, zc1_s, a4, a6, E0, E1, E2, E3]
          rw [show f2_setFacts (frH σ i 0) (frH σ i 1) (frH σ i 2) (frH σ i 3) (gI σ 1310 0 i) σ = some ((), s20) from sF, zc2_s, g4, zc2_s]
          exact tailC v s22 c22
        · rw [f4, ef, if_pos (le0 (by omega)), show (10 : Int32) + nI k = nI (10 + k) from nI_add' 10 k (by omega), zix_s (show 10 + k < 20 by omega) (by decide), f2.1 1351 (by omega) (by omega), y5, show (160 : Int32) * nI (10 + k) = nI (160 * (10 + k)) from nI_mul' 160 _ (by omega) (by omega) (by omega), m1, zc2_s]
          exact J v _ (c36.ry.tr f2)
    · have hk' : ¬ 0 ≤ gI σ 1305 0 i := by rw [i_le]; exact hk
      refine Ok2.same h (r := -3) ?_ ?_
      · unfold f11_free
        rw [e_hAt h hi, zc1_s, zoc_s, ck, if_neg hk, zc1_s, if_pos rfl]
      · unfold f12_free
        rw [m_isH hr, if_pos hv, zc1_s, if_neg (by decide), zix_s hi4 (by decide), if_neg hk']
  · refine Ok2.same h (r := -1) ?_ ?_
    · unfold f11_free
      rw [e_hAt_o h hv, zc1_s, zoc_n]
    · unfold f12_free
      rw [m_isH hr, if_neg hv, zc1_s, if_pos rfl]
