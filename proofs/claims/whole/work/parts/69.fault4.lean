/-- the class's state behind the telling -/
def flC (s : zSt) (N : Nat) (q L nw : Int32) : zSt := pI (pR (adC (pI (pI (pI s 1 N 9 q) 1 N 10 L) 1 N 11 nw) N 0 0 q (-1)) 1204 0 N (some N)) 11 0 5 (nI (N + 1))
def flM4 (S : zSt) (N hh : Nat) (rm kv sv ey : Int32) : zSt := pI (pI (pI (pI (pI (pI S 1318 0 N (nI hh)) 1319 0 N rm) 1320 0 N kv) 1321 0 N sv) 1322 0 N (gI S 12 0 0)) 1323 0 N ey
def flM (S : zSt) (N hh : Nat) (rm kv sv ey L nw : Int32) : zSt := adM (pI (pI (pI (flM4 S N hh rm kv sv ey) 1324 0 N L) 1325 0 N nw) 12 0 36 (nI (N + 1))) N 0 0 (-1)
theorem FI_of {σ s : zSt} {N hh kn : Nat} {rm sv ey L nw : Int32} {cr : Bool} (H : NF σ N hh kn rm (nI kn) sv ey cr s) : FI σ (flM (flC s N (qday σ) L nw) N hh rm (nI kn) sv ey L nw) N hh kn rm sv ey L nw cr := by
  obtain ⟨i1, i4, i3, i3', ii, r1, r4, r3, r3', rr, nn, gz⟩ := H
  have e12 : gI s 12 0 0 = qday σ := by rw [ii 12 (by decide)]; rfl
  refine ⟨fun i k => ?_, fun i k => ?_, fun i k => ?_, fun i k => ?_, fun i k => ?_, fun a i k ha hi => ?_, fun hc => ?_, fun b c => ?_, fun b c => ?_, fun i => ?_, fun i => ?_, fun i => ?_, fun i => ?_, fun i => ?_, fun i => ?_, fun i => ?_, fun i => ?_, fun k => ?_, fun k => ?_, fun k => ?_, fun i => ?_, fun a ha => ?_, fun i k => ?_, fun i => ?_, fun a ha => ?_, fun a => ?_, ?_⟩
  · unfold flM flM4 flC adM adC fF
    simp only [gI_pI, gI_pR]
    by_cases e : i = N
    · subst e
      simp [i1]
    · simp [e, i1]
  · unfold flM flM4 flC adM adC
    simp only [gI_pI, gI_pR]
    by_cases e : i = N
    · subst e
      simp [i4]
    · simp [e, i4]
  · unfold flM flM4 flC adM adC
    simp only [gI_pI, gI_pR]
    by_cases e : i = N
    · subst e
      simp [i4]
    · simp [e, i4]
  · unfold flM flM4 flC adM adC
    simp only [gI_pI, gI_pR]
    by_cases e : i = N
    · subst e
      simp [i4]
    · simp [e, i4]
  · unfold flM flM4 flC adM adC
    simp only [gI_pI, gI_pR]
    by_cases e : i = N
    · subst e
      simp [i4]
    · simp [e, i4]
  · rw [← i3 a i k ha hi]
    unfold flM flM4 flC adM adC
    rcases ha with rfl | rfl | rfl <;> simp [gI_pI, gI_pR]
  · rw [← i3' hc]
    unfold flM flM4 flC adM adC
    simp [gI_pI, gI_pR]
  · rw [← ii 11 (by decide)]
    unfold flM flM4 flC adM adC
    simp [gI_pI, gI_pR]
  · rw [← ii 12 (by decide)]
    unfold flM flM4 flC adM adC
    simp [gI_pI, gI_pR]
  · rw [← ii 1318 (by decide)]
    unfold flM flM4 flC adM adC
    simp [gI_pI, gI_pR]
  · rw [← ii 1319 (by decide)]
    unfold flM flM4 flC adM adC
    simp [gI_pI, gI_pR]
  · rw [← ii 1320 (by decide)]
    unfold flM flM4 flC adM adC
    simp [gI_pI, gI_pR]
  · rw [← ii 1321 (by decide)]
    unfold flM flM4 flC adM adC
    simp [gI_pI, gI_pR]
  · rw [← ii 1322 (by decide)]
    unfold flM flM4 flC adM adC
    simp [gI_pI, gI_pR, e12]
  · rw [← ii 1323 (by decide)]
    unfold flM flM4 flC adM adC
    simp [gI_pI, gI_pR]
  · rw [← ii 1324 (by decide)]
    unfold flM flM4 flC adM adC
    simp [gI_pI, gI_pR]
  · rw [← ii 1325 (by decide)]
    unfold flM flM4 flC adM adC
    simp [gI_pI, gI_pR]
  · rw [← ii 1326 (by decide)]
    unfold flM flM4 flC adM adC
    simp [gI_pI, gI_pR]
  · rw [← ii 1327 (by decide)]
    unfold flM flM4 flC adM adC
    simp [gI_pI, gI_pR, e12]
  · rw [← ii 1328 (by decide)]
    unfold flM flM4 flC adM adC
    simp [gI_pI, gI_pR]
  · rw [← ii 1329 (by decide)]
    unfold flM flM4 flC adM adC
    simp [gI_pI, gI_pR]
  · rw [← ii a (by omega)]
    unfold flM flM4 flC adM adC
    rw [gI_ne (by omega), gI_ne (by omega), gI_ne (by omega), gI_ne (by omega), gI_ne (by omega), gI_ne (by omega), gI_ne (by omega), gI_ne (by omega), gI_ne (by omega), gI_ne (by omega), gI_ne (by omega), gI_ne (by omega), gI_ne (by omega), gI_ne (by omega), gI_R, gI_ne (by omega), gI_ne (by omega), gI_ne (by omega), gI_ne (by omega), gI_ne (by omega), gI_ne (by omega), gI_ne (by omega)]
  · rw [← r1 i k]
    unfold flM flM4 flC adM adC
    simp [gR_pI, gR_pR]
  · rw [← rr 1204 (by decide)]
    unfold flM flM4 flC adM adC
    simp [gR_pI, gR_pR]
  · rw [← rr a (by omega)]
    unfold flM flM4 flC adM adC
    funext b c
    have : ¬ a = 1204 := by omega
    simp [gR_pI, gR_pR, this]
  · rw [← nn a]
    rfl
  · rw [← gz]
    rfl
def lsd (σ : zSt) (h : Nat) : Bool := !decide (0 ≤ (gI σ 1305 0 h).toInt) || !decide (gI σ 1305 0 h < qday σ)
theorem t_fault {σ : zSt} (h : Inv σ) (v1 v2 v3 v4 : Int32) : Ok2 (f11_fault v1 v2 v3 v4 σ) (f12_fault v1 v2 v3 v4) := by
  have h' := h
  have hr := RI_of h
  have hO := h.1
  have hmF := mF_e h
  obtain ⟨n1, n2, n3⟩ := N_f h
  obtain ⟨q1, q2⟩ := N_q h
  have ci : ∀ x, f11_isIn x 11 σ = some (if 0 ≤ x.toInt ∧ x.toInt < 11 then 1 else 0) := fun x => by rw [e_isIn]; simp only [Int32.reduceToInt]
  have m9 : ∀ s, f12_within v3 1 9 s = some (if 1 ≤ v3.toInt ∧ v3.toInt ≤ 9 then 1 else 0) := fun s => by rw [e_within]; simp only [Int32.reduceToInt]
  have m10 : ∀ s, f12_within v4 0 10 s = some (if 0 ≤ v4.toInt ∧ v4.toInt ≤ 10 then 1 else 0) := fun s => by rw [e_within]; simp only [Int32.reduceToInt]
  have okc : ∀ k : Option (Int32 × zSt), zokc σ k = k := fun k => zokc_s hO k
  by_cases hn : 0 ≤ v1.toInt
  · have hd := e_div (d := 12) hn (by omega)
    have hm12 := e_rem (d := 12) hn (by omega)
    have c0 : (0 : Int32) ≤ v1 := by rw [i_le]; exact hn
    have c0' : ¬ v1 < 0 := by rw [i_lt]; simp only [Int32.reduceToInt]; omega
    rcases zcase (zop_idiv v1 12) (mH σ) (by have := hr.1.2; omega) with ⟨hh, hhl, hhe, hhv⟩ | hhv
    · rcases zcase v2 (mK σ) (by have := hr.2.1.2; omega) with ⟨kn, knl, rfl, kv⟩ | kv
      · have mh : ∀ s, RY s σ → f12_isHome (nI hh) s = some 1 := fun s y => by
          rw [m_isH (RI_Y y hr), (RY_b y).2.2.2.2.2.2.2.1, if_pos (by rw [← hhe]; exact hhv)]
        have mk : ∀ s, RY s σ → f12_isKind (nI kn) s = some 1 := fun s y => by
          rw [m_isK (RI_Y y hr), (RY_b y).2.2.2.2.2.2.2.2.1, if_pos kv]
        by_cases hs : 1 ≤ v3.toInt ∧ v3.toInt ≤ 9
        · by_cases he : 0 ≤ v4.toInt ∧ v4.toInt < 11
          · by_cases hfull : mF σ = 200
            · refine Ok2.same h' (r := -2) ?_ ?_
              · unfold f11_fault
                rw [zlt_s, if_pos c0, okc, hhe, e_hAt h hhl, zc1_s]
                dsimp only
                rw [okc, e_kAt h knl, zc1_s, zoc_s, zoc_s, if_neg (by rw [i_lt]; simp only [Int32.reduceToInt]; omega), if_neg (by rw [i_lt]; simp only [Int32.reduceToInt]; omega), ci, zc1_s, if_neg (by rw [t01]; omega), n1, hfull, if_neg (show ¬ nI 200 < 200 by decide)]
              · unfold f12_fault
                rw [if_neg c0', hhe, mh σ RY.rf, zc1_s, if_neg (by decide), mk σ RY.rf, zc1_s, if_neg (by decide), m9, zc1_s, if_neg (by rw [t01]; omega), m10, zc1_s, if_neg (by rw [t01]; omega), n2, hfull, if_pos (show nI 200 = 200 from rfl)]
            · have hlt : mF σ < 200 := by omega
              obtain ⟨N, hNe⟩ : ∃ N, N = mF σ := ⟨_, rfl⟩
              have hN : gN σ 1 = N := by rw [hNe, hmF]
              have hC := h.2.1
              obtain ⟨-, -, -, -, -, -, c4, -⟩ := hC
              have hk := A_K h knl
              have hk5 : gN σ 5 = mH σ := (mH_e h).symm
              have hk7 : gN σ 7 = mK σ := (mK_e h).symm
              obtain ⟨cr, hcr⟩ : ∃ cr : Bool, cr = !decide (gI σ 1316 0 kn &&& 2 = 0) := ⟨_, rfl⟩
              have hcr1 : gI σ 7 kn 2 &&& 2 = 0 ↔ cr = false := by
                rw [hk.2.2.2.1, hcr]
                by_cases e : gI σ 1316 0 kn &&& 2 = 0
                · rw [decide_eq_true e]; simp [e]
                · rw [decide_eq_false e]; simp [e]
              have hcr2 : cr = true ↔ gI σ 1316 0 kn &&& 2 ≠ 0 := by
                rw [hcr]
                by_cases e : gI σ 1316 0 kn &&& 2 = 0
                · rw [decide_eq_true e]; simp [e]
                · rw [decide_eq_false e]; simp [e]
              obtain ⟨rm, hrm⟩ : ∃ rm, rm = zop_irem v1 12 := ⟨_, rfl⟩
              have brm : btw 0 rm 11 := by
                rw [hrm]
                unfold btw
                rw [show (12 : Int32) = nI 12 from rfl, hm12]
                omega
              obtain ⟨s, run, H⟩ := c_newFault (h := hh) (kd := kn) (rm := rm) (kv := nI kn) (sv := v3) (ey := v4) h.2.1 hN cr hcr1
              have zs' : zOK s := NF_zOK hN (c4.trans hN) H hO
              have H' := H
              obtain ⟨i1, i4, i3, i3', ii, r1, r4, r3, r3', rr, nn, gz⟩ := H
              have tb := e_isToldBefore (σ := σ) (s := s) h (by rw [hN, hNe]) (by rw [← hNe]; exact H')
              rw [← hNe] at tb
              obtain ⟨tb0, htb⟩ : ∃ b, b = zan (old σ hh rm (nI kn)) N := ⟨_, rfl⟩
              rw [← htb] at tb
              have hA := A_H h hhl
              have a6 := hA.2.2.2.2.2.1
              have hb := (hr.2.2.2.2.2.1 hh hhl).2.2.1
              obtain ⟨L, hL⟩ : ∃ L : Int32, L = b01 (lsd σ hh) := ⟨_, rfl⟩
              obtain ⟨nwv, hnw⟩ : ∃ nwv : Int32, nwv = b01 (!lsd σ hh && !tb0) := ⟨_, rfl⟩
              have L01 : L = 0 ∨ L = 1 := by rw [hL]; cases lsd σ hh <;> simp [b01]
              have nw01 : nwv = 0 ∨ nwv = 1 := by rw [hnw]; cases (!lsd σ hh && !tb0) <;> simp [b01]
              have tell : f1_tell N (qday σ) (b01 tb0) s = some ((), adC (pI (pI (pI s 1 N 9 (qday σ)) 1 N 10 L) 1 N 11 nwv) N 0 0 (qday σ) (-1)) := by
                have g1 : gR (pI s 1 N 9 (qday σ)) 1 N 1 = some hh := by
                  show gR s 1 N 1 = some hh
                  rw [r1, if_pos rfl]; rfl
                have g5 : gI (pI s 1 N 9 (qday σ)) 5 hh 4 = gI σ 1305 0 hh := by
                  rw [gI_ne (by decide), ii 5 (by decide), a6]
                have ck : f5_hasKey hh (pI s 1 N 9 (qday σ)) = some (if 0 ≤ (gI σ 1305 0 hh).toInt then 1 else 0) := by
                  rw [e_hasKey (by rw [g5]; exact hb), g5]
                have J : ∀ b : Bool, b = lsd σ hh → (zbo (b01 b) <| zlt (pI (pI s 1 N 9 (qday σ)) 1 N 10 (b01 b)) fun s8 => zbo (if (gI s8 1 N 10) = 0 then (if b01 tb0 = 0 then 1 else 0) else 0) <| zlt (pI s8 1 N 11 (if (gI s8 1 N 10) = 0 then (if b01 tb0 = 0 then 1 else 0) else 0)) fun s16 => zc2 (f4_add N 0 (qday σ) (-1) s16) fun _ s18 => some ((), s18)) = some ((), adC (pI (pI (pI s 1 N 9 (qday σ)) 1 N 10 L) 1 N 11 nwv) N 0 0 (qday σ) (-1)) := fun b hb2 => by
                  have e10 : gI (pI (pI s 1 N 9 (qday σ)) 1 N 10 (b01 b)) 1 N 10 = b01 b := by rw [gI_pI, if_pos ⟨rfl, rfl, rfl⟩]
                  have e43 : gI (pI (pI (pI s 1 N 9 (qday σ)) 1 N 10 (b01 b)) 1 N 11 nwv) 4 N 3 = nI 0 := by
                    rw [gI_ne (by decide), gI_ne (by decide), gI_ne (by decide), i4 4 N 3 (Or.inl rfl), if_pos rfl]
                    rfl
                  have ex : (if b01 b = 0 then (if b01 tb0 = 0 then 1 else 0) else 0) = nwv := by
                    rw [hnw, ← hb2]
                    cases b <;> cases tb0 <;> rfl
                  have z1 : ∀ (c : Bool) (k : Option (Unit × zSt)), zbo (b01 c) k = k := fun c k => by cases c <;> rfl
                  rw [z1, zlt_s, e10, ex, hnw, z1, zlt_s, ← hnw, e_add (n := 0) e43 (by omega), zc2_s, hL, ← hb2]
                unfold f1_tell
                rw [zlt_s, g1, zlt_s, zoc_s, ck, zc1_s, zlt_s, zlt_s, zlt_s, zoc_s, g5]
                by_cases ck2 : 0 ≤ (gI σ 1305 0 hh).toInt
                · rw [if_pos ck2, if_neg (by decide)]
                  by_cases c5 : gI σ 1305 0 hh < qday σ
                  · rw [if_pos c5]
                    exact J false (by unfold lsd; rw [decide_eq_true ck2, decide_eq_true c5]; rfl)
                  · rw [if_neg c5]
                    exact J true (by unfold lsd; rw [decide_eq_false c5]; simp)
                · rw [if_neg ck2, if_pos rfl]
                  exact J true (by unfold lsd; rw [decide_eq_false ck2]; rfl)
              have FIx := FI_of (L := L) (nw := nwv) (N := N) ⟨i1, i4, i3, i3', ii, r1, r4, r3, r3', rr, nn, gz⟩
              have hS1 : ∀ a, a = 12 ∨ 1300 ≤ a → gI (flC s N (qday σ) L nwv) a = gI σ a := fun a ha => by
                rw [← ii a (by omega)]
                unfold flC adC
                rw [gI_ne (by omega), gI_R, gI_ne (by omega), gI_ne (by omega), gI_ne (by omega), gI_ne (by omega), gI_ne (by omega), gI_ne (by omega), gI_ne (by omega)]
              have x1 : RY (flC s N (qday σ) L nwv) σ := RX.ry hS1
              have hzC : zOK (flC s N (qday σ) L nwv) := by
                unfold flC adC
                exact fr_zOK_I (fr_zOK_R (fun _ => rfl) (fr_zOK_I (fr_zOK_I (fr_zOK_I (fr_zOK_I (fr_zOK_I (fr_zOK_I (fr_zOK_I zs'))))))))
              refine ⟨nI N, flC s N (qday σ) L nwv, flM (flC s N (qday σ) L nwv) N hh rm (nI kn) v3 v4 L nwv, ?_, hzC, ?_, Inv_fault h hN (by omega) (by omega) (by omega) brm hs L01 nw01 hcr2 ?_ FIx⟩
              · have okc2 : ∀ k : Option (Int32 × zSt), zokc s k = k := fun k => zokc_s zs' k
                have e115 : gI (nw σ 1 0) 11 0 5 = nI N := by rw [gI_nn (by decide), n1, hNe]
                have e116 : gI s 11 0 6 = qday σ := by rw [ii 11 (by decide)]; exact q1
                have e11s : gI s 11 0 5 = nI N := by rw [ii 11 (by decide), n1, hNe]
                have g114 : gR s 11 0 4 = some 0 := by
                  rw [rr 11 (by decide)]
                  exact hO 11 0 4 0 (by rw [h.2.1.2.2.2.2.1]; decide) rfl
                obtain ⟨T, hT⟩ : ∃ T, T = adC (pI (pI (pI s 1 N 9 (qday σ)) 1 N 10 L) 1 N 11 nwv) N 0 0 (qday σ) (-1) := ⟨_, rfl⟩
                rw [← hT] at tell
                have eT : gI T 11 0 5 = nI N := by rw [hT]; exact e11s
                have gT : gR T 11 0 4 = some 0 := by rw [hT]; exact g114
                unfold f11_fault
                rw [zlt_s, if_pos c0, okc, hhe, e_hAt h hhl, zc1_s]
                dsimp only
                rw [okc, e_kAt h knl, zc1_s, zoc_s, zoc_s, if_neg (by rw [i_lt]; simp only [Int32.reduceToInt]; omega), if_neg (by rw [i_lt]; simp only [Int32.reduceToInt]; omega), ci, zc1_s, if_neg (by rw [t01]; omega), n1, if_pos (show nI (mF σ) < 200 from nI_lt hlt (by decide)), hN, zlt_s, zlt_s, e115, ← hrm, run, zc2_s]
                dsimp only
                rw [okc2, tb, zc1_s, okc2, e116, tell, zc2_s]
                dsimp only
                rw [gT, zlt_s, zoc_s, eT, zix_s (show N < 200 by omega) (by decide), zlt_s, gI_R, eT, nI_suc N (by omega), zlt_s]
                have fin : gI (pI (pR T 1204 0 N (some N)) 11 0 5 (nI (N + 1))) 11 0 5 - 1 = nI N := by
                  rw [gI_pI, if_pos ⟨rfl, rfl, rfl⟩]
                  exact sub1 N (by omega)
                rw [fin, hT]
                rfl
              · obtain ⟨S, hSd⟩ : ∃ S, S = flC s N (qday σ) L nwv := ⟨_, rfl⟩
                rw [← hSd] at hS1 x1 ⊢
                have e36 : gI S 12 0 36 = nI N := by rw [x1.2 36 (by omega), n2, hNe]
                have hN2 : N < 200 := by omega
                have hh40 : hh < 40 := Nat.lt_of_lt_of_le hhl hr.1.2
                obtain ⟨s18, h18⟩ : ∃ s18, s18 = flM4 S N hh rm (nI kn) v3 v4 := ⟨_, rfl⟩
                have k1305 : gI s18 1305 0 hh = gI σ 1305 0 hh := by rw [h18, ← hS1 1305 (by omega)]; rfl
                have k12 : ∀ c, gI s18 12 0 c = gI S 12 0 c := fun c => by rw [h18]; rfl
                have J : ∀ b : Bool, b = lsd σ hh → (zix (nI N) 200 fun m23 => zlt (pI s18 1324 0 m23 (vp_nar .boolean (b01 b))) fun s24 => zix (nI N) 200 fun m25 => zlt (gI s24 1324 0 m25 : Int32) fun x26 => f12_fault_L175 (nI kn) (nI N) (nI hh) s24 (fun (a48 : Int32) => zix (nI N) 200 fun m53 => zlt (pI s24 1325 0 m53 (vp_nar .boolean (if a48 = 0 then 1 else 0))) fun s54 => zlt (pI s54 12 0 36 ((gI s54 12 0 36) + 1)) fun s55 => zc2 (f12_become (nI N) 0 (-1) s55) fun _ s57 => some (nI N, s57)) zfuel x26 0) = some (nI N, flM S N hh rm (nI kn) v3 v4 L nwv) := fun b hb2 => by
                  have z1 : ∀ c : Bool, vp_nar .boolean (b01 c) = b01 c := fun c => by cases c; exact znar0; exact znar1
                  have hLb : b01 b = L := by rw [hL, hb2]
                  have e24 : gI (pI s18 1324 0 N (b01 b)) 1324 0 N = b01 b := by rw [gI_pI, if_pos ⟨rfl, rfl, rfl⟩]
                  have mo := m_old (σ := σ) (s := pI s18 1324 0 N (b01 b)) hr (hh := hh) (rm := rm) (kv := nI kn) (h40 := hh40) (fun a ha h1 h2 => by
                    rw [gI_ne (by omega), h18]
                    unfold flM4
                    rw [gI_ne (by omega), gI_ne (by omega), gI_ne (by omega), gI_ne (by omega), gI_ne (by omega), gI_ne (by omega)]
                    exact hS1 a (Or.inr (by omega))) (fun g hg => by
                    have ne : ¬ g = N := by omega
                    rw [h18]
                    unfold flM4
                    refine ⟨?_, ?_, ?_, ?_⟩
                    · rw [← hS1 1318 (by omega)]; simp [gI_pI, ne]
                    · rw [← hS1 1319 (by omega)]; simp [gI_pI, ne]
                    · rw [← hS1 1320 (by omega)]; simp [gI_pI, ne]
                    · rw [← hS1 1324 (by omega)]; simp [gI_pI, ne]) (by rw [← hNe, h18]; unfold flM4; simp [gI_pI]) (by omega) b
                  rw [← hNe] at mo
                  rw [zix_s hN2 (by decide), z1, zlt_s, zix_s hN2 (by decide), e24, zlt_s, mo, ← htb]
                  have ex : (if b01 (b || tb0) = 0 then 1 else 0) = nwv := by
                    rw [hnw, ← hb2]
                    cases b <;> cases tb0 <;> rfl
                  have e36' : gI (pI (pI s18 1324 0 N (b01 b)) 1325 0 N nwv) 12 0 36 = nI N := by
                    rw [gI_ne (by decide), gI_ne (by decide), k12]
                    exact e36
                  have e29 : gI (pI (pI (pI s18 1324 0 N (b01 b)) 1325 0 N nwv) 12 0 36 (nI (N + 1))) 1329 0 N = nI 0 := by
                    rw [gI_ne (by decide), gI_ne (by decide), gI_ne (by decide), h18]
                    show gI S 1329 0 N = nI 0
                    rw [hS1 1329 (by omega)]
                    exact (h.2.2.2.2.2.2.2.2.2.2.2.2.2 N (by omega)).1
                  rw [zix_s hN2 (by decide), ex, show vp_nar .boolean nwv = nwv by rw [hnw]; exact z1 _, zlt_s, e36', nI_suc N (by omega), zlt_s, m_become hN2 e29 (by omega), zc2_s, hLb, h18]
                  rfl
                unfold f12_fault
                rw [if_neg c0', hhe, mh S x1, zc1_s, if_neg (by decide), mk S x1, zc1_s, if_neg (by decide), m9, zc1_s, if_neg (by rw [t01]; omega), m10, zc1_s, if_neg (by rw [t01]; omega), e36, if_neg (show ¬ nI N = 200 by show ¬ nI N = nI 200; rw [nI_inj (by omega) (by decide)]; omega), zlt_s, zlt_s]
                rw [zix_s hN2 (by decide), zlt_s, zix_s hN2 (by decide), zlt_s, zix_s hN2 (by decide), zlt_s, zix_s hN2 (by decide), zlt_s, zix_s hN2 (by decide), zlt_s, zix_s hN2 (by decide), zlt_s, ← hrm]
                have es : pI (pI (pI (pI (pI (pI S 1318 0 N (nI hh)) 1319 0 N rm) 1320 0 N (nI kn)) 1321 0 N v3) 1322 0 N (gI (pI (pI (pI (pI S 1318 0 N (nI hh)) 1319 0 N rm) 1320 0 N (nI kn)) 1321 0 N v3) 12 0 0)) 1323 0 N v4 = s18 := by rw [h18]; rfl
                rw [es, zix_s hh40 (by decide), zlt_s, zlt_s, zix_s hh40 (by decide), k1305, k12, x1.2 0 (by omega)]
                by_cases c5 : gI σ 1305 0 hh < 0
                · rw [if_pos c5]
                  exact J true (by unfold lsd; rw [decide_eq_false (by rw [i_lt] at c5; simp only [Int32.reduceToInt] at c5; omega)]; rfl)
                · rw [if_neg c5]
                  by_cases c6 : gI σ 1305 0 hh < qday σ
                  · rw [if_pos (show gI σ 1305 0 hh < gI σ 12 0 0 from c6)]
                    exact J false (by unfold lsd; rw [decide_eq_true c6, decide_eq_true (by rw [i_lt] at c5; simp only [Int32.reduceToInt] at c5; omega)]; rfl)
                  · rw [if_neg (show ¬ gI σ 1305 0 hh < gI σ 12 0 0 from c6)]
                    exact J true (by unfold lsd; rw [decide_eq_false c6]; simp)
              · exact fun t i k j a b => hzC t i k j a b
          · refine Ok2.same h' (r := -1) ?_ ?_
            · unfold f11_fault
              rw [zlt_s, if_pos c0, okc, hhe, e_hAt h hhl, zc1_s]
              dsimp only
              rw [okc, e_kAt h knl, zc1_s, zoc_s, zoc_s, if_neg (by rw [i_lt]; simp only [Int32.reduceToInt]; omega), if_neg (by rw [i_lt]; simp only [Int32.reduceToInt]; omega), ci, zc1_s, if_pos (by rw [t01]; exact he)]
            · unfold f12_fault
              rw [if_neg c0', hhe, mh σ RY.rf, zc1_s, if_neg (by decide), mk σ RY.rf, zc1_s, if_neg (by decide), m9, zc1_s, if_neg (by rw [t01]; omega), m10, zc1_s, if_pos (by rw [t01]; omega)]
        · refine Ok2.same h' (r := -1) ?_ ?_
          · unfold f11_fault
            rw [zlt_s, if_pos c0, okc, hhe, e_hAt h hhl, zc1_s]
            dsimp only
            rw [okc, e_kAt h knl, zc1_s, zoc_s, zoc_s]
            by_cases c1 : v3 < 1
            · rw [if_pos c1]
            · rw [if_neg c1, if_pos (by rw [i_lt] at c1 ⊢; simp only [Int32.reduceToInt] at c1 ⊢; omega)]
          · unfold f12_fault
            rw [if_neg c0', hhe, mh σ RY.rf, zc1_s, if_neg (by decide), mk σ RY.rf, zc1_s, if_neg (by decide), m9, zc1_s, if_pos (by rw [t01]; exact hs)]
      · have mh : f12_isHome (nI hh) σ = some 1 := by
          rw [m_isH hr, if_pos (by rw [← hhe]; exact hhv)]
        refine Ok2.same h' (r := -1) ?_ ?_
        · unfold f11_fault
          rw [zlt_s, if_pos c0, okc, hhe, e_hAt h hhl, zc1_s]
          dsimp only
          rw [okc, e_kAt_o h kv, zc1_s, zoc_s, zoc_n]
        · unfold f12_fault
          rw [if_neg c0', hhe, mh, zc1_s, if_neg (by decide), m_isK hr, zc1_s, if_pos (by rw [t01]; exact kv)]
    · have ck : ∃ o, f11_kindAt v2 σ = some o := by
        rcases zcase v2 (mK σ) (by have := hr.2.1.2; omega) with ⟨kn, knl, rfl, kv⟩ | kv
        · exact ⟨_, e_kAt h knl⟩
        · exact ⟨_, e_kAt_o h kv⟩
      obtain ⟨o, ho⟩ := ck
      refine Ok2.same h' (r := -1) ?_ ?_
      · unfold f11_fault
        rw [zlt_s, if_pos c0, okc, e_hAt_o h hhv, zc1_s]
        dsimp only
        rw [okc, ho, zc1_s, zoc_n]
      · unfold f12_fault
        rw [if_neg c0', m_isH hr, zc1_s, if_pos (by rw [t01]; exact hhv)]
  · have ck : ∃ o, f11_kindAt v2 σ = some o := by
      rcases zcase v2 (mK σ) (by have := hr.2.1.2; omega) with ⟨kn, knl, rfl, kv⟩ | kv
      · exact ⟨_, e_kAt h knl⟩
      · exact ⟨_, e_kAt_o h kv⟩
    obtain ⟨o, ho⟩ := ck
    refine Ok2.same h' (r := -1) ?_ ?_
    · unfold f11_fault
      rw [zlt_s, if_neg (show ¬ (0 : Int32) ≤ v1 by rw [i_le]; exact hn)]
      dsimp only
      rw [okc, ho, zc1_s, zoc_n]
    · unfold f12_fault
      rw [if_pos (show v1 < 0 by rw [i_lt]; simp only [Int32.reduceToInt]; omega)]
