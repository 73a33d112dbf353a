/-! what a warranty's names stand for -/
theorem RY_gsy {s σ : zSt} (x : RY s σ) : gsy s = gsy σ := by
  obtain ⟨b1, b2, b3, b4, b5, b6, b7, b8, b9, b10, b11, b12, b13, -⟩ := RY_b x
  have p : pa s = pa σ := by
    funext f i
    unfold pa
    rw [b12, b13]
  have w : wet s = wet σ := by
    funext f i
    unfold wet
    rw [b12]
  have o : okp s = okp σ := by
    funext f i
    unfold okp
    rw [p]
  have u : upp s = upp σ := by
    funext f i
    unfold upp
    rw [p]
  have n : dnn s = dnn σ := by
    funext f i
    unfold dnn
    rw [p]
  funext f d
  unfold gsy gsn nrd gdry gfin gwu gwd gdu gdd gqk
  rw [b11, b12, p, w, o, u, n]
theorem RY_frc {s σ : zSt} (x : RY s σ) : frc s = frc σ := by
  have e : phl s = phl σ := by
    funext w h k j
    unfold phl
    rw [x.1 1353 (by omega) (by omega), x.1 1352 (by omega) (by omega), x.1 1305 (by omega) (by omega)]
  funext w h k
  unfold frc txn
  rw [e, x.1 1354 (by omega) (by omega)]
def sls (σ : zSt) (f : Nat) : Int32 := zs (fun i => if gI σ 1322 0 f < gI σ 1306 0 (20 * hm σ f + i) then 0 else 1) (nT (gI σ 1307 0 (hm σ f)))
theorem e_salesBy {σ : zSt} (h : Inv σ) {f : Nat} (hf : f < mF σ) : f5_salesBy (hm σ f) (gI σ 1322 0 f) σ = some (sls σ f) := by
  have hr := RI_of h
  obtain ⟨k1, k2, k3⟩ := F_hm hr hf
  have a := A_H h k2
  have a9 : gI σ 5 (hm σ f) 9 = gI σ 1307 0 (hm σ f) := a.2.2.2.2.2.2.2.2.2.2.1
  have hb : btw 0 (gI σ 1307 0 (hm σ f)) 20 := a.2.2.2.2.2.2.2.2.2.2.2.2.2.2.2.2.1
  have hs : ∀ j, j < 20 → gI σ 610 (hm σ f) j = gI σ 1306 0 (20 * hm σ f + j) := a.2.2.2.2.2.2.2.2.2.2.2.2.2.2.2.2.2.1
  have e7 : gI σ 1307 0 (hm σ f) = nI (nT (gI σ 1307 0 (hm σ f))) := i_ofNat hb.1
  have n20 : nT (gI σ 1307 0 (hm σ f)) ≤ 20 := by
    have h1 := hb.1
    have h2 := hb.2
    unfold nT
    omega
  have e79 := a9.trans e7
  unfold f5_salesBy sls
  refine lsumK (f5_salesBy_L4 (hm σ f) (gI σ 1322 0 f) σ) some _ _ (by omega) (fun n s i hi => ?_) (fun n s => ?_) (zfuel_pos (by omega))
  · rw [f5_salesBy_L4, e79, if_neg (zn_nle hi (by omega)), zix_s (show i < 20 by omega) (by decide), hs i (by omega), zlt_s, zlt_s]
  · rw [f5_salesBy_L4, e79, if_pos (zn_rle _)]
noncomputable def fct (σ : zSt) (f : Nat) : Nat → Int32
  | 0 => zop_idiv (gI σ 1322 0 f - gI σ 1305 0 (hm σ f)) 360
  | 1 => gI σ 1320 0 f
  | 2 => gI σ 1314 0 (kd σ f)
  | 3 => gI σ 1321 0 f
  | 4 => if gI σ 1325 0 f = 0 then 0 else 1
  | 5 => sls σ f
  | 6 => gsy σ f (qday σ)
  | 7 => match dmg σ f with | none => 0 | some _ => 1
  | _ => zop_idiv (gI σ 1319 0 f) 4
theorem RY_fct {s σ : zSt} (x : RY s σ) : fct s = fct σ := by
  obtain ⟨b1, b2, b3, b4, b5, b6, b7, b8, b9, b10, -⟩ := RY_b x
  have e : sls s = sls σ := by
    funext f
    unfold sls
    rw [b5, x.1 1322 (by omega) (by omega), x.1 1306 (by omega) (by omega), x.1 1307 (by omega) (by omega)]
  funext f j
  unfold fct
  rw [b5, b6, b10, e, RY_gsy x, (RY_dmg x).1, x.1 1322 (by omega) (by omega), x.1 1305 (by omega) (by omega), x.1 1320 (by omega) (by omega), x.1 1314 (by omega) (by omega), x.1 1321 (by omega) (by omega), x.1 1325 (by omega) (by omega), x.1 1319 (by omega) (by omega)]
/-- s but for the facts -/
def NM (s' s : zSt) : Prop := Ch s' s ∧ ∀ t, t ≠ 1371 → gI s' t = gI s t
theorem NM.I {s' s : zSt} (h : NM s' s) {k : Nat} {v : Int32} : NM (pI s' 1371 0 k v) s := ⟨h.1.I rfl, fun t ht => by rw [gI_ne ht, h.2 t ht]⟩
theorem NM.rf {s : zSt} : NM s s := ⟨Ch.rf, fun _ _ => rfl⟩
theorem m_sales {σ s0 : zSt} (h : RI σ) (x : RY s0 σ) {f : Nat} (hf : f < mF σ) (v2 : Int32) (K : zSt → Option (Unit × zSt)) : ∃ s, NM s (pI s0 1371 0 5 0) ∧ gI s 1371 0 5 = sls σ f ∧ (∀ j, j ≠ 5 → gI s 1371 0 j = gI s0 1371 0 j) ∧ f12_nameFault_L104 (nI f) v2 (nI (hm σ f)) K zfuel (nI (20 * hm σ f)) (pI s0 1371 0 5 0) = K s := by
  obtain ⟨k1, k2, k3⟩ := F_hm h hf
  have hl := F_lt h hf
  have hb : btw 0 (gI σ 1307 0 (hm σ f)) 20 := (h.2.2.2.2.2.1 _ k2).2.2.2.2.2.1
  have e7 : gI σ 1307 0 (hm σ f) = nI (nT (gI σ 1307 0 (hm σ f))) := i_ofNat hb.1
  have n20 : nT (gI σ 1307 0 (hm σ f)) ≤ 20 := by
    have h1 := hb.1
    have h2 := hb.2
    unfold nT
    omega
  have z5 : ∀ kk : Nat → Option (Unit × zSt), zix 5 9 kk = kk 5 := fun kk => zix_s (i := 5) (by decide) (by decide) kk
  have key : ∀ d i m s, i + d = nT (gI σ 1307 0 (hm σ f)) → d < m → NM s (pI s0 1371 0 5 0) → gI s 1371 0 5 = zs (fun i => if gI σ 1322 0 f < gI σ 1306 0 (20 * hm σ f + i) then 0 else 1) i → (∀ j, j ≠ 5 → gI s 1371 0 j = gI s0 1371 0 j) → ∃ s', NM s' (pI s0 1371 0 5 0) ∧ gI s' 1371 0 5 = sls σ f ∧ (∀ j, j ≠ 5 → gI s' 1371 0 j = gI s0 1371 0 j) ∧ f12_nameFault_L104 (nI f) v2 (nI (hm σ f)) K m (nI (20 * hm σ f + i)) s = K s' := by
    intro d
    induction d with
    | zero =>
      intro i m s hi hq N e5 eo
      obtain ⟨m, rfl⟩ : ∃ q, m = q + 1 := ⟨m - 1, by omega⟩
      refine ⟨s, N, ?_, eo, ?_⟩
      · rw [e5]
        unfold sls
        rw [show i = nT (gI σ 1307 0 (hm σ f)) by omega]
      · have g7 : gI s 1307 0 (hm σ f) = nI (nT (gI σ 1307 0 (hm σ f))) := by rw [N.2 1307 (by decide), gI_ne (by decide), x.1 1307 (by omega) (by omega)]; exact e7
        rw [f12_nameFault_L104, zix_s k3 (by decide), g7, nI_row20 _ _ (by omega), show i = nT (gI σ 1307 0 (hm σ f)) by omega, if_pos (zn_rle _)]
    | succ d ih =>
      intro i m s hi hq N e5 eo
      obtain ⟨m, rfl⟩ : ∃ q, m = q + 1 := ⟨m - 1, by omega⟩
      have g7 : gI s 1307 0 (hm σ f) = nI (nT (gI σ 1307 0 (hm σ f))) := by rw [N.2 1307 (by decide), gI_ne (by decide), x.1 1307 (by omega) (by omega)]; exact e7
      have g22 : gI s 1322 = gI σ 1322 := by rw [N.2 1322 (by decide), gI_ne (by decide), x.1 1322 (by omega) (by omega)]
      have g6 : gI s 1306 = gI σ 1306 := by rw [N.2 1306 (by decide), gI_ne (by decide), x.1 1306 (by omega) (by omega)]
      obtain ⟨s', q1, q2, q3, q4⟩ := ih (i + 1) m (pI s 1371 0 5 (gI s 1371 0 5 + (if gI σ 1322 0 f < gI σ 1306 0 (20 * hm σ f + i) then 0 else 1))) (by omega) (by omega) N.I (by rw [gI_at, e5]; rfl) (fun j hj => by rw [gI_nk (fun e => hj e.2), eo j hj])
      refine ⟨s', q1, q2, q3, ?_⟩
      rw [← q4, f12_nameFault_L104, zix_s k3 (by decide), g7, nI_row20 _ _ (by omega), if_neg (zn_nle (show 20 * hm σ f + i < 20 * hm σ f + nT (gI σ 1307 0 (hm σ f)) by omega) (by omega)), z5, zix_s (show 20 * hm σ f + i < 800 by omega) (by decide), zix_s hl (by decide), z5, g22, g6, zlt_s, nI_suc (20 * hm σ f + i) (by omega), zlt_s]
      rfl
  exact key _ 0 zfuel (pI s0 1371 0 5 0) (Nat.zero_add _) (zfuel_pos (by omega)) NM.rf (by rw [gI_at]; rfl) (fun j hj => gI_nk (fun e => hj e.2) 0)
/-- the reference's facts -/
theorem m_nameFault {σ s0 : zSt} (h : RI σ) (x : RY s0 σ) {f : Nat} (hf : f < mF σ) : ∃ s, NM s s0 ∧ (∀ j, j < 9 → gI s 1371 0 j = fct σ f j) ∧ f12_nameFault (nI f) (o2i (dmg σ f)) s0 = some ((), s) := by
  obtain ⟨k1, k2, k3⟩ := F_hm h hf
  obtain ⟨d1, d2, d3⟩ := F_kd h hf
  have hl := F_lt h hf
  have ha : ∀ a, 1300 ≤ a → a ≤ 1354 → gI s0 a = gI σ a := x.1
  have e18 : gI s0 1318 0 f = nI (hm σ f) := by rw [ha 1318 (by omega) (by omega), k1]
  have e20 : gI s0 1320 0 f = nI (kd σ f) := by rw [ha 1320 (by omega) (by omega), d1]
  have z : ∀ {k : Nat} (hk : k < 9) (kk : Nat → Option (Unit × zSt)), zix (nI k) 9 kk = kk k := fun hk kk => zix_s hk (by decide) kk
  let s1 := pI s0 1371 0 0 (zop_idiv (gI s0 1322 0 f - gI s0 1305 0 (hm σ f)) 360)
  let s2 := pI s1 1371 0 1 (nI (kd σ f))
  let s3 := pI s2 1371 0 2 (gI s0 1314 0 (kd σ f))
  let s4 := pI s3 1371 0 3 (gI s0 1321 0 f)
  let s5 := pI s4 1371 0 4 (if gI s0 1325 0 f = 0 then 0 else 1)
  have n5 : NM s5 s0 := ((((NM.rf.I).I).I).I).I
  have x5 : RY s5 σ := (((((x.I (by omega)).I (by omega)).I (by omega)).I (by omega)).I (by omega))
  obtain ⟨s6, q1, q2, q3, q4⟩ := m_sales h x5 hf (o2i (dmg σ f)) (fun (s39 : zSt) =>
    zc1 (f12_gaugeOf (nI f) (gI s39 12 0 0) s39) fun r40 =>
    zix 6 9 fun m41 =>
    zlt (pI s39 1371 0 m41 r40) fun s42 =>
    zix 7 9 fun m47 =>
    zlt (pI s42 1371 0 m47 (if (o2i (dmg σ f)) < 0 then 0 else 1)) fun s48 =>
    zix (nI f) 200 fun m49 =>
    zix 8 9 fun m50 =>
    zlt (pI s48 1371 0 m50 (zop_idiv (gI s48 1319 0 m49) 4)) fun s51 =>
    some ((), s51))
  have n6 : NM s6 s0 := ⟨q1.1.tr (n5.I (k := 5) (v := 0)).1, fun t ht => by rw [q1.2 t ht, gI_ne ht, n5.2 t ht]⟩
  have x6 : RY s6 σ := ⟨fun a h1 h2 => by rw [n6.2 a (by omega), ha a h1 h2], fun c hc => by rw [n6.2 12 (by decide), x.2 c hc]⟩
  have e12 : gI s6 12 0 0 = qday σ := x6.2 0 (by omega)
  have e9 : gI s6 1319 = gI σ 1319 := x6.1 1319 (by omega) (by omega)
  have ga := m_gaugeOf (RI_Y x6 h) (f := f) (by rw [(RY_b x6).2.2.2.2.2.2.1]; exact hf) (qday σ)
  rw [RY_gsy x6] at ga
  refine ⟨pI (pI (pI s6 1371 0 6 (gsy σ f (qday σ))) 1371 0 7 (if o2i (dmg σ f) < 0 then 0 else 1)) 1371 0 8 (zop_idiv (gI σ 1319 0 f) 4), ((n6.I).I).I, fun j hj => ?_, ?_⟩
  · have w0 : gI s5 1371 0 0 = fct σ f 0 := by
      show gI (pI (pI (pI (pI s1 1371 0 1 _) 1371 0 2 _) 1371 0 3 _) 1371 0 4 _) 1371 0 0 = _
      rw [gI_nk (by decide), gI_nk (by decide), gI_nk (by decide), gI_nk (by decide), gI_at, ha 1322 (by omega) (by omega), ha 1305 (by omega) (by omega)]
      rfl
    have w1 : gI s5 1371 0 1 = fct σ f 1 := by
      show gI (pI (pI (pI (pI s1 1371 0 1 _) 1371 0 2 _) 1371 0 3 _) 1371 0 4 _) 1371 0 1 = _
      rw [gI_nk (by decide), gI_nk (by decide), gI_nk (by decide), gI_at, ← d1]
      rfl
    have w2 : gI s5 1371 0 2 = fct σ f 2 := by
      show gI (pI (pI (pI s2 1371 0 2 _) 1371 0 3 _) 1371 0 4 _) 1371 0 2 = _
      rw [gI_nk (by decide), gI_nk (by decide), gI_at, ha 1314 (by omega) (by omega)]
      rfl
    have w3 : gI s5 1371 0 3 = fct σ f 3 := by
      show gI (pI (pI s3 1371 0 3 _) 1371 0 4 _) 1371 0 3 = _
      rw [gI_nk (by decide), gI_at, ha 1321 (by omega) (by omega)]
      rfl
    have w4 : gI s5 1371 0 4 = fct σ f 4 := by
      show gI (pI s4 1371 0 4 _) 1371 0 4 = _
      rw [gI_at, ha 1325 (by omega) (by omega)]
      rfl
    rw [gI_pI]
    have hj' : j = 0 ∨ j = 1 ∨ j = 2 ∨ j = 3 ∨ j = 4 ∨ j = 5 ∨ j = 6 ∨ j = 7 ∨ j = 8 := by omega
    rcases hj' with rfl | rfl | rfl | rfl | rfl | rfl | rfl | rfl | rfl
    · rw [if_neg (by decide), gI_nk (by decide), gI_nk (by decide), q3 0 (by decide), w0]
    · rw [if_neg (by decide), gI_nk (by decide), gI_nk (by decide), q3 1 (by decide), w1]
    · rw [if_neg (by decide), gI_nk (by decide), gI_nk (by decide), q3 2 (by decide), w2]
    · rw [if_neg (by decide), gI_nk (by decide), gI_nk (by decide), q3 3 (by decide), w3]
    · rw [if_neg (by decide), gI_nk (by decide), gI_nk (by decide), q3 4 (by decide), w4]
    · rw [if_neg (by decide), gI_nk (by decide), gI_nk (by decide), q2]
      rfl
    · rw [if_neg (by decide), gI_nk (by decide), gI_at]
      rfl
    · rw [if_neg (by decide), gI_at]
      show _ = (match dmg σ f with | none => (0 : Int32) | some _ => 1)
      cases e : dmg σ f with
      | none => rfl
      | some g =>
        have := (dml_lt (mF σ) g e).1
        have h200 := h.2.2.1.2
        show (if nI g < 0 then (0 : Int32) else 1) = 1
        rw [if_neg (nn0 (by omega))]
    · rw [if_pos ⟨rfl, rfl, rfl⟩]
      rfl
  · unfold f12_nameFault
    have y1 : gI s1 = gI (pI s0 1371 0 0 (zop_idiv (gI s0 1322 0 f - gI s0 1305 0 (hm σ f)) 360)) := rfl
    rw [zix_s hl (by decide), e18, zlt_s, zix_s hl (by decide), zix_s k3 (by decide), show (0 : Int32) = nI 0 from rfl, z (by decide), zlt_s, zix_s hl (by decide), show (1 : Int32) = nI 1 from rfl, z (by decide), gI_ne (show 1320 ≠ 1371 by decide), e20, zlt_s, zix_s hl (by decide), gI_ne (show 1320 ≠ 1371 by decide), gI_ne (show 1320 ≠ 1371 by decide), e20, zix_s d3 (by decide), show (2 : Int32) = nI 2 from rfl, z (by decide), gI_ne (show 1314 ≠ 1371 by decide), gI_ne (show 1314 ≠ 1371 by decide), zlt_s, zix_s hl (by decide), show (3 : Int32) = nI 3 from rfl, z (by decide), gI_ne (show 1321 ≠ 1371 by decide), gI_ne (show 1321 ≠ 1371 by decide), gI_ne (show 1321 ≠ 1371 by decide), zlt_s, zix_s hl (by decide), show (4 : Int32) = nI 4 from rfl, z (by decide), gI_ne (show 1325 ≠ 1371 by decide), gI_ne (show 1325 ≠ 1371 by decide), gI_ne (show 1325 ≠ 1371 by decide), gI_ne (show 1325 ≠ 1371 by decide), zlt_s, show (5 : Int32) = nI 5 from rfl, z (by decide), zlt_s, show (20 : Int32) * nI (hm σ f) = nI (20 * hm σ f) from nI_mul' 20 _ (by omega) (by omega) (by omega), zlt_s]
    refine q4.trans ?_
    rw [e12, ga, zc1_s, show (6 : Int32) = nI 6 from rfl, z (by decide), zlt_s, show (7 : Int32) = nI 7 from rfl, z (by decide), zlt_s, zix_s hl (by decide), show (8 : Int32) = nI 8 from rfl, z (by decide), gI_ne (show 1319 ≠ 1371 by decide), gI_ne (show 1319 ≠ 1371 by decide), e9, zlt_s]
    rfl
