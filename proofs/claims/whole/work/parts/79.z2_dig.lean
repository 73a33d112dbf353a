/-! plans: the class, days read out of a price -/
theorem zL_sub {a b : Nat} (h : b ≤ a) (ha : a < 2 ^ 62) : zL a - zL b = zL (a - b) := by
  refine l_eq ?_
  rw [Int64.toInt_sub, zL_ti (by omega), zL_ti (by omega), zL_ti (by omega), Int.bmod_eq_of_le] <;> omega
theorem zL_rem {a b : Nat} (ha : a < 2 ^ 62) (hb : 0 < b ∧ b < 2 ^ 62) : zop_lrem (zL a) (zL b) = zL (a % b) := by
  have h1 : zL a / zL b = zL (a / b) := zL_div ha hb
  have h2 : a / b * b ≤ a := Nat.div_mul_le_self a b
  have h3 : a / b ≤ a := Nat.div_le_self a b
  have h4 := Nat.mod_add_div a b
  rw [Nat.mul_comm b] at h4
  unfold zop_lrem
  rw [h1, zL_mul (by omega) (by omega) (by omega), zL_sub h2 ha]
  congr 1
  omega
theorem zL_n {a : Nat} (ha : a < 2 ^ 31) : Int64.toInt32 (zL a) = nI a := by
  rw [i_eq, Int64.toInt_toInt32, zL_ti (by omega), nI_ti ha, Int.bmod_eq_of_le] <;> omega
theorem qG_dgp {x : Nat → Nat} : ∀ i, i ≤ 7 → ∃ H, qG x i = H * dgp i
  | 0, _ => ⟨0, by rw [Nat.zero_mul]; rfl⟩
  | i + 1, h => by
    obtain ⟨H, e⟩ := qG_dgp (x := x) i (by omega)
    refine ⟨15 * H + x i, ?_⟩
    have e1 : qG x (i + 1) = qG x i + x i * dgt i := rfl
    rw [e1, e, dgp_s' (by omega), dgp_s (by omega), Nat.add_mul, ← Nat.mul_assoc, Nat.mul_comm H 15]
theorem pow_dgp : ∀ i, i ≤ 7 → 170859375 = 15 ^ i * dgp i
  | i, h => by
    unfold dgp
    rw [← Nat.pow_add, show i + (7 - i) = 7 by omega]
/-- the digit of a price -/
theorem pck_dig {sv : Nat → Nat} {lt : Nat → Nat → Bool} {x : Nat → Nat} {J i : Nat} (J7 : J ≤ 7) (hx : ∀ k, k < J → x k ≤ 14) (hi : i < J) : pck sv lt x J / dgt i % 15 = x i := by
  obtain ⟨H, e1⟩ := qG_dgp (x := x) i (by omega)
  obtain ⟨t1, t2⟩ := qG_tail (x := x) (i := i + 1) (J - (i + 1)) (by omega) (fun k hk => hx k (by omega))
  rw [show i + 1 + (J - (i + 1)) = J by omega, dgp_s' (by omega)] at t2
  rw [show i + 1 + (J - (i + 1)) = J by omega] at t1
  have e2 : qG x (i + 1) = qG x i + x i * dgt i := rfl
  have dp := dgp_p J
  have xi := hx i hi
  obtain ⟨d0, d1⟩ := dgt_b i
  have e3 := pow_dgp i (by omega)
  have e4 := dgp_s (i := i) (by omega)
  obtain ⟨t, ht, et⟩ : ∃ t, t < dgt i ∧ qG x J = (15 * H + x i) * dgt i + t := by
    refine ⟨qG x J - qG x (i + 1), by omega, ?_⟩
    rw [Nat.add_mul, Nat.mul_comm 15 H, Nat.mul_assoc, ← e4, ← e1]
    omega
  obtain ⟨T, hT⟩ : ∃ T, pck sv lt x J = (15 * T + x i) * dgt i + t := by
    refine ⟨(qW sv lt x J * 1024 + qL x J * 128 + qS x J) * 15 ^ i + H, ?_⟩
    rw [pck_eq, et]
    have : qW sv lt x J * 174960000000 + qL x J * 21870000000 + qS x J * 170859375 = (qW sv lt x J * 1024 + qL x J * 128 + qS x J) * 170859375 := by omega
    rw [this, e3, e4]
    generalize qW sv lt x J * 1024 + qL x J * 128 + qS x J = Q
    generalize (15 : Nat) ^ i = P
    rw [← Nat.add_assoc]
    congr 1
    rw [Nat.add_mul, Nat.add_mul, Nat.mul_add, Nat.add_mul, ← Nat.add_assoc]
    congr 2
    rw [← Nat.mul_assoc, ← Nat.mul_assoc, Nat.mul_right_comm, Nat.mul_comm, ← Nat.mul_assoc]
  rw [hT, Nat.add_comm, Nat.add_mul_div_right _ _ d0, Nat.div_eq_of_lt ht, Nat.zero_add]
  omega
theorem pck_W {sv : Nat → Nat} {lt : Nat → Nat → Bool} {x : Nat → Nat} {J : Nat} (J7 : J ≤ 7) (hx : ∀ k, k < J → x k ≤ 14) : pck sv lt x J / 174960000000 = qW sv lt x J := by
  have h1 := qL_le x J
  have h2 := qS_le hx
  have h3 := qG_lt J7 hx
  rw [pck_eq]
  omega
/-- the plan as the class writes it -/
theorem e_readDays {s σ : zSt} {J q D : Nat} (C : JCL σ J) (g : CO s σ) {y : Nat → Nat} {M : Nat} (hM : M ≤ NWN) (hy : ∀ i, i < J → y i ≤ 14) (hq : ∀ i, i < J → y i < 14 → q + y i ≤ 9999) (eM : M = pck (jsv σ) (jlt σ q) y J) :
    ∃ s', f0_readDays (zL M) (nI q) s = some ((), s') ∧ (∀ t, t ≠ 0 → t ≠ 103 → t ≠ 107 → gI s' t = gI σ t) ∧ (∀ k, k ≠ 2 → k ≠ 4 → ∀ i, gI s' 0 i k = gI σ 0 i k) ∧ (∀ i, i < J → gI s' 103 0 i = zpl (enc q (y i))) ∧ gI s' 0 0 4 = nI J ∧ gI s' 0 0 2 = 0 ∧ (∀ t, t ≠ 101 → gR s' t = gR σ t) ∧ gN s' = gN σ ∧ gZ s' = gZ σ := by
  have J7 := C.2.1
  have key : ∀ e k m (u : zSt), k + e = J → e < m → (∀ t, t ≠ 103 → t ≠ 107 → gI u t = gI σ t) → (∀ i, i < k → gI u 103 0 i = zpl (enc q (y i))) → (∀ t, t ≠ 101 → gR u t = gR σ t) → gN u = gN σ → gZ u = gZ σ → ∃ s', f0_readDays_L3 (zL M) (nI q) (fun (s13 : zSt) => zlt (pI s13 0 0 4 (gI s13 0 0 2)) fun s14 => zlt (pI s14 0 0 2 0) fun s15 => some ((), s15)) m (nI k) u = some ((), s') ∧ (∀ t, t ≠ 0 → t ≠ 103 → t ≠ 107 → gI s' t = gI σ t) ∧ (∀ k, k ≠ 2 → k ≠ 4 → ∀ i, gI s' 0 i k = gI σ 0 i k) ∧ (∀ i, i < J → gI s' 103 0 i = zpl (enc q (y i))) ∧ gI s' 0 0 4 = nI J ∧ gI s' 0 0 2 = 0 ∧ (∀ t, t ≠ 101 → gR s' t = gR σ t) ∧ gN s' = gN σ ∧ gZ s' = gZ σ := by
    intro e
    induction e with
    | zero =>
      intro k m u hk hm h1 h2 h3 h4 h5
      obtain ⟨m, rfl⟩ : ∃ r, m = r + 1 := ⟨m - 1, by omega⟩
      obtain rfl : k = J := by omega
      have e2 : gI u 0 0 2 = nI k := by rw [h1 0 (by decide) (by decide), C.1]
      refine ⟨pI (pI u 0 0 4 (nI k)) 0 0 2 0, ?_, fun t t1 t2 t3 => by rw [gI_ne t1, gI_ne t1, h1 t t2 t3], fun k' k1 k2 i => by rw [gI_nk (fun hh => k1 hh.2), gI_nk (fun hh => k2 hh.2), h1 0 (by decide) (by decide)], fun i hi => by rw [gI_ne (by decide), gI_ne (by decide)]; exact h2 i hi, by rw [gI_nk (by decide), gI_at], gI_at _ _ _ _ _, h3, h4, h5⟩
      rw [f0_readDays_L3, e2, if_pos (zn_rle _), zlt_s, zlt_s]
    | succ e ih =>
      intro k m u hk hm h1 h2 h3 h4 h5
      obtain ⟨m, rfl⟩ : ∃ r, m = r + 1 := ⟨m - 1, by omega⟩
      have hkJ : k < J := by omega
      have e2 : gI u 0 0 2 = nI J := by rw [h1 0 (by decide) (by decide), C.1]
      obtain ⟨d0, d1⟩ := dgt_b k
      have dg := pck_dig (sv := jsv σ) (lt := jlt σ q) J7 hy hkJ
      rw [← eM] at dg
      have N1 : NWN < 2 ^ 60 := by decide
      have h6 : M / dgt k ≤ M := Nat.div_le_self M _
      have yk := hy k hkJ
      obtain ⟨s', q1, q2⟩ := ih (k + 1) m (pR (pI u 103 0 k (zpl (enc q (y k)))) 101 0 k none) (by omega) (by omega) (fun t t1 t2 => by rw [← h1 t t1 t2, ← gI_ne (σ := u) t1 (t := 103) (i := 0) (k := k) (v := zpl (enc q (y k)))]; rfl) (fun i hi => by
        rw [gI_pR, gI_pI]
        by_cases c : i = k
        · rw [if_pos ⟨rfl, rfl, c⟩, c]
        · rw [if_neg (fun hh => c hh.2.2)]
          exact h2 i (by omega)) (fun t t1 => by rw [gR_ne t1]; exact h3 t t1) h4 h5
      refine ⟨s', ?_, q2⟩
      have ev : (if nI (y k) = 14 then (-4 : Int32) else nI q + nI (y k)) = zpl (enc q (y k)) := by
        unfold enc
        by_cases c : y k = 14
        · rw [if_pos (show nI (y k) = 14 by rw [c]; rfl), if_pos c]
          rfl
        · have := hq k hkJ (by omega)
          rw [if_neg (show ¬ nI (y k) = 14 from fun e => c ((nI_inj (show y k < 2 ^ 31 by omega) (show 14 < 2 ^ 31 by decide)).mp e)), if_neg c, nI_add' _ _ (by omega), zpl_pos (by rw [nI_ti (by omega)]; omega)]
      rw [f0_readDays_L3, e2, if_neg (zn_nle hkJ (by omega)), e_digit (show k ≤ 6 by omega), zc1_s, znl_s (by omega), zL_div (by omega) (by omega), show (15 : Int64) = zL 15 from rfl, zL_rem (by omega) (by omega), dg, zL_n (by omega), zlt_s, zix_s (show k < 7 by omega) (by decide), ev, zlt_s, zix_s (show k < 7 by omega) (by decide), zlt_s, nI_suc k (by omega), zlt_s, q1]
  exact key J 0 zfuel s (by omega) (zfuel_pos (by omega)) (fun t _ t2 => g.2 t t2) (fun i hi => absurd hi (Nat.not_lt_zero _)) (fun t _ => by rw [g.R]) g.1.2.2.2.1 g.1.2.2.2.2
theorem ishl_b : ∀ J : Nat, J < 8 → zop_ishl 1 (nI J) = nI (2 ^ J) := by decide +kernel
theorem e_settle {σ : zSt} {J q D : Nat} (C : JCL σ J) (hq : q + D ≤ 10000) (hD : 1 ≤ D ∧ D ≤ 14) :
    ∃ (s' : zSt) (y : Nat → Nat), f0_settle (nI q) (nI D) σ = some (nI (qW (jsv σ) (jlt σ q) y J), s') ∧ Fe σ J D q y ∧ (∀ z, Fe σ J D q z → pkk σ J q y ≤ pkk σ J q z) ∧ (∀ t, t ≠ 0 → t ≠ 103 → t ≠ 107 → gI s' t = gI σ t) ∧ (∀ k, k ≠ 2 → k ≠ 4 → ∀ i, gI s' 0 i k = gI σ 0 i k) ∧ (∀ i, i < J → gI s' 103 0 i = zpl (enc q (y i))) ∧ gI s' 0 0 4 = nI J ∧ gI s' 0 0 2 = 0 ∧ (∀ t, t ≠ 101 → gR s' t = gR σ t) ∧ gN s' = gN σ ∧ gZ s' = gZ σ := by
  have J7 := C.2.1
  have c9 : ∀ i, i < J → jsv σ i ≤ 9 := fun i hi => (C.2.2 i hi).2.2.2.2.2.2.2.2.1
  have N1 : NWN < 2 ^ 60 := by decide
  have fin : ∀ (s1 : zSt) (fL : Nat → Nat), CO s1 σ → (∀ A, A < 2 ^ J → gL s1 105 0 A = zL (fL A)) → INV J (jav σ q) (jtr σ) (jmn σ) (jsv σ) (jlt σ q) NWN D fL → ∃ (s' : zSt) (y : Nat → Nat), f0_settle_L90 (nI q) (nI (2 ^ J)) s1 (fun (a25 : Int64) => zc2 (f0_readDays a25 (nI q) s1) fun _ s27 => some (Int64.toInt32 (zop_ldiv a25 174960000000), s27)) zfuel 174960000000000 0 = some (nI (qW (jsv σ) (jlt σ q) y J), s') ∧ Fe σ J D q y ∧ (∀ z, Fe σ J D q z → pkk σ J q y ≤ pkk σ J q z) ∧ (∀ t, t ≠ 0 → t ≠ 103 → t ≠ 107 → gI s' t = gI σ t) ∧ (∀ k, k ≠ 2 → k ≠ 4 → ∀ i, gI s' 0 i k = gI σ 0 i k) ∧ (∀ i, i < J → gI s' 103 0 i = zpl (enc q (y i))) ∧ gI s' 0 0 4 = nI J ∧ gI s' 0 0 2 = 0 ∧ (∀ t, t ≠ 101 → gR s' t = gR σ t) ∧ gN s' = gN σ ∧ gZ s' = gZ σ := fun s1 fL g h5 hI => by
    obtain ⟨M, q1, q2, q3, q4⟩ := e_settle2 (q := q) C g (fun A hA => ⟨h5 A hA, (hI A hA).1⟩) (nI q) (fun (a25 : Int64) => zc2 (f0_readDays a25 (nI q) s1) fun _ s27 => some (Int64.toInt32 (zop_ldiv a25 174960000000), s27))
    obtain ⟨y, y1, y2, y3⟩ := plan_min (q := q) J7 hD.2 c9 hI q2 q3 q4
    obtain ⟨s', r1, r2⟩ := e_readDays (D := D) C g q2 (fun i hi => (y1 i hi).1) (fun i hi h14 => by
      have := ((y1 i hi).2 h14).1
      omega) y2
    refine ⟨s', y, ?_, y1, fun z hz => ?_, r2⟩
    · have w := qW_le (jsv σ) (jlt σ q) (x := y) (n := J) c9
      rw [q1, r1, zc2_s, show (174960000000 : Int64) = zL 174960000000 from rfl, zL_div (by omega) (by omega), y2, pck_W J7 (fun i hi => (y1 i hi).1), zL_n (by omega)]
    · have := y3 z hz
      rw [y2] at this
      exact this
  obtain ⟨s0, a1, a2, a3, a4⟩ := e_settle0 (s := σ) C CO.rf (nI q) (nI D) (fun (s12 : zSt) => f0_settle_L57 (nI q) (nI D) (nI (2 ^ J)) (fun (s19 : zSt) => f0_settle_L90 (nI q) (nI (2 ^ J)) s19 (fun (a25 : Int64) => zc2 (f0_readDays a25 (nI q) s19) fun _ s27 => some (Int64.toInt32 (zop_ldiv a25 174960000000), s27)) zfuel 174960000000000 0) zfuel 0 s12)
  obtain ⟨s1, fL, b1, b2, b3, b4⟩ := e_settle1 (q := q) C (by omega) hD.2 (fun (s19 : zSt) => f0_settle_L90 (nI q) (nI (2 ^ J)) s19 (fun (a25 : Int64) => zc2 (f0_readDays a25 (nI q) s19) fun _ s27 => some (Int64.toInt32 (zop_ldiv a25 174960000000), s27)) zfuel 174960000000000 0) D 0 zfuel s0 (fun A => if A = 0 then 0 else NWN) (by omega) (zfuel_pos (by omega)) a2 a3 a4 (INV_0 J _ _ _ _ _ NWN (fun A _ => rfl))
  obtain ⟨s', y, f1, f2⟩ := fin s1 fL b2 b3 b4
  refine ⟨s', y, ?_, f2⟩
  unfold f0_settle
  rw [C.1, ishl_b J (by omega), zlt_s]
  exact (a1.trans b1).trans f1
