section XP
variable {E : zEn} {cc : ByteArray} {μ : zMu} {q : Bool} {ρ : Type} {Qf : ρ → State → Prop} {kc ks : Nat} {σ : zSt} {als als' : List (Nat × zAV)} {pc : Nat} {ast : List zAV} {f f1 f2 : Option ρ}
theorem zcell_pI {t i k : Nat} {x : Int32} (Ω : zOm) (adr : zadr) (t' i' : Nat) (h : (t', i') ≠ (t, i)) : zcell Ω (pI σ t i k x) adr t' i' = zcell Ω σ adr t' i' :=
  zcell_congr (fun k' => by rw [gI_pI]; exact if_neg fun ⟨a, b, _⟩ => h (by rw [a, b])) (fun _ => rfl) (fun _ => rfl) rfl (fun _ _ _ _ _ => rfl)
theorem zcell_pL {t i k : Nat} {x : Int64} (Ω : zOm) (adr : zadr) (t' i' : Nat) (h : (t', i') ≠ (t, i)) : zcell Ω (pL σ t i k x) adr t' i' = zcell Ω σ adr t' i' :=
  zcell_congr (fun _ => rfl) (fun k' => by rw [gL_pL]; exact if_neg fun ⟨a, b, _⟩ => h (by rw [a, b])) (fun _ => rfl) rfl (fun _ _ _ _ _ => rfl)
theorem zcell_pR {t i k : Nat} {x : Option Nat} (Ω : zOm) (adr : zadr) (t' i' : Nat) (h : (t', i') ≠ (t, i)) : zcell Ω (pR σ t i k x) adr t' i' = zcell Ω σ adr t' i' :=
  zcell_congr (fun _ => rfl) (fun _ => rfl) (fun k' => by rw [gR_pR]; exact if_neg fun ⟨a, b, _⟩ => h (by rw [a, b])) rfl (fun _ _ _ _ _ => rfl)
theorem x_putIg {t i k idx : Nat} {C : String} {T : u_T} {N : Nat} {x : Int32} {ty : FieldType} {fin : Bool} (hF : zFd t k C T N none) (hPt : zPt T N k ty fin) (hlink : Cond.fieldLink μ.1 idx C (T k).2.1 (T k).2.2.1 ∈ tblG) (hdg : decode cc pc = .ok (.putfield idx, 3))
    (hfin : fin = false ∨ (μ.2.2.2.2 = true ∧ C = μ.1)) (hnf : narrow ty (.int x) = .int x ∧ fits ty (.int x) = true) (kk : X E cc μ q Qf kc ks (pI σ t i k x) als (pc + 3) ast f) : X E cc μ q Qf kc ks σ als pc (aI x :: aR t (some i) :: ast) f :=
  x_putv (σ1 := pI σ t i k x) hF hPt hlink hdg hfin (fun _ => hnf) (fun _ => rfl) (fun adr => by unfold zfv; rw [hF.2.2.2.2.1]; show Value.int (gI (pI σ t i k x) t i k) = _; rw [gI_pI, if_pos ⟨rfl, rfl, rfl⟩]; rfl)
    (fun adr j hj => by unfold zfv; cases zfk t j with
      | none => show Value.int (gI (pI σ t i k x) t i j) = _; rw [gI_pI, if_neg fun h => hj h.2.2]
      | some g => rfl) zcell_pI (fun _ _ hV => hV) (fun _ h => h) kk
theorem x_putI {t i k idx : Nat} {C : String} {T : u_T} {N : Nat} {x : Int32} {fin : Bool} (hF : zFd t k C T N none) (hPt : zPt T N k .int fin) (hlink : Cond.fieldLink μ.1 idx C (T k).2.1 (T k).2.2.1 ∈ tblG) (hdg : decode cc pc = .ok (.putfield idx, 3))
    (hfin : fin = false ∨ (μ.2.2.2.2 = true ∧ C = μ.1)) (kk : X E cc μ q Qf kc ks (pI σ t i k x) als (pc + 3) ast f) : X E cc μ q Qf kc ks σ als pc (aI x :: aR t (some i) :: ast) f :=
  x_putIg hF hPt hlink hdg hfin ⟨rfl, rfl⟩ kk
theorem x_putZ {t i k idx : Nat} {C : String} {T : u_T} {N : Nat} {x : Int32} {fin : Bool} (hF : zFd t k C T N none) (hPt : zPt T N k .boolean fin) (hlink : Cond.fieldLink μ.1 idx C (T k).2.1 (T k).2.2.1 ∈ tblG) (hdg : decode cc pc = .ok (.putfield idx, 3))
    (hfin : fin = false ∨ (μ.2.2.2.2 = true ∧ C = μ.1)) (kk : X E cc μ q Qf kc ks (pI σ t i k x) als (pc + 3) ast f) : X E cc μ q Qf kc ks σ als pc (aI x :: aR t (some i) :: ast) (zbo x f) := by
  intro r hf
  unfold zbo at hf
  by_cases h : x = 0 ∨ x = 1
  · rw [if_pos h] at hf
    refine x_putIg hF hPt hlink hdg hfin ?_ kk r hf
    rcases h with rfl | rfl <;> exact ⟨by decide +kernel, by decide +kernel⟩
  · rw [if_neg h] at hf; cases hf
/-- a reference into a field: not one of the fixed ones in the quiet mode -/
theorem x_putR {t i k idx g : Nat} {o : Option Nat} {C : String} {T : u_T} {N : Nat} {ty : FieldType} {fin : Bool} (hF : zFd t k C T N (some g)) (hPt : zPt T N k ty fin) (hty : (∃ n, ty = .object n) ∨ ∃ u, ty = .array u) (hlink : Cond.fieldLink μ.1 idx C (T k).2.1 (T k).2.2.1 ∈ tblG) (hdg : decode cc pc = .ok (.putfield idx, 3))
    (hfin : fin = false ∨ (μ.2.2.2.2 = true ∧ C = μ.1)) (hq : q = false ∨ ∀ i, zfin t k i = none) (kk : X E cc μ q Qf kc ks (pR σ t i k o) als (pc + 3) ast f) : X E cc μ q Qf kc ks σ als pc (aR g o :: aR t (some i) :: ast) f := by
  refine x_putv (σ1 := pR σ t i k o) hF hPt hlink hdg hfin (fun adr => ?_) (fun _ => rfl) (fun adr => by unfold zfv; rw [hF.2.2.2.2.1]; show va_rf ((gR (pR σ t i k o) t i k).map (adr g)) = _; rw [gR_pR, if_pos ⟨rfl, rfl, rfl⟩]; rfl)
    (fun adr j hj => by unfold zfv; cases zfk t j with
      | none => rfl
      | some g => show va_rf ((gR (pR σ t i k o) t i j).map (adr g)) = _; rw [gR_pR, if_neg fun h => hj h.2.2]) zcell_pR (fun h15 hv hV => ?_) (fun hqt hOK => ?_) kk
  · rcases hty with ⟨n, rfl⟩ | ⟨u, rfl⟩ <;> cases o <;> exact ⟨rfl, rfl⟩
  · intro t' i' k' g' j hi hg hR
    rw [gR_pR] at hR
    by_cases h : t' = t ∧ i' = i ∧ k' = k
    · rw [if_pos h] at hR
      subst hR
      obtain ⟨rfl, rfl, rfl⟩ := h
      have hg2 : ztg t' k' = some g := by unfold ztg; rw [if_pos (by have := hF.2.2.2.1; omega)]; exact hF.2.2.2.2.1
      obtain rfl := Option.some.inj (hg.symm.trans hg2)
      have hv : j < gM σ g' := hv
      show j < gN σ g'
      unfold gM at hv
      by_cases h9 : g' = 15
      · exfalso
        subst h9
        have h8 := hF.2.2.2.1
        have h7 := hF.2.2.2.2.1
        have h6 := hF.2.2.1
        have key : ∀ t, t < 15 → ∀ k, k < zfn t → zfk t k ≠ some 15 := by decide +kernel
        exact key t' h8 k' h6 h7
      · rw [if_neg h9] at hv; exact hv
    · rw [if_neg h] at hR
      exact hV t' i' k' g' j hi hg hR
  · rcases hq with hq | hq
    · rw [hq] at hqt; cases hqt
    · intro t' i' k' j hi hfi
      rw [gR_pR]
      by_cases h : t' = t ∧ i' = i ∧ k' = k
      · obtain ⟨rfl, rfl, rfl⟩ := h
        rw [hq] at hfi; cases hfi
      · rw [if_neg h]
        exact hOK t' i' k' j hi hfi
/-! arrays -/
theorem zcell_I {Ω : zOm} {adr : zadr} {t i : Nat} (ht : ¬ t < 16) (h : zak t < 2) : zcell Ω σ adr t i = .inl (oC Ω (zak t), zlen σ t i, .inl (gI σ t i)) := by
  unfold zcell; rw [if_neg ht, if_pos h]
theorem zcell_L {Ω : zOm} {adr : zadr} {t i : Nat} (ht : ¬ t < 16) (h : zak t = 2) : zcell Ω σ adr t i = .inl (oC Ω (zak t), zlen σ t i, .inr (.inl (gL σ t i))) := by
  unfold zcell; rw [if_neg ht, if_neg (by omega), if_pos h]
theorem zcell_R {Ω : zOm} {adr : zadr} {t i : Nat} (ht : ¬ t < 16) (h : 3 ≤ zak t) : zcell Ω σ adr t i = .inl (oC Ω (zak t), zlen σ t i, .inr (.inr (.inr (.inr (fun j => (gR σ t i j).map (adr (zatg t))))))) := by
  unfold zcell; rw [if_neg ht, if_neg (by omega), if_neg (by omega)]
/-- the array of a tag: what it holds and its length -/
def zAr (t kd n : Nat) : Prop := ¬ t < 16 ∧ zak t = kd ∧ zal t = n ∧ t ≠ 1100
theorem zlen_f {t i n kd : Nat} (h : zAr t kd n) : zlen σ t i = n := by
  unfold zlen; rw [if_neg h.2.2.2]; exact h.2.2.1
theorem x_ildg {t i n : Nat} {j : Int32} {g : Nat → Option ρ} (hz : zlen σ t i = n) (ht : ¬ t < 16) (hk : zak t = 0) (hdg : decode cc pc = .ok (.iaload, 1)) (kk : ∀ m, X E cc μ q Qf kc ks σ als (pc + 1) (aI (gI σ t i m) :: ast) (g m)) : X E cc μ q Qf kc ks σ als pc (aI j :: aR t (some i) :: ast) (zix j n g) := by
  intro r hf hA hq adr H locs ls hR hE hS hl hs hls
  unfold zix at hf
  by_cases hin : j < 0 ∨ n ≤ j.toNatClampNeg
  · rw [if_pos hin] at hf; cases hf
  rw [if_neg hin] at hf
  have hR' := hR
  obtain ⟨G, hn, hG, hP, hD, hV, hB, h15, hK5⟩ := hR'
  have hi : i < gN σ t := gN_of (by omega) hs.tl.hd
  obtain ⟨k0, -, hk0⟩ := zws_get (Ω := E.2.1) (σ := σ) (adr := adr) ((hG t i).mpr hi)
  rw [zcell_I ht (by omega), hz] at hk0
  have kk := kk _ r hf hA hq adr H locs ls hR hE hS hl (zvs.cons trivial hs.tl.tl) hls
  obtain ⟨⟨p, l, e, R, s, m, args, below, meth, c⟩, E2⟩ := E
  exact va_iald hA.1 hA.2.1 hA.2.2.2.2.2.2.2.2.2.1 hP k0 (zak t) hk0 (by rw [ztys_at _ (by omega), hk]; rfl) hin hdg kk
theorem x_iald {t i n : Nat} {j : Int32} {g : Nat → Option ρ} (ha : zAr t 0 n) (hdg : decode cc pc = .ok (.iaload, 1)) (kk : ∀ m, X E cc μ q Qf kc ks σ als (pc + 1) (aI (gI σ t i m) :: ast) (g m)) : X E cc μ q Qf kc ks σ als pc (aI j :: aR t (some i) :: ast) (zix j n g) := x_ildg (zlen_f ha) ha.1 ha.2.1 hdg kk
theorem x_ialdV {i : Nat} {j : Int32} {g : Nat → Option ρ} (hdg : decode cc pc = .ok (.iaload, 1)) (kk : ∀ m, X E cc μ q Qf kc ks σ als (pc + 1) (aI (gI σ 1100 i m) :: ast) (g m)) : X E cc μ q Qf kc ks σ als pc (aI j :: aR 1100 (some i) :: ast) (zix j (gZ σ 1100 i) g) := x_ildg (by unfold zlen; rw [if_pos rfl]) (by decide) (by decide +kernel) hdg kk
theorem x_zald {t i n : Nat} {j : Int32} {g : Nat → Option ρ} (ha : zAr t 1 n) (hdg : decode cc pc = .ok (.baload, 1)) (kk : ∀ m, X E cc μ q Qf kc ks σ als (pc + 1) (aI (gI σ t i m) :: ast) (g m)) : X E cc μ q Qf kc ks σ als pc (aI j :: aR t (some i) :: ast) (zix j n g) := by
  intro r hf hA hq adr H locs ls hR hE hS hl hs hls
  unfold zix at hf
  by_cases hin : j < 0 ∨ n ≤ j.toNatClampNeg
  · rw [if_pos hin] at hf; cases hf
  rw [if_neg hin] at hf
  have hR' := hR
  obtain ⟨G, hn, hG, hP, hD, hV, hB, h15, hK5⟩ := hR'
  have ht := ha.1
  have hk := ha.2.1
  have hi : i < gN σ t := gN_of (by omega) hs.tl.hd
  obtain ⟨k0, -, hk0⟩ := zws_get (Ω := E.2.1) (σ := σ) (adr := adr) ((hG t i).mpr hi)
  rw [zcell_I ht (by omega), zlen_f ha] at hk0
  have kk := kk _ r hf hA hq adr H locs ls hR hE hS hl (zvs.cons trivial hs.tl.tl) hls
  obtain ⟨⟨p, l, e, R, s, m, args, below, meth, c⟩, E2⟩ := E
  exact va_zald hA.1 hA.2.1 hA.2.2.2.2.2.2.2.2.2.1 hP k0 (zak t) hk0 (by rw [ztys_at _ (by omega), hk]; rfl) hin hdg kk
theorem x_lald {t i n : Nat} {j : Int32} {g : Nat → Option ρ} (ha : zAr t 2 n) (hdg : decode cc pc = .ok (.laload, 1)) (kk : ∀ m, X E cc μ q Qf kc ks σ als (pc + 1) (aL (gL σ t i m) :: ast) (g m)) : X E cc μ q Qf kc ks σ als pc (aI j :: aR t (some i) :: ast) (zix j n g) := by
  intro r hf hA hq adr H locs ls hR hE hS hl hs hls
  unfold zix at hf
  by_cases hin : j < 0 ∨ n ≤ j.toNatClampNeg
  · rw [if_pos hin] at hf; cases hf
  rw [if_neg hin] at hf
  have hR' := hR
  obtain ⟨G, hn, hG, hP, hD, hV, hB, h15, hK5⟩ := hR'
  have ht := ha.1
  have hk := ha.2.1
  have hi : i < gN σ t := gN_of (by omega) hs.tl.hd
  obtain ⟨k0, -, hk0⟩ := zws_get (Ω := E.2.1) (σ := σ) (adr := adr) ((hG t i).mpr hi)
  rw [zcell_L ht hk, zlen_f ha] at hk0
  have kk := kk _ r hf hA hq adr H locs ls hR hE hS hl (zvs.cons trivial hs.tl.tl) hls
  obtain ⟨⟨p, l, e, R, s, m, args, below, meth, c⟩, E2⟩ := E
  exact va_lald hA.1 hA.2.1 hA.2.2.2.2.2.2.2.2.2.1 hP k0 (zak t) hk0 (by rw [ztys_at _ (by omega), hk]; rfl) hin hdg kk
theorem x_aald {t i n kd g0 : Nat} {j : Int32} {g : Nat → Option ρ} (ha : zAr t kd n) (hkd : 3 ≤ kd ∧ kd < 7) (hg : zatg t = g0) (hdg : decode cc pc = .ok (.aaload, 1)) (kk : ∀ m, X E cc μ q Qf kc ks σ als (pc + 1) (aR g0 (gR σ t i m) :: ast) (g m)) : X E cc μ q Qf kc ks σ als pc (aI j :: aR t (some i) :: ast) (zix j n g) := by
  intro r hf hA hq adr H locs ls hR hE hS hl hs hls
  unfold zix at hf
  by_cases hin : j < 0 ∨ n ≤ j.toNatClampNeg
  · rw [if_pos hin] at hf; cases hf
  rw [if_neg hin] at hf
  have hR' := hR
  obtain ⟨G, hn, hG, hP, hD, hV, hB, h15, hK5⟩ := hR'
  have ht := ha.1
  have hk := ha.2.1
  have hi : i < gN σ t := gN_of (by omega) hs.tl.hd
  obtain ⟨k0, -, hk0⟩ := zws_get (Ω := E.2.1) (σ := σ) (adr := adr) ((hG t i).mpr hi)
  rw [zcell_R ht (by omega), zlen_f ha] at hk0
  have hv : zv1 σ (aR g0 (gR σ t i j.toNatClampNeg)) := by
    cases h : gR σ t i j.toNatClampNeg with
    | none => exact trivial
    | some y => exact gM_of h15 (hV t i _ g0 y hi (by unfold ztg; rw [if_neg ht, if_neg (by omega), hg]) h)
  have kk := kk _ r hf hA hq adr H locs ls hR hE hS hl (zvs.cons hv hs.tl.tl) hls
  subst hg
  obtain ⟨⟨p, l, e, R, s, m, args, below, meth, c⟩, E2⟩ := E
  have hC : ∃ C, zety (zak t) = .object C := by
    rw [hk]
    obtain ⟨h3, h7⟩ := hkd
    rcases (by omega : kd = 3 ∨ kd = 4 ∨ kd = 5 ∨ kd = 6) with rfl | rfl | rfl | rfl <;> exact ⟨_, rfl⟩
  obtain ⟨C, hC⟩ := hC
  exact va_aldq (C := C) hA.1 hA.2.1 hA.2.2.2.2.2.2.2.2.2.1 hP k0 (zak t) hk0 (by rw [ztys_at _ (by omega), hC]) hin hdg kk
theorem x_alen {t i n kd : Nat} (ha : zAr t kd n) (hkd : kd < 7) (hdg : decode cc pc = .ok (.arraylength, 1)) (kk : X E cc μ q Qf kc ks σ als (pc + 1) (aI (nI n) :: ast) f) : X E cc μ q Qf kc ks σ als pc (aR t (some i) :: ast) f := by
  intro r hf hA hq adr H locs ls hR hE hS hl hs hls
  have hR' := hR
  obtain ⟨G, hn, hG, hP, hD, hV, hB, h15, hK5⟩ := hR'
  have ht := ha.1
  have hk := ha.2.1
  have hi : i < gN σ t := gN_of (by omega) hs.hd
  obtain ⟨k0, -, hk0⟩ := zws_get (Ω := E.2.1) (σ := σ) (adr := adr) ((hG t i).mpr hi)
  unfold zcell at hk0
  rw [if_neg ht, zlen_f ha] at hk0
  have kk := kk r hf hA hq adr H locs ls hR hE hS hl (zvs.cons trivial hs.tl) hls
  obtain ⟨⟨p, l, e, R, s, m, args, below, meth, c⟩, E2⟩ := E
  exact va_alen hA.1 hA.2.1 hA.2.2.2.2.2.2.2.2.2.1 hP k0 (zak t) hk0 (ztys_at _ (by omega)) rfl hdg kk
theorem x_alenV {i : Nat} (hdg : decode cc pc = .ok (.arraylength, 1)) (kk : X E cc μ q Qf kc ks σ als (pc + 1) (aI (nI (gZ σ 1100 i)) :: ast) f) : X E cc μ q Qf kc ks σ als pc (aR 1100 (some i) :: ast) f := by
  intro r hf hA hq adr H locs ls hR hE hS hl hs hls
  have hR' := hR
  obtain ⟨G, hn, hG, hP, hD, hV, hB, h15, hK5⟩ := hR'
  have hi : i < gN σ 1100 := gN_of (by omega) hs.hd
  obtain ⟨k0, -, hk0⟩ := zws_get (Ω := E.2.1) (σ := σ) (adr := adr) ((hG 1100 i).mpr hi)
  unfold zcell at hk0
  rw [if_neg (by decide), show zlen σ 1100 i = gZ σ 1100 i from by unfold zlen; rw [if_pos rfl]] at hk0
  have kk := kk r hf hA hq adr H locs ls hR hE hS hl (zvs.cons trivial hs.tl) hls
  obtain ⟨⟨p, l, e, R, s, m, args, below, meth, c⟩, E2⟩ := E
  exact va_alen hA.1 hA.2.1 hA.2.2.2.2.2.2.2.2.2.1 hP k0 0 hk0 (ztys_at _ (by omega)) rfl hdg kk
end XP
