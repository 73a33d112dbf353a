section XS3
variable {E : zEn} {cc : ByteArray} {μ : zMu} {q : Bool} {ρ : Type} {Qf : ρ → State → Prop} {kc ks : Nat} {σ : zSt} {als als' : List (Nat × zAV)} {pc : Nat} {ast : List zAV} {f f1 f2 : Option ρ}
theorem zupd_I {t i m : Nat} {x : Int32} : upd (gI σ t i) m x = gI (pI σ t i m x) t i := by
  funext k
  rw [gI_pI]
  unfold upd
  by_cases h : k = m
  · rw [if_pos h, if_pos ⟨rfl, rfl, h⟩]
  · rw [if_neg h, if_neg fun z => h z.2.2]
theorem x_istg {t i n : Nat} {j x : Int32} {g : Nat → Option ρ} (hz : zlen σ t i = n) (ht : ¬ t < 16) (hk : zak t = 0) (hdg : decode cc pc = .ok (.iastore, 1)) (kk : ∀ m, X E cc μ q Qf kc ks (pI σ t i m x) als (pc + 1) ast (g m)) : X E cc μ q Qf kc ks σ als pc (aI x :: aI j :: aR t (some i) :: ast) (zix j n g) := by
  intro r hf hA hq adr H locs ls hR hE hS hl hs hls
  unfold zix at hf
  by_cases hin : j < 0 ∨ n ≤ j.toNatClampNeg
  · rw [if_pos hin] at hf; cases hf
  rw [if_neg hin] at hf
  obtain ⟨G, hn, hG, hP, hD, hV, hB, h15, hK5⟩ := hR
  have hi : i < gN σ t := gN_of (by omega) hs.tl.tl.hd
  obtain ⟨k0, hk0', hk0⟩ := zws_get (Ω := E.2.1) (σ := σ) (adr := adr) ((hG t i).mpr hi)
  have hce : zcell E.2.1 σ adr t i = .inl (oC E.2.1 (zak t), n, .inl (gI σ t i)) := by rw [zcell_I ht (by omega), hz]
  have hce' : zcell E.2.1 (pI σ t i j.toNatClampNeg x) adr t i = .inl (oC E.2.1 (zak t), n, .inl (upd (gI σ t i) j.toNatClampNeg x)) := by rw [zcell_I ht (by omega), zupd_I, ← hz]; rfl
  rw [hce] at hk0
  have kk := fun H locs hR hS => kk j.toNatClampNeg r hf hA hq adr H locs ls hR (zExt_N (fun _ => rfl) hE) hS hl hs.tl.tl.tl hls
  have hrep : ∀ H1, va_P (oD E.2.1) zcl ((zws E.2.1 σ adr G).set k0 (adr t i, .inl (oC E.2.1 (zak t), n, .inl (upd (gI σ t i) j.toNatClampNeg x)))) H1 → va_D (zA (oB E.2.1)) ((zws E.2.1 σ adr G).set k0 (adr t i, .inl (oC E.2.1 (zak t), n, .inl (upd (gI σ t i) j.toNatClampNeg x)))) → oB E.2.1 ≤ H1.size → zRep E.2.1 (pI σ t i j.toNatClampNeg x) adr H1 := fun H1 a b hB1 =>
    zRep_set hn hG hk0' (fun _ => rfl) hce'.symm (zcell_pI _ _) a b hV hB1 h15 hK5
  obtain ⟨⟨p, l, e, R, s, m, args, below, meth, c⟩, E2⟩ := E
  have hb := hA.2.2.2.2.2.2.2.2.2.2.1
  exact va_iast hA.1 hA.2.1 hA.2.2.2.2.2.2.2.2.2.1 hP hD hS k0 (zak t) hk0 (by rw [ztys_at _ (by omega), hk]; rfl) hin hdg (fun H1 locs1 a b c' => kk H1 locs1 (hrep H1 a b (Nat.le_trans hb c'.1)) c')
theorem x_iast {t i n : Nat} {j x : Int32} {g : Nat → Option ρ} (ha : zAr t 0 n) (hdg : decode cc pc = .ok (.iastore, 1)) (kk : ∀ m, X E cc μ q Qf kc ks (pI σ t i m x) als (pc + 1) ast (g m)) : X E cc μ q Qf kc ks σ als pc (aI x :: aI j :: aR t (some i) :: ast) (zix j n g) := x_istg (zlen_f ha) ha.1 ha.2.1 hdg kk
theorem x_zast {t i n : Nat} {j x : Int32} {g : Nat → Option ρ} (ha : zAr t 1 n) (hdg : decode cc pc = .ok (.bastore, 1)) (kk : ∀ m, X E cc μ q Qf kc ks (pI σ t i m (vp_nar .boolean x)) als (pc + 1) ast (g m)) : X E cc μ q Qf kc ks σ als pc (aI x :: aI j :: aR t (some i) :: ast) (zix j n g) := by
  intro r hf hA hq adr H locs ls hR hE hS hl hs hls
  unfold zix at hf
  by_cases hin : j < 0 ∨ n ≤ j.toNatClampNeg
  · rw [if_pos hin] at hf; cases hf
  rw [if_neg hin] at hf
  obtain ⟨G, hn, hG, hP, hD, hV, hB, h15, hK5⟩ := hR
  have hz : zlen σ t i = n := zlen_f ha
  have ht := ha.1
  have hk := ha.2.1
  have hi : i < gN σ t := gN_of (by omega) hs.tl.tl.hd
  obtain ⟨k0, hk0', hk0⟩ := zws_get (Ω := E.2.1) (σ := σ) (adr := adr) ((hG t i).mpr hi)
  have hce : zcell E.2.1 σ adr t i = .inl (oC E.2.1 (zak t), n, .inl (gI σ t i)) := by rw [zcell_I ht (by omega), hz]
  have hce' : zcell E.2.1 (pI σ t i j.toNatClampNeg (vp_nar .boolean x)) adr t i = .inl (oC E.2.1 (zak t), n, .inl (upd (gI σ t i) j.toNatClampNeg (vp_nar .boolean x))) := by rw [zcell_I ht (by omega), zupd_I, ← hz]; rfl
  rw [hce] at hk0
  have kk := fun H locs hR hS => kk j.toNatClampNeg r hf hA hq adr H locs ls hR (zExt_N (fun _ => rfl) hE) hS hl hs.tl.tl.tl hls
  have hrep : ∀ H1, va_P (oD E.2.1) zcl ((zws E.2.1 σ adr G).set k0 (adr t i, .inl (oC E.2.1 (zak t), n, .inl (upd (gI σ t i) j.toNatClampNeg (vp_nar .boolean x))))) H1 → va_D (zA (oB E.2.1)) ((zws E.2.1 σ adr G).set k0 (adr t i, .inl (oC E.2.1 (zak t), n, .inl (upd (gI σ t i) j.toNatClampNeg (vp_nar .boolean x))))) → oB E.2.1 ≤ H1.size → zRep E.2.1 (pI σ t i j.toNatClampNeg (vp_nar .boolean x)) adr H1 := fun H1 a b hB1 =>
    zRep_set hn hG hk0' (fun _ => rfl) hce'.symm (zcell_pI _ _) a b hV hB1 h15 hK5
  obtain ⟨⟨p, l, e, R, s, m, args, below, meth, c⟩, E2⟩ := E
  have hb := hA.2.2.2.2.2.2.2.2.2.2.1
  exact va_zast hA.1 hA.2.1 hA.2.2.2.2.2.2.2.2.2.1 hP hD hS k0 (zak t) hk0 (by rw [ztys_at _ (by omega), hk]; rfl) hin hdg (fun H1 locs1 a b c' => kk H1 locs1 (hrep H1 a b (Nat.le_trans hb c'.1)) c')
theorem zupd_L {t i m : Nat} {x : Int64} : vp_updL (gL σ t i) m x = gL (pL σ t i m x) t i := by
  funext k
  rw [gL_pL]
  unfold vp_updL
  by_cases h : k = m
  · rw [if_pos h, if_pos ⟨rfl, rfl, h⟩]
  · rw [if_neg h, if_neg fun z => h z.2.2]
theorem x_last {t i n : Nat} {j : Int32} {x : Int64} {g : Nat → Option ρ} (ha : zAr t 2 n) (hdg : decode cc pc = .ok (.lastore, 1)) (kk : ∀ m, X E cc μ q Qf kc ks (pL σ t i m x) als (pc + 1) ast (g m)) : X E cc μ q Qf kc ks σ als pc (aL x :: aI j :: aR t (some i) :: ast) (zix j n g) := by
  intro r hf hA hq adr H locs ls hR hE hS hl hs hls
  unfold zix at hf
  by_cases hin : j < 0 ∨ n ≤ j.toNatClampNeg
  · rw [if_pos hin] at hf; cases hf
  rw [if_neg hin] at hf
  obtain ⟨G, hn, hG, hP, hD, hV, hB, h15, hK5⟩ := hR
  have hz : zlen σ t i = n := zlen_f ha
  have ht := ha.1
  have hk := ha.2.1
  have hi : i < gN σ t := gN_of (by omega) hs.tl.tl.hd
  obtain ⟨k0, hk0', hk0⟩ := zws_get (Ω := E.2.1) (σ := σ) (adr := adr) ((hG t i).mpr hi)
  have hce : zcell E.2.1 σ adr t i = .inl (oC E.2.1 (zak t), n, .inr (.inl (gL σ t i))) := by rw [zcell_L ht hk, hz]
  have hce' : zcell E.2.1 (pL σ t i j.toNatClampNeg x) adr t i = .inl (oC E.2.1 (zak t), n, .inr (.inl (vp_updL (gL σ t i) j.toNatClampNeg x))) := by rw [zcell_L ht hk, zupd_L, ← hz]; rfl
  rw [hce] at hk0
  have kk := fun H locs hR hS => kk j.toNatClampNeg r hf hA hq adr H locs ls hR (zExt_N (fun _ => rfl) hE) hS hl hs.tl.tl.tl hls
  have hrep : ∀ H1, va_P (oD E.2.1) zcl ((zws E.2.1 σ adr G).set k0 (adr t i, .inl (oC E.2.1 (zak t), n, .inr (.inl (vp_updL (gL σ t i) j.toNatClampNeg x))))) H1 → va_D (zA (oB E.2.1)) ((zws E.2.1 σ adr G).set k0 (adr t i, .inl (oC E.2.1 (zak t), n, .inr (.inl (vp_updL (gL σ t i) j.toNatClampNeg x))))) → oB E.2.1 ≤ H1.size → zRep E.2.1 (pL σ t i j.toNatClampNeg x) adr H1 := fun H1 a b hB1 =>
    zRep_set hn hG hk0' (fun _ => rfl) hce'.symm (zcell_pL _ _) a b hV hB1 h15 hK5
  obtain ⟨⟨p, l, e, R, s, m, args, below, meth, c⟩, E2⟩ := E
  have hb := hA.2.2.2.2.2.2.2.2.2.2.1
  exact va_last hA.1 hA.2.1 hA.2.2.2.2.2.2.2.2.2.1 hP hD hS k0 (zak t) hk0 (by rw [ztys_at _ (by omega), hk]; rfl) hin hdg (fun H1 locs1 a b c' => kk H1 locs1 (hrep H1 a b (Nat.le_trans hb c'.1)) c')
theorem zupd_R {adr : zadr} {t i m : Nat} {x : Option Nat} : va_up (fun j => (gR σ t i j).map (adr (zatg t))) m (x.map (adr (zatg t))) = fun j => (gR (pR σ t i m x) t i j).map (adr (zatg t)) := by
  funext k
  rw [gR_pR]
  unfold va_up
  by_cases h : k = m
  · rw [if_pos h, if_pos ⟨rfl, rfl, h⟩]
  · rw [if_neg h, if_neg fun z => h z.2.2]
theorem zcl_obj {t : Nat} (h : 3 ≤ zak t) (h7 : zak t < 7) : ∃ C T N, zcl[zatg t]? = some (C, T, N) ∧ zety (zak t) = .object C ∧ zatg t < 15 := by
  unfold zatg
  rcases (by omega : zak t = 3 ∨ zak t = 4 ∨ zak t = 5 ∨ zak t = 6) with h | h | h | h <;> rw [h] <;> exact ⟨_, _, _, rfl, rfl, by decide⟩
theorem x_aast {t i n kd : Nat} {o : Option Nat} {j : Int32} {g : Nat → Option ρ} (g0 : Nat) (ha : zAr t kd n) (hkd : 3 ≤ kd ∧ kd < 7) (hg : zatg t = g0) (hdg : decode cc pc = .ok (.aastore, 1)) (kk : ∀ m, X E cc μ q Qf kc ks (pR σ t i m o) als (pc + 1) ast (g m)) : X E cc μ q Qf kc ks σ als pc (aR g0 o :: aI j :: aR t (some i) :: ast) (zix j n g) := by
  intro r hf hA hq adr H locs ls hR hE hS hl hs hls
  unfold zix at hf
  by_cases hin : j < 0 ∨ n ≤ j.toNatClampNeg
  · rw [if_pos hin] at hf; cases hf
  rw [if_neg hin] at hf
  obtain ⟨G, hn, hG, hP, hD, hV, hB, h15, hK5⟩ := hR
  have hz : zlen σ t i = n := zlen_f ha
  have ht := ha.1
  have hk := ha.2.1
  subst hg
  obtain ⟨C, T, N, hcl, hty, h15'⟩ := zcl_obj (t := t) (by omega) (by omega)
  have hi : i < gN σ t := gN_of (by omega) hs.tl.tl.hd
  obtain ⟨k0, hk0', hk0⟩ := zws_get (Ω := E.2.1) (σ := σ) (adr := adr) ((hG t i).mpr hi)
  have hce : zcell E.2.1 σ adr t i = .inl (oC E.2.1 (zak t), n, .inr (.inr (.inr (.inr (fun j => (gR σ t i j).map (adr (zatg t))))))) := by rw [zcell_R ht (by omega), hz]
  have hce' : zcell E.2.1 (pR σ t i j.toNatClampNeg o) adr t i = .inl (oC E.2.1 (zak t), n, .inr (.inr (.inr (.inr (va_up (fun j => (gR σ t i j).map (adr (zatg t))) j.toNatClampNeg (o.map (adr (zatg t)))))))) := by rw [zcell_R ht (by omega), zupd_R, ← hz]; rfl
  rw [hce] at hk0
  have kk := fun H locs hR hS => kk j.toNatClampNeg r hf hA (fun hqt => by
      intro t' i' k' j' hi' hfi
      rw [gR_pR, if_neg]
      · exact hq hqt t' i' k' j' hi' hfi
      · intro h
        have hlt : t' < 15 := by
          unfold zfin at hfi
          split at hfi <;> first | omega | cases hfi
        omega) adr H locs ls hR (zExt_N (fun _ => rfl) hE) hS hl hs.tl.tl.tl hls
  have hV1 : zVal (pR σ t i j.toNatClampNeg o) := by
    intro t' i' k' g' y hi' hg hR'
    rw [gR_pR] at hR'
    by_cases h : t' = t ∧ i' = i ∧ k' = j.toNatClampNeg
    · rw [if_pos h] at hR'
      subst hR'
      obtain ⟨rfl, rfl, rfl⟩ := h
      have hg2 : ztg t' j.toNatClampNeg = some (zatg t') := by unfold ztg; rw [if_neg ht, if_neg (by omega)]
      obtain rfl := Option.some.inj (hg.symm.trans hg2)
      have hv : y < gM σ (zatg t') := hs.hd
      exact gN_of (by omega) hv
    · rw [if_neg h] at hR'
      exact hV t' i' k' g' y hi' hg hR'
  have hrep : ∀ H1, va_P (oD E.2.1) zcl ((zws E.2.1 σ adr G).set k0 (adr t i, .inl (oC E.2.1 (zak t), n, .inr (.inr (.inr (.inr (va_up (fun j => (gR σ t i j).map (adr (zatg t))) j.toNatClampNeg (o.map (adr (zatg t)))))))))) H1 → va_D (zA (oB E.2.1)) ((zws E.2.1 σ adr G).set k0 (adr t i, .inl (oC E.2.1 (zak t), n, .inr (.inr (.inr (.inr (va_up (fun j => (gR σ t i j).map (adr (zatg t))) j.toNatClampNeg (o.map (adr (zatg t)))))))))) → oB E.2.1 ≤ H1.size → zRep E.2.1 (pR σ t i j.toNatClampNeg o) adr H1 := fun H1 a b hB1 =>
    zRep_set hn hG hk0' (fun _ => rfl) hce'.symm (zcell_pR _ _) a b hV1 hB1 h15 hK5
  have htys : ztg t 0 = some (zatg t) := by unfold ztg; rw [if_neg ht, if_neg (by omega)]
  cases o with
  | none =>
    obtain ⟨⟨p, l, e, R, s, m, args, below, meth, c⟩, E2⟩ := E
    have hb := hA.2.2.2.2.2.2.2.2.2.2.1
    exact va_astqN (C := C) hA.1 hA.2.1 hA.2.2.2.2.2.2.2.2.2.1 hP hD hS k0 (zak t) hk0 (by rw [ztys_at _ (by omega), hty]) hin hdg (fun H1 locs1 a b c' => kk H1 locs1 (hrep H1 a b (Nat.le_trans hb c'.1)) c')
  | some y =>
    have hy : y < gN σ (zatg t) := gN_of (by omega) hs.hd
    obtain ⟨k1, -, hk1⟩ := zws_get (Ω := E.2.1) (σ := σ) (adr := adr) ((hG (zatg t) y).mpr hy)
    rw [zcell_obj (by omega)] at hk1
    obtain ⟨⟨p, l, e, R, s, m, args, below, meth, c⟩, E2⟩ := E
    have hb := hA.2.2.2.2.2.2.2.2.2.2.1
    exact va_astq (r := (C, T, N)) hA.1 hA.2.1 hA.2.2.2.2.2.2.2.2.2.1 hP hD hS k0 (zak t) k1 (zatg t) hk0 (by rw [ztys_at _ (by omega), hty]) hk1 hcl hin hdg (fun H1 locs1 a b c' => kk H1 locs1 (hrep H1 a b (Nat.le_trans hb c'.1)) c')
/-! making -/
def zadr1 (adr : zadr) (σ : zSt) (t a : Nat) : zadr := fun x y => if x = t ∧ y = gN σ t then a else adr x y
theorem zRep_new {Ω : zOm} {σ : zSt} {adr : zadr} {H1 : Heap} {G : List (Nat × Nat)} {t n a : Nat} (hn : zU G) (hG : ∀ t i, (t, i) ∈ G ↔ i < gN σ t) (hV : zVal σ) (h15 : gN σ 15 = 0) (h5 : ∀ i, i < 11 → adr 15 i = oK Ω i) (ht : t ≠ 15)
    {e : va_E} (he : e = zcell Ω (nw σ t n) (zadr1 adr σ t a) t (gN σ t)) (hP : va_P (oD Ω) zcl (zws Ω σ adr G ++ [(a, e)]) H1) (hD : va_D (zA (oB Ω)) (zws Ω σ adr G ++ [(a, e)])) (hB : oB Ω ≤ H1.size) :
    zRep Ω (nw σ t n) (zadr1 adr σ t a) H1 ∧ zExt σ adr (nw σ t n) (zadr1 adr σ t a) := by
  have hext : zExt σ adr (nw σ t n) (zadr1 adr σ t a) := fun t' => ⟨by
    rw [gN_nw]
    by_cases h : t' = t
    · subst h; rw [if_pos rfl]; omega
    · rw [if_neg h]; exact Nat.le_refl _, fun i hi => by
    unfold zadr1
    rw [if_neg]
    rintro ⟨rfl, rfl⟩
    exact Nat.lt_irrefl _ hi⟩
  have hnot : (t, gN σ t) ∉ G := fun h => Nat.lt_irrefl _ ((hG _ _).mp h)
  have hw : zws Ω (nw σ t n) (zadr1 adr σ t a) (G ++ [(t, gN σ t)]) = zws Ω σ adr G ++ [(a, e)] := by
    unfold zws
    rw [List.map_append]
    congr 1
    · refine List.map_congr_left fun p hp => ?_
      obtain ⟨t', i'⟩ := p
      have hi := (hG t' i').mp hp
      have hne : ¬ (t' = t ∧ i' = gN σ t) := by
        rintro ⟨rfl, rfl⟩
        exact Nat.lt_irrefl _ hi
      have h1 : zadr1 adr σ t a t' i' = adr t' i' := (hext t').2 i' hi
      show (zadr1 adr σ t a t' i', zcell Ω (nw σ t n) (zadr1 adr σ t a) t' i') = (adr t' i', zcell Ω σ adr t' i')
      rw [h1, zcell_congr (σ := σ) (adr := adr) (fun k => by rw [gI_nw, if_neg hne]) (fun k => by rw [gL_nw, if_neg hne]) (fun k => by rw [gR_nw, if_neg hne]) (by rw [gZ_nw, if_neg hne]) (fun k g j hg hR => (hext g).2 j (hV t' i' k g j hi hg hR))]
    · rw [List.map_cons, List.map_nil, he]
      congr 2
      unfold zadr1
      rw [if_pos ⟨rfl, rfl⟩]
  refine ⟨⟨G ++ [(t, gN σ t)], ?_, ?_, by rw [hw]; exact hP, by rw [hw]; exact hD, ?_, hB, ?_, ?_⟩, hext⟩
  · intro x y p hx hy
    by_cases h1 : x < G.length <;> by_cases h2 : y < G.length
    · rw [List.getElem?_append_left h1] at hx
      rw [List.getElem?_append_left h2] at hy
      exact hn x y p hx hy
    · exfalso
      rw [List.getElem?_append_left h1] at hx
      rw [List.getElem?_append_right (by omega)] at hy
      have := List.mem_of_getElem? hy
      rw [List.mem_singleton] at this
      subst this
      exact hnot (List.mem_of_getElem? hx)
    · exfalso
      rw [List.getElem?_append_left h2] at hy
      rw [List.getElem?_append_right (by omega)] at hx
      have := List.mem_of_getElem? hx
      rw [List.mem_singleton] at this
      subst this
      exact hnot (List.mem_of_getElem? hy)
    · rw [List.getElem?_append_right (by omega)] at hx hy
      have h3 : x - G.length < 1 := (List.getElem?_eq_some_iff.mp hx).1
      have h4 : y - G.length < 1 := (List.getElem?_eq_some_iff.mp hy).1
      omega
  · intro t' i'
    rw [List.mem_append, List.mem_singleton, hG, gN_nw, Prod.mk.injEq]
    by_cases h : t' = t
    · subst h
      rw [if_pos rfl]
      constructor
      · rintro (h | ⟨-, rfl⟩) <;> omega
      · intro h
        by_cases h2 : i' < gN σ t'
        · exact Or.inl h2
        · exact Or.inr ⟨rfl, by omega⟩
    · rw [if_neg h]
      exact ⟨fun h' => h'.elim id (fun z => absurd z.1 h), Or.inl⟩
  · intro t' i' k g j hi hg hR
    rw [gR_nw] at hR
    by_cases h : t' = t ∧ i' = gN σ t
    · rw [if_pos h] at hR; cases hR
    · rw [if_neg h] at hR
      refine Nat.lt_of_lt_of_le (hV t' i' k g j ?_ hg hR) (hext g).1
      rw [gN_nw] at hi
      by_cases h2 : t' = t
      · subst h2
        rw [if_pos rfl] at hi
        have : i' ≠ gN σ t' := fun z => h ⟨rfl, z⟩
        omega
      · rw [if_neg h2] at hi; exact hi
  · rw [gN_nw, if_neg (Ne.symm ht)]; exact h15
  · intro i hi
    unfold zadr1
    rw [if_neg fun z => ht z.1.symm]
    exact h5 i hi
theorem zmap_ext {Ω : zOm} {σ σ' : zSt} {adr adr' : zadr} (h : zExt σ adr σ' adr') (h5 : ∀ i, i < 11 → adr 15 i = oK Ω i) (h5' : ∀ i, i < 11 → adr' 15 i = oK Ω i) {l : List zAV} (hl : zvs σ l) : l.map (zcv adr') = l.map (zcv adr) := List.map_congr_left fun v hv => zcv_ext h h5 h5' (hl v hv)
theorem zmapl_ext {Ω : zOm} {σ σ' : zSt} {adr adr' : zadr} (h : zExt σ adr σ' adr') (h5 : ∀ i, i < 11 → adr 15 i = oK Ω i) (h5' : ∀ i, i < 11 → adr' 15 i = oK Ω i) {l : List (Nat × zAV)} (hl : zvl σ l) : l.map (fun v => (v.1, zcv adr' v.2)) = l.map (fun v => (v.1, zcv adr v.2)) := List.map_congr_left fun v hv => by rw [zcv_ext h h5 h5' (hl v hv)]
end XS3
