def zFd (t k : Nat) (C : String) (T : u_T) (N : Nat) (o : Option Nat) : Prop := zcl[t]? = some (C, T, N) ∧ k < N ∧ k < zfn t ∧ t < 15 ∧ zfk t k = o ∧ (∀ w ∈ u_ws C T N, w ∈ tblG) ∧ (T k).1 = C
def zPt (T : u_T) (N k : Nat) (ty : FieldType) (fin : Bool) : Prop := (∃ tys : Nat → FieldType, ∀ k, k < N → parseFieldDescriptor (T k).2.2.1 = some (tys k)) ∧ (∀ a, a < N → ∀ b, b < N → a ≠ b → (T a).2.1 ≠ (T b).2.1) ∧ (T k).2.2.2 = fin ∧ parseFieldDescriptor (T k).2.2.1 = some ty
theorem gM_of {σ : zSt} (h15 : gN σ 15 = 0) {g j : Nat} (h : j < gN σ g) : j < gM σ g := by
  unfold gM
  by_cases hg : g = 15
  · subst hg; omega
  · rw [if_neg hg]; exact h
theorem gN_of {σ : zSt} {g j : Nat} (hg : g ≠ 15) (h : j < gM σ g) : j < gN σ g := by
  unfold gM at h
  rw [if_neg hg] at h
  exact h
theorem zfs_get {n k : Nat} {f : Nat → Value} (h : k < n) : ((List.range n).map f)[k]? = some (f k) := by
  rw [List.getElem?_map, List.getElem?_range h]; rfl
theorem zfs_set {n k : Nat} {f g : Nat → Value} {v : Value} (hk : g k = v) (ho : ∀ j, j ≠ k → g j = f j) : ((List.range n).map f).set k v = (List.range n).map g := by
  apply List.ext_getElem?
  intro j
  by_cases hj : j = k
  · subst hj
    by_cases hl : j < n
    · rw [List.getElem?_set_self (by rw [List.length_map, List.length_range]; exact hl), zfs_get hl, hk]
    · rw [List.getElem?_eq_none (by rw [List.length_set, List.length_map, List.length_range]; omega), List.getElem?_eq_none (by rw [List.length_map, List.length_range]; omega)]
  · rw [List.getElem?_set_ne (Ne.symm hj), List.getElem?_map, List.getElem?_map]
    cases hr : (List.range n)[j]? with
    | none => rfl
    | some y =>
      have : y = j := by
        have h1 := (List.getElem?_eq_some_iff.mp hr).2
        rw [List.getElem_range] at h1
        exact h1.symm
      subst this
      simp only [Option.map_some, ho y hj]
theorem zcell_obj {Ω : zOm} {σ : zSt} {adr : zadr} {t i : Nat} (ht : t < 16) : zcell Ω σ adr t i = .inr (t, (List.range (zfn t)).map (zfv σ adr t i)) := by
  unfold zcell; rw [if_pos ht]
/-- a step that writes one place of one cell: the world behind it -/
theorem zRep_set {Ω : zOm} {σ σ1 : zSt} {adr : zadr} {G : List (Nat × Nat)} {H1 : Heap} {t i k0 : Nat} {e : va_E} (hn : zU G) (hG : ∀ t i, (t, i) ∈ G ↔ i < gN σ t) (hk : G[k0]? = some (t, i)) (hN : ∀ t, gN σ1 t = gN σ t)
    (he : e = zcell Ω σ1 adr t i) (ho : ∀ t' i', (t', i') ≠ (t, i) → zcell Ω σ1 adr t' i' = zcell Ω σ adr t' i') (hP1 : va_P (oD Ω) zcl ((zws Ω σ adr G).set k0 (adr t i, e)) H1) (hD1 : va_D (zA (oB Ω)) ((zws Ω σ adr G).set k0 (adr t i, e)))
    (hV : zVal σ1) (hB : oB Ω ≤ H1.size) (h15 : gN σ 15 = 0) (h5 : ∀ i, i < 11 → adr 15 i = oK Ω i) : zRep Ω σ1 adr H1 := by
  rw [zws_set hn hk he (fun t' i' _ h => ho t' i' h)] at hP1 hD1
  exact ⟨G, hn, fun t i => by rw [hN]; exact hG t i, hP1, hD1, hV, hB, by rw [hN]; exact h15, h5⟩
theorem zExt_N {σ0 : zSt} {a0 : zadr} {σ σ1 : zSt} {adr : zadr} (hN : ∀ t, gN σ1 t = gN σ t) (h : zExt σ0 a0 σ adr) : zExt σ0 a0 σ1 adr := fun t => ⟨by rw [hN]; exact (h t).1, (h t).2⟩
theorem zvl_N {σ σ1 : zSt} {l : List (Nat × zAV)} (hN : ∀ t, gN σ t ≤ gN σ1 t) (h : zvl σ l) : zvl σ1 l := fun v hv => (h v hv).mono hN
theorem zvs_N {σ σ1 : zSt} {l : List zAV} (hN : ∀ t, gN σ t ≤ gN σ1 t) (h : zvs σ l) : zvs σ1 l := fun v hv => (h v hv).mono hN
section XH
variable {E : zEn} {cc : ByteArray} {μ : zMu} {q : Bool} {ρ : Type} {Qf : ρ → State → Prop} {kc ks : Nat} {σ : zSt} {als als' : List (Nat × zAV)} {pc : Nat} {ast : List zAV} {f f1 f2 : Option ρ}
theorem x_getv {t i k idx : Nat} {C : String} {T : u_T} {N : Nat} {o : Option Nat} {v : zAV} (hF : zFd t k C T N o) (hlink : Cond.fieldLink μ.1 idx C (T k).2.1 (T k).2.2.1 ∈ tblG) (hdg : decode cc pc = .ok (.getfield idx, 3))
    (hv : ∀ adr, zVal σ → gN σ 15 = 0 → i < gN σ t → (q = true → zOK σ) → zfv σ adr t i k = zcv adr v ∧ zv1 σ v) (kk : X E cc μ q Qf kc ks σ als (pc + 3) (v :: ast) f) : X E cc μ q Qf kc ks σ als pc (aR t (some i) :: ast) f := by
  intro r hf hA hq adr H locs ls hR hE hS hl hs hls
  obtain ⟨h1, h2, h3, h4, h5, h6, h7⟩ := hF
  have hR' := hR
  obtain ⟨G, hn, hG, hP, hD, hV, hB, h15, hK5⟩ := hR'
  have hi : i < gN σ t := gN_of (by omega) hs.hd
  obtain ⟨k0, -, hk0⟩ := zws_get (Ω := E.2.1) (σ := σ) (adr := adr) ((hG t i).mpr hi)
  rw [zcell_obj (by omega)] at hk0
  obtain ⟨hv1, hv2⟩ := hv adr hV h15 hi hq
  have kk := kk r hf hA hq adr H locs ls hR hE hS hl (zvs.cons hv2 hs.tl) hls
  obtain ⟨⟨p, l, e, R, s, m, args, below, meth, c⟩, E2⟩ := E
  exact va_get hA.1 hA.2.1 hA.2.2.2.2.1 h6 hA.2.2.2.1 hA.2.2.2.2.2.2.2.2.2.1 hP k0 hk0 h1 k h2 (hA.2.2.2.2.1 _ hlink) (fun x hx => by rw [h7] at hx; exact hx) (v := zcv adr v) (by rw [zfs_get h3, hv1]) hdg kk
theorem x_getI {t i k idx : Nat} {C : String} {T : u_T} {N : Nat} (hF : zFd t k C T N none) (hlink : Cond.fieldLink μ.1 idx C (T k).2.1 (T k).2.2.1 ∈ tblG) (hdg : decode cc pc = .ok (.getfield idx, 3)) (kk : X E cc μ q Qf kc ks σ als (pc + 3) (aI (gI σ t i k) :: ast) f) : X E cc μ q Qf kc ks σ als pc (aR t (some i) :: ast) f :=
  x_getv (v := aI (gI σ t i k)) hF hlink hdg (fun adr _ _ _ _ => ⟨by unfold zfv; rw [hF.2.2.2.2.1]; rfl, trivial⟩) kk
theorem x_getR {t i k idx g : Nat} {C : String} {T : u_T} {N : Nat} (hF : zFd t k C T N (some g)) (hlink : Cond.fieldLink μ.1 idx C (T k).2.1 (T k).2.2.1 ∈ tblG) (hdg : decode cc pc = .ok (.getfield idx, 3)) (kk : X E cc μ q Qf kc ks σ als (pc + 3) (aR g (gR σ t i k) :: ast) f) : X E cc μ q Qf kc ks σ als pc (aR t (some i) :: ast) f :=
  x_getv (v := aR g (gR σ t i k)) hF hlink hdg (fun adr hV h15 hi _ => ⟨by unfold zfv; rw [hF.2.2.2.2.1]; rfl, by
    cases h : gR σ t i k with
    | none => exact trivial
    | some j => exact gM_of h15 (hV t i k g j hi (by unfold ztg; rw [if_pos (by have := hF.2.2.2.1; omega)]; exact hF.2.2.2.2.1) h)⟩) kk
theorem x_getF {t i k idx g j : Nat} {C : String} {T : u_T} {N : Nat} (hF : zFd t k C T N (some g)) (hfi : zfin t k i = some j) (hqt : q = true) (hlink : Cond.fieldLink μ.1 idx C (T k).2.1 (T k).2.2.1 ∈ tblG) (hdg : decode cc pc = .ok (.getfield idx, 3)) (kk : X E cc μ q Qf kc ks σ als (pc + 3) (aR g (some j) :: ast) f) : X E cc μ q Qf kc ks σ als pc (aR t (some i) :: ast) f :=
  x_getv (v := aR g (some j)) hF hlink hdg (fun adr hV h15 hi hq => by
    have he := hq hqt t i k j hi hfi
    refine ⟨by unfold zfv; rw [hF.2.2.2.2.1]; show va_rf ((gR σ t i k).map (adr g)) = _; rw [he]; rfl, ?_⟩
    exact gM_of h15 (hV t i k g j hi (by unfold ztg; rw [if_pos (by have := hF.2.2.2.1; omega)]; exact hF.2.2.2.2.1) he)) kk
theorem x_putv {t i k idx : Nat} {C : String} {T : u_T} {N : Nat} {o : Option Nat} {v : zAV} {ty : FieldType} {fin : Bool} {σ1 : zSt} (hF : zFd t k C T N o) (hPt : zPt T N k ty fin) (hlink : Cond.fieldLink μ.1 idx C (T k).2.1 (T k).2.2.1 ∈ tblG) (hdg : decode cc pc = .ok (.putfield idx, 3))
    (hfin : fin = false ∨ (μ.2.2.2.2 = true ∧ C = μ.1)) (hnf : ∀ adr, narrow ty (zcv adr v) = zcv adr v ∧ fits ty (zcv adr v) = true)
    (hN : ∀ t, gN σ1 t = gN σ t) (hv : ∀ adr, zfv σ1 adr t i k = zcv adr v) (hvo : ∀ adr j, j ≠ k → zfv σ1 adr t i j = zfv σ adr t i j) (ho : ∀ Ω adr t' i', (t', i') ≠ (t, i) → zcell Ω σ1 adr t' i' = zcell Ω σ adr t' i') (hV1 : gN σ 15 = 0 → zv1 σ v → zVal σ → zVal σ1) (hq1 : q = true → zOK σ → zOK σ1)
    (kk : X E cc μ q Qf kc ks σ1 als (pc + 3) ast f) : X E cc μ q Qf kc ks σ als pc (v :: aR t (some i) :: ast) f := by
  intro r hf hA hq adr H locs ls hR hE hS hl hs hls
  obtain ⟨h1, h2, h3, h4, h5, h6, h7⟩ := hF
  obtain ⟨⟨tys, hty⟩, hnm, hfn, hpd⟩ := hPt
  obtain ⟨G, hn, hG, hP, hD, hV, hB, h15, hK5⟩ := hR
  have hi : i < gN σ t := gN_of (by omega) hs.tl.hd
  obtain ⟨k0, hk0', hk0⟩ := zws_get (Ω := E.2.1) (σ := σ) (adr := adr) ((hG t i).mpr hi)
  rw [zcell_obj (by omega)] at hk0
  have kk := fun H locs hR hS => kk r hf hA (fun h => hq1 h (hq h)) adr H locs ls hR (zExt_N hN hE) hS (zvl_N (fun t => Nat.le_of_eq (hN t).symm) hl) (zvs_N (fun t => Nat.le_of_eq (hN t).symm) hs.tl.tl) hls
  have hrep : ∀ H1, va_P (oD E.2.1) zcl ((zws E.2.1 σ adr G).set k0 (adr t i, .inr (t, ((List.range (zfn t)).map (zfv σ adr t i)).set k (zcv adr v)))) H1 → va_D (zA (oB E.2.1)) ((zws E.2.1 σ adr G).set k0 (adr t i, .inr (t, ((List.range (zfn t)).map (zfv σ adr t i)).set k (zcv adr v)))) → oB E.2.1 ≤ H1.size → zRep E.2.1 σ1 adr H1 := fun H1 a b hB1 =>
    zRep_set hn hG hk0' hN (by rw [zcell_obj (by omega), zfs_set (hv adr) (hvo adr)]) (ho _ _) a b (hV1 h15 hs.hd hV) hB1 h15 hK5
  obtain ⟨⟨p, l, e, R, s, m, args, below, meth, c⟩, E2⟩ := E
  have hlen : k < ((List.range (zfn t)).map (zfv σ adr t i)).length := by rw [List.length_map, List.length_range]; exact h3
  have hb := hA.2.2.2.2.2.2.2.2.2.2.1
  rcases hfin with hfin | ⟨hini, hC⟩
  · exact va_put hA.1 hA.2.1 hA.2.2.2.2.1 h6 tys hty hnm hA.2.2.2.1 hA.2.2.2.2.2.2.2.2.2.1 hP hD hS k0 hk0 h1 k h2 (hA.2.2.2.2.1 _ hlink) (fun x hx => by rw [h7] at hx; exact hx) (by rw [hfn]; exact hfin) hpd (hnf adr).1 (hnf adr).2 hlen hdg (fun H1 locs1 a b c' => kk H1 locs1 (hrep H1 a b (Nat.le_trans hb c'.1)) c')
  · cases fin with
    | false => exact va_put hA.1 hA.2.1 hA.2.2.2.2.1 h6 tys hty hnm hA.2.2.2.1 hA.2.2.2.2.2.2.2.2.2.1 hP hD hS k0 hk0 h1 k h2 (hA.2.2.2.2.1 _ hlink) (fun x hx => by rw [h7] at hx; exact hx) hfn hpd (hnf adr).1 (hnf adr).2 hlen hdg (fun H1 locs1 a b c' => kk H1 locs1 (hrep H1 a b (Nat.le_trans hb c'.1)) c')
    | true => exact va_putF hA.1 hA.2.1 hA.2.2.2.2.1 h6 tys hty hnm hA.2.2.2.1 hA.2.2.2.2.2.2.2.2.2.1 hP hD hS k0 hk0 h1 k h2 (hA.2.2.2.2.1 _ hlink) (fun x hx => by rw [h7] at hx; exact hx) hfn (hA.2.2.2.2.2.2.2.1 hini) (h7.trans hC) hpd (hnf adr).1 (hnf adr).2 hlen hdg (fun H1 locs1 a b c' => kk H1 locs1 (hrep H1 a b (Nat.le_trans hb c'.1)) c')
end XH
