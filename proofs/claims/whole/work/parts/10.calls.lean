section XC
variable {E : zEn} {cc : ByteArray} {μ : zMu} {q : Bool} {ρ : Type} {Qf : ρ → State → Prop} {kc ks : Nat} {σ : zSt} {als als' : List (Nat × zAV)} {pc : Nat} {ast : List zAV} {f f1 f2 : Option ρ}
/-- what is made: an object of a class, blank -/
def zNw (t : Nat) (C : String) (T : u_T) (N : Nat) : Prop := zcl[t]? = some (C, T, N) ∧ zfn t = N ∧ t < 15 ∧ (∀ w ∈ u_ws C T N, w ∈ tblG) ∧ ∃ ty : Nat → FieldType, (∀ k, k < N → parseFieldDescriptor (T k).2.2.1 = some (ty k)) ∧ ∀ k, k < N → defaultValue (ty k) = match zfk t k with | none => .int 0 | some _ => .null
theorem x_new {t N idx : Nat} {C : String} {T : u_T} (hw : zNw t C T N) (hcl : Cond.classLink μ.1 idx C ∈ tblG) (hin : Cond.instantiable C N ∈ tblG) (hini : Cond.initialized C ∈ tblG) (hdg : decode cc pc = .ok (.new idx, 3)) (hq0 : q = false) (hroom : kc + 1 ≤ μ.2.2.2.1.cells ∧ ks + N ≤ μ.2.2.2.1.slots)
    (kk : X E cc μ q Qf (kc + 1) (ks + N) (nw σ t 0) als (pc + 3) (aR t (some (gN σ t)) :: ast) f) : X E cc μ q Qf kc ks σ als pc ast f := by
  intro r hf hA hq adr H locs ls hR hE hS hl hs hls
  obtain ⟨h1, h2, h3, h4, ty, h5, h6⟩ := hw
  obtain ⟨G, hn, hG, hP, hD, hV, hB, h15, hK5⟩ := hR
  have hfs : ∀ j, j < N → defaultValue (ty j) = vp_V ((List.range N).map fun k => match zfk t k with | none => .int 0 | some _ => .null) j := fun j hj => by
    unfold vp_V
    rw [List.getD_eq_getElem?_getD, zfs_get hj]
    exact h6 j hj
  have key : ∀ (a : Nat) (H1 : Heap), va_P (oD E.2.1) zcl (zws E.2.1 σ adr G ++ [(a, .inr (t, (List.range N).map fun k => match zfk t k with | none => .int 0 | some _ => .null))]) H1 → va_D (zA (oB E.2.1)) (zws E.2.1 σ adr G ++ [(a, .inr (t, (List.range N).map fun k => match zfk t k with | none => .int 0 | some _ => .null))]) → va_S (zA (oB E.2.1)) (zsh E.1) H1 locs → oB E.2.1 ≤ (zsh E.1).size → zWW E.1 H1 locs (kc + 1) (ks + N) (Qf r) (pc + 3) ls (.ref a :: ast.map (zcv adr)) := by
    intro a H1 p1 d1 s1 hb
    have he : (.inr (t, (List.range N).map fun k => match zfk t k with | none => Value.int 0 | some _ => .null) : va_E) = zcell E.2.1 (nw σ t 0) (zadr1 adr σ t a) t (gN σ t) := by
      rw [zcell_obj (by omega), h2]
      congr 2
      refine List.map_congr_left fun k _ => ?_
      unfold zfv
      cases zfk t k with
      | none => simp only [gI_nw, and_self, if_pos]
      | some g => simp only [gR_nw, and_self, if_pos]; rfl
    obtain ⟨hR1, hx⟩ := zRep_new hn hG hV h15 hK5 (by omega) he p1 d1 (Nat.le_trans hb s1.1)
    obtain ⟨G1, -, -, -, -, -, -, -, hK5'⟩ := id hR1
    have hm := zmap_ext hx hK5 hK5' hs
    have hml := zmapl_ext hx hK5 hK5' hl
    have kk := kk r hf hA (fun h => by rw [hq0] at h; cases h) (zadr1 adr σ t a) H1 locs ls hR1 (hE.trans hx) s1 (zvl_N (fun t => (hx t).1) hl) (zvs.cons (gM_of (by rw [gN_nw, if_neg (by omega)]; exact h15) (by rw [gN_nw, if_pos rfl]; omega)) (zvs_N (fun t => (hx t).1) hs)) (by rw [hml]; exact hls)
    rw [List.map_cons, hm] at kk
    have e1 : zcv (zadr1 adr σ t a) (aR t (some (gN σ t))) = .ref a := by
      show va_rf (some (zadr1 adr σ t a t (gN σ t))) = _
      unfold zadr1
      rw [if_pos ⟨rfl, rfl⟩]
      rfl
    rw [e1] at kk
    exact kk
  obtain ⟨⟨p, l, e, R, s, m, args, below, meth, c⟩, E2⟩ := E
  have hb := hA.2.2.2.2.2.2.2.2.2.2.1
  have hR9 := hA.2.2.2.2.2.2.2.2.1
  exact va_new hA.1 hA.2.1 hA.2.2.2.2.1 h4 ty h5 hA.2.2.2.1 (hA.2.2.2.2.1 _ hcl) (hA.2.2.2.2.1 _ hin) (hA.2.2.2.2.1 _ hini) hA.2.2.2.2.2.2.2.2.2.1 hP hD hS (fun q hq => Nat.le_trans hb hq) h1 hfs (by rw [hR9]; exact hroom.1) (by rw [hR9]; exact hroom.2) hdg (fun a H1 p1 d1 s1 => key a H1 p1 d1 s1 hb)
theorem x_mka {t n : Nat} {adr : zadr} {locs : List Loc} {ls : Array Slot} {r : ρ} {G : List (Nat × Nat)} (hn : zU G) (hG : ∀ t i, (t, i) ∈ G ↔ i < gN σ t) (hV : zVal σ) (h15 : gN σ 15 = 0) (hK5 : ∀ i, i < 11 → adr 15 i = oK E.2.1 i) (ht : ¬ t < 16) (hlen : t = 1100 ∨ zal t = n) (hq0 : q = false)
    (hf : f = some r) (hA : zAmb E.1 E.2.1 cc μ) (hE : zExt E.2.2.1 E.2.2.2 σ adr) (hl : zvl σ als) (hs : zvs σ ast) (hls : lv_has ls μ.2.1 (als.map (fun v => (v.1, zcv adr v.2)))) {kc' ks' pc' : Nat}
    (kk : X E cc μ q Qf kc' ks' (nw σ t n) als pc' (aR t (some (gN σ t)) :: ast) f) (a : Nat) (H1 : Heap) (e : va_E)
    (he : e = .inl (oC E.2.1 (zak t), n, if zak t < 2 then .inl (fun _ => 0) else if zak t = 2 then .inr (.inl (fun _ => 0)) else .inr (.inr (.inr (.inr (fun _ => none))))))
    (p1 : va_P (oD E.2.1) zcl (zws E.2.1 σ adr G ++ [(a, e)]) H1) (d1 : va_D (zA (oB E.2.1)) (zws E.2.1 σ adr G ++ [(a, e)])) (s1 : va_S (zA (oB E.2.1)) (zsh E.1) H1 locs) (hb : oB E.2.1 ≤ (zsh E.1).size) : zWW E.1 H1 locs kc' ks' (Qf r) pc' ls (.ref a :: ast.map (zcv adr)) := by
  have he' : e = zcell E.2.1 (nw σ t n) (zadr1 adr σ t a) t (gN σ t) := by
    rw [he]
    unfold zcell
    rw [if_neg ht]
    have hz : zlen (nw σ t n) t (gN σ t) = n := by
      unfold zlen
      rcases hlen with h | h
      · rw [if_pos h, gZ_nw, if_pos ⟨rfl, rfl⟩]
      · by_cases h9 : t = 1100
        · rw [if_pos h9, gZ_nw, if_pos ⟨rfl, rfl⟩]
        · rw [if_neg h9, h]
    rw [hz]
    have i1 : gI (nw σ t n) t (gN σ t) = fun _ => 0 := funext fun k => by rw [gI_nw, if_pos ⟨rfl, rfl⟩]
    have i2 : gL (nw σ t n) t (gN σ t) = fun _ => 0 := funext fun k => by rw [gL_nw, if_pos ⟨rfl, rfl⟩]
    have i3 : (fun j => (gR (nw σ t n) t (gN σ t) j).map (zadr1 adr σ t a (zatg t))) = fun _ => none := funext fun k => by rw [gR_nw, if_pos ⟨rfl, rfl⟩]; rfl
    rw [i1, i2, i3]
  obtain ⟨hR1, hx⟩ := zRep_new hn hG hV h15 hK5 (by omega) he' p1 d1 (Nat.le_trans hb s1.1)
  obtain ⟨G1, -, -, -, -, -, -, -, hK5'⟩ := id hR1
  have hm := zmap_ext hx hK5 hK5' hs
  have hml := zmapl_ext hx hK5 hK5' hl
  have kk := kk r hf hA (fun h => by rw [hq0] at h; cases h) (zadr1 adr σ t a) H1 locs ls hR1 (hE.trans hx) s1 (zvl_N (fun t => (hx t).1) hl) (zvs.cons (gM_of (by rw [gN_nw, if_neg (by omega)]; exact h15) (by rw [gN_nw, if_pos rfl]; omega)) (zvs_N (fun t => (hx t).1) hs)) (by rw [hml]; exact hls)
  rw [List.map_cons, hm] at kk
  have e1 : zcv (zadr1 adr σ t a) (aR t (some (gN σ t))) = .ref a := by
    show va_rf (some (zadr1 adr σ t a t (gN σ t))) = _
    unfold zadr1
    rw [if_pos ⟨rfl, rfl⟩]
    rfl
  rw [e1] at kk
  exact kk
theorem zarr_id {Ω : zOm} {tys : List (ClassId × FieldType)} {s : State} {D : va_G} {cA : ClassId} {ty : FieldType} {k : Nat} (hk : k < 7) (hty : zety k = ty) (h0 : va_K D zcl (ztys Ω) s) (h : va_K D zcl (ztys Ω ++ [(cA, ty)]) s) : cA = oC Ω k := by
  have h1 := (h.2 7 (cA, ty) (by rw [List.getElem?_append_right (by unfold ztys; simp)]; unfold ztys; simp)).2
  have h2 := (h0.2 k _ (ztys_at Ω hk)).2
  subst hty
  rcases (by omega : k = 0 ∨ k = 1 ∨ k = 2 ∨ k = 3 ∨ k = 4 ∨ k = 5 ∨ k = 6) with rfl | rfl | rfl | rfl | rfl | rfl | rfl
  · exact Option.some.inj (h1.symm.trans h2)
  · exact Option.some.inj (h1.symm.trans h2)
  · exact Option.some.inj (h1.symm.trans h2)
  all_goals
    obtain ⟨_, _, -, -, -, g1⟩ := h1
    obtain ⟨_, _, -, -, -, g2⟩ := h2
    exact Option.some.inj (g1.symm.trans g2)
theorem x_newaI (t : Nat) {n : Nat} {x : Int32} (ha : zAr t 0 n) (hx : Int32.ofNat n = x) (hn : n ≤ 10000) (hw : Cond.arrayClass .int ∈ tblG) (hdg : decode cc pc = .ok (.newarray .int, 2)) (hq0 : q = false) (hroom : kc + 1 ≤ μ.2.2.2.1.cells ∧ ks + n ≤ μ.2.2.2.1.slots)
    (kk : X E cc μ q Qf (kc + 1) (ks + n) (nw σ t n) als (pc + 2) (aR t (some (gN σ t)) :: ast) f) : X E cc μ q Qf kc ks σ als pc (aI x :: ast) f := by
  intro r hf hA hq adr H locs ls hR hE hS hl hs hls
  obtain ⟨G, hu, hG, hP, hD, hV, hB, h15, hK5⟩ := hR
  have hz : zak t = 0 := ha.2.1
  have key := fun a H1 e he => x_mka (locs := locs) hu hG hV h15 hK5 ha.1 (Or.inr ha.2.2.1) hq0 hf hA hE hl hs.tl hls kk a H1 e he
  subst hx
  obtain ⟨⟨p, l, e, R, s, m, args, below, meth, c⟩, E2⟩ := E
  have hb := hA.2.2.2.2.2.2.2.2.2.2.1
  have hR9 := hA.2.2.2.2.2.2.2.2.1
  have hK := hA.2.2.2.2.2.2.2.2.2.1
  refine va_newa (atype := .int) (a0 := (n, .inl fun _ => 0)) hA.1 hA.2.1 (hA.2.2.2.2.1 _ hw) rfl hK hP hD hS (fun q hq => Nat.le_trans hb hq) (fun cA => rfl) (nI_pos (by omega)) (nI_clamp (by omega)) (by show n * 4 ≤ _; omega) (by rw [hR9]; exact hroom.1) (by rw [hR9]; exact hroom.2) hdg (fun a cA H1 k1 p1 d1 s1 => ?_)
  have hc := zarr_id (Ω := E2.1) (tys := []) (k := 0) (by omega) rfl hK k1
  subst hc
  exact key a H1 _ (by rw [hz]; rfl) p1 d1 s1 hb
theorem x_newaZ (t : Nat) {n : Nat} {x : Int32} (ha : zAr t 1 n) (hx : Int32.ofNat n = x) (hn : n ≤ 10000) (hw : Cond.arrayClass .boolean ∈ tblG) (hdg : decode cc pc = .ok (.newarray .boolean, 2)) (hq0 : q = false) (hroom : kc + 1 ≤ μ.2.2.2.1.cells ∧ ks + n ≤ μ.2.2.2.1.slots)
    (kk : X E cc μ q Qf (kc + 1) (ks + n) (nw σ t n) als (pc + 2) (aR t (some (gN σ t)) :: ast) f) : X E cc μ q Qf kc ks σ als pc (aI x :: ast) f := by
  intro r hf hA hq adr H locs ls hR hE hS hl hs hls
  obtain ⟨G, hu, hG, hP, hD, hV, hB, h15, hK5⟩ := hR
  have hz : zak t = 1 := ha.2.1
  have key := fun a H1 e he => x_mka (locs := locs) hu hG hV h15 hK5 ha.1 (Or.inr ha.2.2.1) hq0 hf hA hE hl hs.tl hls kk a H1 e he
  subst hx
  obtain ⟨⟨p, l, e, R, s, m, args, below, meth, c⟩, E2⟩ := E
  have hb := hA.2.2.2.2.2.2.2.2.2.2.1
  have hR9 := hA.2.2.2.2.2.2.2.2.1
  have hK := hA.2.2.2.2.2.2.2.2.2.1
  refine va_newa (atype := .boolean) (a0 := (n, .inl fun _ => 0)) hA.1 hA.2.1 (hA.2.2.2.2.1 _ hw) rfl hK hP hD hS (fun q hq => Nat.le_trans hb hq) (fun cA => rfl) (nI_pos (by omega)) (nI_clamp (by omega)) (by show n * 1 ≤ _; omega) (by rw [hR9]; exact hroom.1) (by rw [hR9]; exact hroom.2) hdg (fun a cA H1 k1 p1 d1 s1 => ?_)
  have hc := zarr_id (Ω := E2.1) (tys := []) (k := 1) (by omega) rfl hK k1
  subst hc
  exact key a H1 _ (by rw [hz]; rfl) p1 d1 s1 hb
theorem x_newaL (t : Nat) {n : Nat} {x : Int32} (ha : zAr t 2 n) (hx : Int32.ofNat n = x) (hn : n ≤ 10000) (hw : Cond.arrayClass .long ∈ tblG) (hdg : decode cc pc = .ok (.newarray .long, 2)) (hq0 : q = false) (hroom : kc + 1 ≤ μ.2.2.2.1.cells ∧ ks + n ≤ μ.2.2.2.1.slots)
    (kk : X E cc μ q Qf (kc + 1) (ks + n) (nw σ t n) als (pc + 2) (aR t (some (gN σ t)) :: ast) f) : X E cc μ q Qf kc ks σ als pc (aI x :: ast) f := by
  intro r hf hA hq adr H locs ls hR hE hS hl hs hls
  obtain ⟨G, hu, hG, hP, hD, hV, hB, h15, hK5⟩ := hR
  have hz : zak t = 2 := ha.2.1
  have key := fun a H1 e he => x_mka (locs := locs) hu hG hV h15 hK5 ha.1 (Or.inr ha.2.2.1) hq0 hf hA hE hl hs.tl hls kk a H1 e he
  subst hx
  obtain ⟨⟨p, l, e, R, s, m, args, below, meth, c⟩, E2⟩ := E
  have hb := hA.2.2.2.2.2.2.2.2.2.2.1
  have hR9 := hA.2.2.2.2.2.2.2.2.1
  have hK := hA.2.2.2.2.2.2.2.2.2.1
  refine va_newa (atype := .long) (a0 := (n, .inr (.inl fun _ => 0))) hA.1 hA.2.1 (hA.2.2.2.2.1 _ hw) rfl hK hP hD hS (fun q hq => Nat.le_trans hb hq) (fun cA => rfl) (nI_pos (by omega)) (nI_clamp (by omega)) (by show n * 8 ≤ _; omega) (by rw [hR9]; exact hroom.1) (by rw [hR9]; exact hroom.2) hdg (fun a cA H1 k1 p1 d1 s1 => ?_)
  have hc := zarr_id (Ω := E2.1) (tys := []) (k := 2) (by omega) rfl hK k1
  subst hc
  exact key a H1 _ (by rw [hz]; rfl) p1 d1 s1 hb
theorem x_newq (t : Nat) {n kd idx : Nat} {x : Int32} {C : String} (ha : zAr t kd n) (hkd : 3 ≤ kd ∧ kd < 7) (hC : zety kd = .object C) (hCm : C ∈ zAOs) (hx : Int32.ofNat n = x) (hn : n ≤ 10000) (hcl : Cond.classLink μ.1 idx C ∈ tblG) (hdg : decode cc pc = .ok (.anewarray idx, 3)) (hq0 : q = false) (hroom : kc + 1 ≤ μ.2.2.2.1.cells ∧ ks + n ≤ μ.2.2.2.1.slots)
    (kk : X E cc μ q Qf (kc + 1) (ks + n) (nw σ t n) als (pc + 3) (aR t (some (gN σ t)) :: ast) f) : X E cc μ q Qf kc ks σ als pc (aI x :: ast) f := by
  intro r hf hA hq adr H locs ls hR hE hS hl hs hls
  obtain ⟨G, hu, hG, hP, hD, hV, hB, h15, hK5⟩ := hR
  have hz : zak t = kd := ha.2.1
  have key := fun a H1 e he => x_mka (locs := locs) hu hG hV h15 hK5 ha.1 (Or.inr ha.2.2.1) hq0 hf hA hE hl hs.tl hls kk a H1 e he
  subst hx
  obtain ⟨⟨p, l, e, R, s, m, args, below, meth, c⟩, E2⟩ := E
  have hb := hA.2.2.2.2.2.2.2.2.2.2.1
  have hR9 := hA.2.2.2.2.2.2.2.2.1
  have hK := hA.2.2.2.2.2.2.2.2.2.1
  have hSp := hA.2.2.2.2.2.2.2.2.2.2.2
  refine va_newq hA.1 hA.2.1 hA.2.2.2.1 (hA.2.2.2.2.1 _ hcl) (hSp.2.1 C hCm) hK hP hD hS (fun q hq => Nat.le_trans hb hq) (nI_pos (by omega)) (nI_clamp (by omega)) (by omega) (by rw [hR9]; exact hroom.1) (by rw [hR9]; exact hroom.2) hdg (fun a cA H1 k1 p1 d1 s1 => ?_)
  have hc := zarr_id (Ω := E2.1) (tys := []) (k := kd) hkd.2 hC hK k1
  subst hc
  exact key a H1 _ (by rw [hz, if_neg (by omega), if_neg (by omega)]) p1 d1 s1 hb
end XC
