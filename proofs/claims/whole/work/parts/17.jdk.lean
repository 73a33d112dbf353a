/-! of the JDK: the machine contracts of Arrays.copyOf and String.indexOf -/
section XJ
variable {E : zEn} {cc : ByteArray} {μ : zMu} {q : Bool} {ρ : Type} {Qf : ρ → State → Prop} {kc ks : Nat} {σ : zSt} {als als' : List (Nat × zAV)} {pc : Nat} {ast : List zAV} {f f1 f2 : Option ρ} {rm : Room}
theorem x_newaV {n : Nat} (hn : n ≤ 160) (hw : Cond.arrayClass .int ∈ tblG) (hdg : decode cc pc = .ok (.newarray .int, 2)) (hq0 : q = false) (hroom : kc + 1 ≤ μ.2.2.2.1.cells ∧ ks + n ≤ μ.2.2.2.1.slots)
    (kk : X E cc μ q Qf (kc + 1) (ks + n) (nw σ 1100 n) als (pc + 2) (aR 1100 (some (gN σ 1100)) :: ast) f) : X E cc μ q Qf kc ks σ als pc (aI (nI n) :: ast) f := by
  intro r hf hA hq adr H locs ls hR hE hS hl hs hls
  obtain ⟨G, hu, hG, hP, hD, hV, hB, h15, hK5⟩ := hR
  have hz : zak 1100 = 0 := by decide +kernel
  have key := fun a H1 e he => x_mka (t := 1100) (n := n) (locs := locs) hu hG hV h15 hK5 (by decide) (Or.inl rfl) hq0 hf hA hE hl hs.tl hls kk a H1 e he
  obtain ⟨⟨p, l, e, R, s, m, args, below, meth, c⟩, E2⟩ := E
  have hb := hA.2.2.2.2.2.2.2.2.2.2.1
  have hR9 := hA.2.2.2.2.2.2.2.2.1
  have hK := hA.2.2.2.2.2.2.2.2.2.1
  refine va_newa (atype := .int) (a0 := (n, .inl fun _ => 0)) hA.1 hA.2.1 (hA.2.2.2.2.1 _ hw) rfl hK hP hD hS (fun q hq => Nat.le_trans hb hq) (fun cA => rfl) (nI_pos (by omega)) (nI_clamp (by omega)) (by show n * 4 ≤ _; omega) (by rw [hR9]; exact hroom.1) (by rw [hR9]; exact hroom.2) hdg (fun a cA H1 k1 p1 d1 s1 => ?_)
  have hc := zarr_id (Ω := E2.1) (tys := []) (k := 0) (by omega) rfl hK k1
  subst hc
  exact key a H1 _ (by rw [hz]; rfl) p1 d1 s1 hb
def zcp (σ : zSt) (i0 i1 n : Nat) : zSt := (fun a b c => if a = 1100 ∧ b = i1 ∧ c < n then gI σ 1210 i0 c else gI σ a b c, σ.2)
theorem gI_zcp (σ : zSt) (i0 i1 n a b c : Nat) : gI (zcp σ i0 i1 n) a b c = if a = 1100 ∧ b = i1 ∧ c < n then gI σ 1210 i0 c else gI σ a b c := rfl
theorem x_cpyV {i0 i1 n idx : Nat} (hn : n ≤ 160) (hz : gZ σ 1100 i1 = n) (hlink : Cond.methodLink μ.1 idx arraycopyName ∈ tblG) (hnat : Cond.native arraycopyName ∈ tblG) (hst : Cond.static arraycopyName ∈ tblG) (hini : Cond.initialized "java/lang/System" ∈ tblG) (hdg : decode cc pc = .ok (.invokestatic idx, 3)) (hroom : 1 ≤ μ.2.2.2.1.frames ∧ zcats ast + (nativeFrameWords "java/lang/System" "arraycopy" 5 + 11) ≤ μ.2.2.2.1.locals)
    (kk : X E cc μ q Qf kc ks (zcp σ i0 i1 n) als (pc + 3) ast f) : X E cc μ q Qf kc ks σ als pc (aI (nI n) :: aI 0 :: aR 1100 (some i1) :: aI 0 :: aR 1210 (some i0) :: ast) f := by
  intro r hf hA hq adr H locs ls hR hE hS hl hs hls
  obtain ⟨G, hu, hG, hP, hD, hV, hB, h15, hK5⟩ := hR
  have h1 : i1 < gN σ 1100 := gN_of (by decide) hs.tl.tl.hd
  have h0 : i0 < gN σ 1210 := gN_of (by decide) hs.tl.tl.tl.tl.hd
  have k11 : zak 1100 = 0 := by decide +kernel
  have k12 : zak 1210 = 0 := by decide +kernel
  have l12 : zal 1210 = 160 := by decide +kernel
  obtain ⟨k1, hk1', hk1⟩ := zws_get (Ω := E.2.1) (σ := σ) (adr := adr) ((hG 1100 i1).mpr h1)
  obtain ⟨k0, hk0', hk0⟩ := zws_get (Ω := E.2.1) (σ := σ) (adr := adr) ((hG 1210 i0).mpr h0)
  rw [zcell_I (by decide) (by rw [k11]; decide), k11, show zlen σ 1100 i1 = n from by unfold zlen; rw [if_pos rfl, hz]] at hk1
  rw [zcell_I (by decide) (by rw [k12]; decide), k12, show zlen σ 1210 i0 = 160 from by unfold zlen; rw [if_neg (by decide), l12]] at hk0
  have hc' : zcell E.2.1 (zcp σ i0 i1 n) adr 1100 i1 = .inl (oC E.2.1 0, n, .inl (va_cpy (gI σ 1210 i0) (gI σ 1100 i1) 0 0 n)) := by
    rw [zcell_I (by decide) (by rw [k11]; decide), k11, show zlen (zcp σ i0 i1 n) 1100 i1 = n from by unfold zlen; rw [if_pos rfl]; exact hz]
    have : gI (zcp σ i0 i1 n) 1100 i1 = va_cpy (gI σ 1210 i0) (gI σ 1100 i1) 0 0 n := by
      funext k
      rw [gI_zcp]
      unfold va_cpy
      by_cases c : k < n
      · rw [if_pos ⟨rfl, rfl, c⟩, if_pos ⟨Nat.zero_le _, by omega⟩, Nat.zero_add, Nat.sub_zero]
      · rw [if_neg (fun hh => c hh.2.2), if_neg (by omega)]
    rw [this]
  have kk := fun H locs hR hS => kk r hf hA hq adr H locs ls hR (zExt_N (fun _ => rfl) hE) hS hl hs.tl.tl.tl.tl.tl hls
  have hrep : ∀ H1, va_P (oD E.2.1) zcl ((zws E.2.1 σ adr G).set k1 (adr 1100 i1, .inl (oC E.2.1 0, n, .inl (va_cpy (gI σ 1210 i0) (gI σ 1100 i1) 0 0 n)))) H1 → va_D (zA (oB E.2.1)) ((zws E.2.1 σ adr G).set k1 (adr 1100 i1, .inl (oC E.2.1 0, n, .inl (va_cpy (gI σ 1210 i0) (gI σ 1100 i1) 0 0 n)))) → oB E.2.1 ≤ H1.size → zRep E.2.1 (zcp σ i0 i1 n) adr H1 := fun H1 a b hB1 =>
    zRep_set hu hG hk1' (fun _ => rfl) hc'.symm (fun t' i' h => zcell_congr (σ := σ) (adr := adr) (fun k => by rw [gI_zcp, if_neg (fun hh => h (by rw [hh.1, hh.2.1]))]) (fun _ => rfl) (fun _ => rfl) rfl (fun _ _ _ _ _ => rfl)) a b hV hB1 h15 hK5
  obtain ⟨⟨p, l, e, R, s, m, args, below, meth, c⟩, E2⟩ := E
  obtain ⟨hx, hb, hml, hown, hts, hlk, hrt, hini', hRm, hK, hb0, hSp⟩ := hA
  subst hRm
  have z0 : (0 : Int32).toNatClampNeg = 0 := rfl
  have zn : (nI n).toNatClampNeg = n := nI_clamp (by omega)
  refine va_copyi hx hb (by rw [hml]; exact hls.1.symm) hown (hts _ hlink) (hts _ hnat) (hts _ hst) (hts _ hini) hK hP hD hS k0 k1 0 0 hk0 hk1 (ztys_at _ (by decide)) (ztys_at _ (by decide)) rfl (by decide) (by decide) (nI_pos (by omega)) (by rw [z0, zn]; omega) (by rw [z0, zn]; omega) (fun _ _ => rfl) hroom.1 (by rw [zcats_eq]; exact hroom.2) hdg (fun H1 locs1 a b c' => ?_)
  rw [z0, zn] at a b
  exact kk H1 locs1 (hrep H1 a b (Nat.le_trans hb0 c'.1)) c'
end XJ
abbrev rJ7_copyOf_59c91 : Room := { frames := 2, cells := 1, slots := 160, locals := 60 }
abbrev rJ0_indexOf_0f7a4 : Room := { frames := 6, cells := 0, slots := 0, locals := 200 }
section XJ2
variable {E : zEn} {cc : ByteArray} {μ : zMu} {q : Bool} {ρ : Type} {Qf : ρ → State → Prop} {kc ks : Nat} {σ : zSt} {als als' : List (Nat × zAV)} {pc : Nat} {ast : List zAV} {f f1 f2 : Option ρ} {rm : Room}
theorem arrV_cg {cA : ClassId} {n : Nat} {F F' : Nat → Value} (h : ∀ j, j < n → F j = F' j) : arrV cA n F = arrV cA n F' := by
  unfold arrV
  congr 1
  exact congrArg Array.ofFn (funext fun j => h j.val j.isLt)
/-- one cell more, not empty -/
theorem zRep_more {Ω : zOm} {σ σ1 : zSt} {adr : zadr} {H1 : Heap} {G : List (Nat × Nat)} {t a : Nat} (hn : zU G) (hG : ∀ t i, (t, i) ∈ G ↔ i < gN σ t) (hV : zVal σ) (h15 : gN σ 15 = 0) (h5 : ∀ i, i < 11 → adr 15 i = oK Ω i) (ht : t ≠ 15)
    (gNe : ∀ x, gN σ1 x = if x = t then gN σ t + 1 else gN σ x) (gIe : ∀ x i, ¬ (x = t ∧ i = gN σ t) → ∀ k, gI σ1 x i k = gI σ x i k) (gLe : ∀ x i, ¬ (x = t ∧ i = gN σ t) → ∀ k, gL σ1 x i k = gL σ x i k) (gRe : ∀ x i k, gR σ1 x i k = if x = t ∧ i = gN σ t then none else gR σ x i k) (gZe : ∀ x i, ¬ (x = t ∧ i = gN σ t) → gZ σ1 x i = gZ σ x i)
    {e : va_E} (he : e = zcell Ω σ1 (zadr1 adr σ t a) t (gN σ t)) (hP : va_P (oD Ω) zcl (zws Ω σ adr G ++ [(a, e)]) H1) (hD : va_D (zA (oB Ω)) (zws Ω σ adr G ++ [(a, e)])) (hB : oB Ω ≤ H1.size) :
    zRep Ω σ1 (zadr1 adr σ t a) H1 ∧ zExt σ adr σ1 (zadr1 adr σ t a) := by
  have hext : zExt σ adr σ1 (zadr1 adr σ t a) := fun t' => ⟨by
    rw [gNe]
    by_cases h : t' = t
    · subst h; rw [if_pos rfl]; omega
    · rw [if_neg h]; exact Nat.le_refl _, fun i hi => by
    unfold zadr1
    rw [if_neg]
    rintro ⟨rfl, rfl⟩
    exact Nat.lt_irrefl _ hi⟩
  have hnot : (t, gN σ t) ∉ G := fun h => Nat.lt_irrefl _ ((hG _ _).mp h)
  have hw : zws Ω σ1 (zadr1 adr σ t a) (G ++ [(t, gN σ t)]) = zws Ω σ adr G ++ [(a, e)] := by
    unfold zws
    rw [List.map_append]
    congr 1
    · refine List.map_congr_left fun p hp => ?_
      obtain ⟨t', i'⟩ := p
      have hi := (hG t' i').mp hp
      have hne : ¬ (t' = t ∧ i' = gN σ t) := by
        rintro ⟨rfl, rfl⟩
        exact Nat.lt_irrefl _ hi
      have h1 : zadr1 adr σ t a t' i' = adr t' i' := (hext t').2 i' hi
      show (zadr1 adr σ t a t' i', zcell Ω σ1 (zadr1 adr σ t a) t' i') = (adr t' i', zcell Ω σ adr t' i')
      rw [h1, zcell_congr (σ := σ) (adr := adr) (gIe t' i' hne) (gLe t' i' hne) (fun k => by rw [gRe, if_neg hne]) (gZe t' i' hne) (fun k g j hg hR => (hext g).2 j (hV t' i' k g j hi hg hR))]
    · rw [List.map_cons, List.map_nil, he]
      congr 2
      unfold zadr1
      rw [if_pos ⟨rfl, rfl⟩]
  refine ⟨⟨G ++ [(t, gN σ t)], ?_, ?_, by rw [hw]; exact hP, by rw [hw]; exact hD, ?_, hB, ?_, ?_⟩, hext⟩
  · intro x y p hx hy
    by_cases h1 : x < G.length <;> by_cases h2 : y < G.length
    · rw [List.getElem?_append_left h1] at hx
      rw [List.getElem?_append_left h2] at hy
      exact hn x y p hx hy
    · exfalso
      rw [List.getElem?_append_left h1] at hx
      rw [List.getElem?_append_right (by omega)] at hy
      have := List.mem_of_getElem? hy
      rw [List.mem_singleton] at this
      subst this
      exact hnot (List.mem_of_getElem? hx)
    · exfalso
      rw [List.getElem?_append_left h2] at hy
      rw [List.getElem?_append_right (by omega)] at hx
      have := List.mem_of_getElem? hx
      rw [List.mem_singleton] at this
      subst this
      exact hnot (List.mem_of_getElem? hy)
    · rw [List.getElem?_append_right (by omega)] at hx hy
      have h3 : x - G.length < 1 := (List.getElem?_eq_some_iff.mp hx).1
      have h4 : y - G.length < 1 := (List.getElem?_eq_some_iff.mp hy).1
      omega
  · intro t' i'
    rw [List.mem_append, List.mem_singleton, hG, gNe, Prod.mk.injEq]
    by_cases h : t' = t
    · subst h
      rw [if_pos rfl]
      constructor
      · rintro (h | ⟨-, rfl⟩) <;> omega
      · intro h
        by_cases h2 : i' < gN σ t'
        · exact Or.inl h2
        · exact Or.inr ⟨rfl, by omega⟩
    · rw [if_neg h]
      exact ⟨fun h' => h'.elim id (fun z => absurd z.1 h), Or.inl⟩
  · intro t' i' k g j hi hg hR
    rw [gRe] at hR
    by_cases h : t' = t ∧ i' = gN σ t
    · rw [if_pos h] at hR; cases hR
    · rw [if_neg h] at hR
      refine Nat.lt_of_lt_of_le (hV t' i' k g j ?_ hg hR) (hext g).1
      rw [gNe] at hi
      by_cases h2 : t' = t
      · subst h2
        rw [if_pos rfl] at hi
        have : i' ≠ gN σ t' := fun z => h ⟨rfl, z⟩
        omega
      · rw [if_neg h2] at hi; exact hi
  · rw [gNe, if_neg (Ne.symm ht)]; exact h15
  · intro i hi
    unfold zadr1
    rw [if_neg fun z => ht z.1.symm]
    exact h5 i hi
/-- the clone of the tape, cast -/
theorem x_cloneV {i0 idx idx2 : Nat} (hlink : Cond.methodLink μ.1 idx ⟨"[I", "clone", "()Ljava/lang/Object;"⟩ ∈ tblG) (hnat : Cond.native ⟨"java/lang/Object", "clone", "()Ljava/lang/Object;"⟩ ∈ tblG) (hinst : Cond.instanceMethod ⟨"java/lang/Object", "clone", "()Ljava/lang/Object;"⟩ ∈ tblG) (hsel : Cond.selects "[I" ⟨"[I", "clone", "()Ljava/lang/Object;"⟩ ⟨"java/lang/Object", "clone", "()Ljava/lang/Object;"⟩ ∈ tblG) (hcl : Cond.classLink μ.1 idx2 "[I" ∈ tblG)
    (hdg : decode cc pc = .ok (.invokevirtual idx, 3)) (hdg2 : decode cc (pc + 3) = .ok (.checkcast idx2, 3)) (hq0 : q = false) (hroom : 1 ≤ μ.2.2.2.1.frames ∧ zcats ast + 14 ≤ μ.2.2.2.1.locals ∧ kc + 1 ≤ μ.2.2.2.1.cells ∧ ks + 160 ≤ μ.2.2.2.1.slots)
    (kk : X E cc μ q Qf (kc + 1) (ks + 160) (ztx σ i0 160) als (pc + 6) (aR 1100 (some (gN σ 1100)) :: ast) f) : X E cc μ q Qf kc ks σ als pc (aR 1210 (some i0) :: ast) f := by
  intro r hf hA hq adr H locs ls hR hE hS hl hs hls
  obtain ⟨G, hu, hG, hP, hD, hV, hB, h15, hK5⟩ := hR
  have h0 : i0 < gN σ 1210 := gN_of (by decide) hs.hd
  have k11 : zak 1100 = 0 := by decide +kernel
  have k12 : zak 1210 = 0 := by decide +kernel
  have l12 : zal 1210 = 160 := by decide +kernel
  obtain ⟨k0, hk0', hk0⟩ := zws_get (Ω := E.2.1) (σ := σ) (adr := adr) ((hG 1210 i0).mpr h0)
  rw [zcell_I (by decide) (by rw [k12]; decide), k12, show zlen σ 1210 i0 = 160 from by unfold zlen; rw [if_neg (by decide), l12]] at hk0
  have key : ∀ (a : Nat) (H1 : Heap), va_P (oD E.2.1) zcl (zws E.2.1 σ adr G ++ [(a, .inl (oC E.2.1 0, (160, .inl (gI σ 1210 i0))))]) H1 → va_D (zA (oB E.2.1)) (zws E.2.1 σ adr G ++ [(a, .inl (oC E.2.1 0, (160, .inl (gI σ 1210 i0))))]) → va_S (zA (oB E.2.1)) (zsh E.1) H1 locs → oB E.2.1 ≤ (zsh E.1).size → zWW E.1 H1 locs (kc + 1) (ks + 160) (Qf r) (pc + 6) ls (.ref a :: ast.map (zcv adr)) := by
    intro a H1 p1 d1 s1 hb
    have cellE : zcell E.2.1 (ztx σ i0 160) (zadr1 adr σ 1100 a) 1100 (gN σ 1100) = .inl (oC E.2.1 0, (160, .inl (gI (ztx σ i0 160) 1100 (gN σ 1100)))) := by
      rw [zcell_I (by decide) (by rw [k11]; decide), k11, show zlen (ztx σ i0 160) 1100 (gN σ 1100) = 160 from by
        unfold zlen
        rw [if_pos rfl]
        show gZ (nw σ 1100 160) 1100 (gN σ 1100) = 160
        rw [gZ_nw, if_pos ⟨rfl, rfl⟩]]
    have cellG : vp_cell (oC E.2.1 0) (160, .inl (gI σ 1210 i0)) = vp_cell (oC E.2.1 0) (160, .inl (gI (ztx σ i0 160) 1100 (gN σ 1100))) := by
      rw [vp_cell_i, vp_cell_i]
      refine arrV_cg fun j hj => ?_
      show Value.int (gI σ 1210 i0 j) = Value.int (if (1100 : Nat) = 1100 ∧ gN σ 1100 = gN σ 1100 ∧ j < 160 then gI σ 1210 i0 j else gI (nw σ 1100 160) 1100 (gN σ 1100) j)
      rw [if_pos ⟨rfl, rfl, hj⟩]
    have at' : ∀ (k : Nat) (x : Nat × va_E), (zws E.2.1 σ adr G ++ [(a, .inl (oC E.2.1 0, (160, .inl (gI (ztx σ i0 160) 1100 (gN σ 1100)))))])[k]? = some x → (k < (zws E.2.1 σ adr G).length ∧ (zws E.2.1 σ adr G ++ [(a, .inl (oC E.2.1 0, (160, .inl (gI σ 1210 i0))))])[k]? = some x) ∨ (x = (a, .inl (oC E.2.1 0, (160, .inl (gI (ztx σ i0 160) 1100 (gN σ 1100))))) ∧ (zws E.2.1 σ adr G ++ [(a, .inl (oC E.2.1 0, (160, .inl (gI σ 1210 i0))))])[k]? = some (a, .inl (oC E.2.1 0, (160, .inl (gI σ 1210 i0))))) := fun k x hx => by
      by_cases c : k < (zws E.2.1 σ adr G).length
      · rw [List.getElem?_append_left c] at hx
        exact Or.inl ⟨c, by rw [List.getElem?_append_left c]; exact hx⟩
      · rw [List.getElem?_append_right (by omega)] at hx
        have h3 : k - (zws E.2.1 σ adr G).length < 1 := (List.getElem?_eq_some_iff.mp hx).1
        have h4 : k - (zws E.2.1 σ adr G).length = 0 := by omega
        rw [h4] at hx
        refine Or.inr ⟨(Option.some.inj hx).symm, ?_⟩
        rw [List.getElem?_append_right (by omega), h4]
        rfl
    have p2 : va_P (oD E.2.1) zcl (zws E.2.1 σ adr G ++ [(a, .inl (oC E.2.1 0, (160, .inl (gI (ztx σ i0 160) 1100 (gN σ 1100)))))]) H1 := fun k x hx => by
      rcases at' k x hx with ⟨-, h⟩ | ⟨rfl, h⟩
      · exact p1 k x h
      · have := p1 k _ h
        show H1[a]? = some (vp_cell (oC E.2.1 0) (160, .inl (gI (ztx σ i0 160) 1100 (gN σ 1100))))
        rw [← cellG]
        exact this
    have d2 : va_D (zA (oB E.2.1)) (zws E.2.1 σ adr G ++ [(a, .inl (oC E.2.1 0, (160, .inl (gI (ztx σ i0 160) 1100 (gN σ 1100)))))]) := by
      refine ⟨fun i j x y hx hy e => ?_, fun k x hx => ?_⟩
      · rcases at' i x hx with ⟨-, h⟩ | ⟨rfl, h⟩ <;> rcases at' j y hy with ⟨-, h'⟩ | ⟨rfl, h'⟩
        · exact d1.1 i j _ _ h h' e
        · exact d1.1 i j _ _ h h' e
        · exact d1.1 i j _ _ h h' e
        · exact d1.1 i j _ _ h h' e
      · rcases at' k x hx with ⟨-, h⟩ | ⟨rfl, h⟩
        · exact d1.2 k _ h
        · have := d1.2 k _ h
          exact this
    obtain ⟨hR1, hx⟩ := zRep_more (σ1 := ztx σ i0 160) hu hG hV h15 hK5 (t := 1100) (by decide) (fun x => gN_nw σ 1100 160 x) (fun x i hne k => by
      show (if x = 1100 ∧ i = gN σ 1100 ∧ k < 160 then gI σ 1210 i0 k else gI (nw σ 1100 160) x i k) = gI σ x i k
      rw [if_neg (fun hh => hne ⟨hh.1, hh.2.1⟩), gI_nw, if_neg hne]) (fun x i hne k => by
      show gL (nw σ 1100 160) x i k = gL σ x i k
      rw [gL_nw, if_neg hne]) (fun x i k => gR_nw σ 1100 160 x i k) (fun x i hne => by
      show gZ (nw σ 1100 160) x i = gZ σ x i
      rw [gZ_nw, if_neg hne]) cellE.symm p2 d2 (Nat.le_trans hb s1.1)
    obtain ⟨G1, -, -, -, -, -, -, -, hK5'⟩ := id hR1
    have hm := zmapl_ext hx hK5 hK5' hl
    have hms := zmap_ext hx hK5 hK5' hs.tl
    have kk := kk r hf hA (fun h => by rw [hq0] at h; cases h) (zadr1 adr σ 1100 a) H1 locs ls hR1 (hE.trans hx) s1 (zvl_N (fun t => (hx t).1) hl) (zvs.cons (gM_of (by show gN (nw σ 1100 160) 15 = 0; rw [gN_nw, if_neg (by decide)]; exact h15) (by show gN σ 1100 < gN (nw σ 1100 160) 1100; rw [gN_nw, if_pos rfl]; omega)) (zvs_N (fun t => (hx t).1) hs.tl)) (by rw [hm]; exact hls)
    rw [List.map_cons, hms] at kk
    have e1 : zcv (zadr1 adr σ 1100 a) (aR 1100 (some (gN σ 1100))) = .ref a := by
      show va_rf (some (zadr1 adr σ 1100 a 1100 (gN σ 1100))) = _
      unfold zadr1
      rw [if_pos ⟨rfl, rfl⟩]
      rfl
    rw [e1] at kk
    exact kk
  obtain ⟨⟨p, l, e, R, s, m, args, below, meth, c⟩, E2⟩ := E
  obtain ⟨hx, hb, hml, hown, hts, hlk, hrt, hini', hRm, hK, hb0, hSp⟩ := hA
  subst hRm
  have hnm : s.vm.findClass "[I" = some (oC E2.1 0) := va_nm_int (hK.2 0 _ (ztys_at _ (by decide))).2
  refine va_clone hx hb (by rw [hml]; exact hls.1.symm) hown (hts _ hlink) (va_Nw.use rfl hSp.2.2.2.2.2.2.1) (hts _ hnat) (hts _ hinst) (hts _ hsel) hSp.2.2.2.2.2.1 hK hP hD hS (fun q hq => Nat.le_trans hb0 hq) k0 0 hk0 (ztys_at _ (by decide)) hnm (fun i v hv => va_fit (cA := oC E2.1 0) (n := 160) (F := fun j => Value.int (gI σ 1210 i0 j)) (ty := .int) (fun _ _ => rfl) i v hv) hroom.1 (by rw [zcats_eq]; exact hroom.2.1) hroom.2.2.1 hroom.2.2.2 hdg (fun a H1 kk1 p1 d1 s1 => ?_)
  refine va_castE hx hb hown (hts _ hcl) ⟨vp_cell (oC E2.1 0) (160, .inl (gI σ 1210 i0)), ?_, rfl, hnm⟩ hdg2 ?_
  · exact p1 (zws E2.1 σ adr G).length _ (by rw [List.getElem?_append_right (Nat.le_refl _), Nat.sub_self]; rfl)
  · exact key a H1 p1 d1 s1 hb0
theorem x_aretA {t : Nat} {x : Option Nat} {ty : FieldType} {res : ρ} (hQ : Qf res = zQf E q (eR t) rm x σ) (hr : μ.2.2.1 = some (.array ty)) (hdg : decode cc pc = .ok (.areturn, 1)) : X E cc μ q Qf rm.cells rm.slots σ als pc [aR t x] (some res) := by
  intro r hf hA hq adr H locs ls hR hE hS hl hs hls
  cases hf
  rw [hQ]
  obtain ⟨⟨p, l, e, R, s, m, args, below, meth, c⟩, E2⟩ := E
  exact W.aret (v := zcv adr (aR t x)) hA.1 hA.2.1 (hA.2.2.2.2.2.2.1.trans hr) (Or.inr ⟨ty, rfl⟩) (by cases x with | none => exact Or.inl rfl | some j => exact Or.inr ⟨_, rfl⟩) (fun t ht hW => ⟨⟨adr, rfl, by rw [ht]; exact hR, hE, hs, hq⟩, hS.F ht⟩) hS.2.2 hdg hA.2.2.2.2.2.1
end XJ2
theorem zmin_160 {n : Nat} (hn : n ≤ 160) : zmin (nI 160) (nI n) = nI n := by
  unfold zmin
  by_cases c : nI n < nI 160
  · rw [if_pos c]
  · rw [if_neg c]
    have : ¬ n < 160 := fun hh => c (Int32.lt_iff_toInt_lt.mpr (by
      rw [show (nI n).toInt = n from Int32.toInt_ofNat_of_lt (by omega), show (nI 160).toInt = 160 from rfl]
      omega))
    rw [show n = 160 by omega]
theorem ztx_zcp {σ : zSt} {h0 n : Nat} : ztx σ h0 n = zcp (nw σ 1100 n) h0 (gN σ 1100) n := by
  unfold ztx zcp
  refine Prod.ext ?_ rfl
  funext a b c
  show (if a = 1100 ∧ b = gN σ 1100 ∧ c < n then gI σ 1210 h0 c else gI (nw σ 1100 n) a b c) = if a = 1100 ∧ b = gN σ 1100 ∧ c < n then gI (nw σ 1100 n) 1210 h0 c else gI (nw σ 1100 n) a b c
  have e : gI (nw σ 1100 n) 1210 h0 c = gI σ 1210 h0 c := by
    rw [gI_nw]
    exact if_neg (fun hh => absurd hh.1 (by decide))
  rw [e]
theorem xJ7_copyOf (E : zEn) (h0 : Nat) (v1 : Int32) (σ : zSt) : X E cJ7_copyOf_59c91 (RJ7, 3, some (.array .int), rJ7_copyOf_59c91, false) false (zQw E false (eR 1100) rJ7_copyOf_59c91) 0 0 σ [(0, aR 1210 (some h0)), (1, aI v1)] 0 [] (fJ7_copyOf_59c91 h0 v1 σ) := by
  unfold fJ7_copyOf_59c91
  refine x_ite (fun _ => x_none) (fun hv => ?_)
  obtain ⟨n, hn, rfl⟩ : ∃ n : Nat, n ≤ 160 ∧ v1 = nI n := by
    have h1 : (0 : Int) ≤ v1.toInt := by
      have : ¬ v1 < 0 := fun h => hv (Or.inl h)
      have := Int32.not_lt.mp this
      simpa using Int32.le_iff_toInt_le.mp this
    have h2 : v1.toInt ≤ 160 := by
      have : ¬ (160 : Int32) < v1 := fun h => hv (Or.inr h)
      have := Int32.le_iff_toInt_le.mp (Int32.not_lt.mp this)
      simpa using this
    refine ⟨v1.toInt.toNat, by omega, ?_⟩
    apply Int32.toInt_inj.mp
    rw [show (nI v1.toInt.toNat).toInt = ((v1.toInt.toNat : Nat) : Int) from Int32.toInt_ofNat_of_lt (by omega)]
    omega
  rw [show (nI n).toNatClampNeg = n from nI_clamp (by omega)]
  refine x_iload_n (pc := 0) 1 dJ7_copyOf_59c91_0 rfl rfl ?_
  refine x_aload_n (pc := 1) 0 dJ7_copyOf_59c91_1 rfl rfl ?_
  refine x_alen (pc := 2) ar_1210 (by decide) dJ7_copyOf_59c91_2 ?_
  refine x_same (c := nI n = nI 160) ?_
  refine x_icmp_ne (pc := 3) 14 dJ7_copyOf_59c91_3 rfl (fun hne => ?_) (fun he => ?_)
  · refine x_iload_n (pc := 14) 1 dJ7_copyOf_59c91_14 rfl rfl ?_
    refine x_newaV (pc := 15) hn tk_52 dJ7_copyOf_59c91_15 rfl ⟨by decide, by show 0 + n ≤ 160; omega⟩ ?_
    refine x_astore_n (pc := 17) 2 dJ7_copyOf_59c91_17 rfl (by decide) rfl ?_
    refine x_aload_n (pc := 18) 0 dJ7_copyOf_59c91_18 rfl rfl ?_
    refine x_iconst (pc := 19) 0 dJ7_copyOf_59c91_19 rfl ?_
    refine x_aload_n (pc := 20) 2 dJ7_copyOf_59c91_20 rfl rfl ?_
    refine x_iconst (pc := 21) 0 dJ7_copyOf_59c91_21 rfl ?_
    refine x_aload_n (pc := 22) 0 dJ7_copyOf_59c91_22 rfl rfl ?_
    refine x_alen (pc := 23) ar_1210 (by decide) dJ7_copyOf_59c91_23 ?_
    refine x_iload_n (pc := 24) 1 dJ7_copyOf_59c91_24 rfl rfl ?_
    refine x_zmin (pc := 25) (rest := [aI 0, aR 1100 (some (gN σ 1100)), aI 0, aR 1210 (some h0)]) tk_949 tk_741 tk_14 tk_742 dJ7_copyOf_59c91_25 ⟨by decide, by decide, by decide, by show 0 + n ≤ 160; omega⟩ (Nat.le_of_ble_eq_true rfl) ?_
    rw [zmin_160 hn]
    refine x_cpyV (pc := 28) hn (by rw [gZ_nw, if_pos ⟨rfl, rfl⟩]) tk_950 tk_952 tk_951 tk_21 dJ7_copyOf_59c91_28 ⟨by decide, by decide +kernel⟩ ?_
    rw [← ztx_zcp]
    refine x_aload_n (pc := 31) 2 dJ7_copyOf_59c91_31 rfl rfl ?_
    refine x_widen (kc' := 1) (ks' := 160) (by decide) (by show 0 + n ≤ 160; omega) ?_
    exact x_aretA (rm := rJ7_copyOf_59c91) (pc := 32) rfl rfl dJ7_copyOf_59c91_32
  · have hn : n = 160 := by
      have h1 := congrArg Int32.toInt he
      rw [show (nI n).toInt = n from Int32.toInt_ofNat_of_lt (by omega), show (nI 160).toInt = 160 from rfl] at h1
      omega
    subst hn
    refine x_aload_n (pc := 6) 0 dJ7_copyOf_59c91_6 rfl rfl ?_
    refine x_cloneV (pc := 7) tk_942 tk_944 tk_945 tk_946 tk_948 dJ7_copyOf_59c91_7 dJ7_copyOf_59c91_10 rfl ⟨by decide, by decide, by decide, by decide⟩ ?_
    exact x_aretA (rm := rJ7_copyOf_59c91) (pc := 13) rfl rfl dJ7_copyOf_59c91_13
theorem c_J7_copyOf_59c91 (l : Launch) (h0 : Nat) (v1 : Int32) (σ : zSt) : zMet l yJ7_copyOf_59c91 cJ7_copyOf_59c91 3 (some (.array .int)) rJ7_copyOf_59c91 false (eR 1100) [aR 1210 (some h0), aI v1] σ (fJ7_copyOf_59c91 h0 v1 σ) :=
  zMet_of [(0, aR 1210 (some h0)), (1, aI v1)] (by decide +kernel) (fun h => by cases h) (Nat.le_of_ble_eq_true rfl) rfl fun E _ => xJ7_copyOf E h0 v1 σ
section XSTR
variable {E : zEn} {cc : ByteArray} {μ : zMu} {q : Bool} {ρ : Type} {Qf : ρ → State → Prop} {kc ks : Nat} {σ : zSt} {als als' : List (Nat × zAV)} {pc : Nat} {ast : List zAV} {f f1 f2 : Option ρ} {rm : Room}
theorem x_i2b {x : Int32} (hdg : decode cc pc = .ok (.i2b, 1)) (k : X E cc μ q Qf kc ks σ als (pc + 1) (aI (x.toInt8.toInt32) :: ast) f) : X E cc μ q Qf kc ks σ als pc (aI x :: ast) f := by
  intro r hf hA hq adr H locs ls hR hE hS hl hs hls
  have kk := k r hf hA hq adr H locs ls hR hE hS hl (zvs.cons trivial hs.tl) hls
  obtain ⟨⟨p, l, e, R, s, m, args, below, meth, c⟩, E2⟩ := E
  exact lv_i2b hA.1 hA.2.1 hdg rfl kk
theorem zK15 {adr : zadr} {i : Nat} {Ω : zOm} (hK5 : ∀ i, i < 11 → adr 15 i = oK Ω i) (hi : i < 11) : zcv adr (aR 15 (some i)) = .ref (oK Ω i) := by
  show va_rf (some (adr 15 i)) = _
  rw [hK5 i hi]
  rfl
/-- a String's bytes -/
theorem x_sval {k idx : Nat} (hk : k < 5) (hlink : Cond.fieldLink μ.1 idx "java/lang/String" "value" "[B" ∈ tblG) (hdg : decode cc pc = .ok (.getfield idx, 3)) (kk : X E cc μ q Qf kc ks σ als (pc + 3) (aR 15 (some (6 + k)) :: ast) f) : X E cc μ q Qf kc ks σ als pc (aR 15 (some k) :: ast) f := by
  intro r hf hA hq adr H locs ls hR hE hS hl hs hls
  obtain ⟨G, -, -, -, -, -, -, -, hK5⟩ := id hR
  have kk := kk r hf hA hq adr H locs ls hR hE hS hl (zvs.cons (by show 6 + k < gM σ 15; unfold gM; rw [if_pos rfl]; omega) hs.tl) hls
  rw [List.map_cons, zK15 hK5 (by omega)] at kk ⊢
  obtain ⟨⟨p, l, e, R, s, m, args, below, meth, c⟩, E2⟩ := E
  obtain ⟨hx, hb, hml, hown, hts, hlk, hrt, hini', hRm, hK, hb0, hSp⟩ := hA
  have hv := (hSp.2.2.1.1 k hk).2.2.1
  rw [hSp.2.2.2.2.2.2.2 k hk] at hv
  exact vk_getf hx hb hv hS hown (hts _ hlink) (fun x h => h) hdg kk
theorem x_scod {k idx : Nat} (hk : k < 5) (hlink : Cond.fieldLink μ.1 idx "java/lang/String" "coder" "B" ∈ tblG) (hdg : decode cc pc = .ok (.getfield idx, 3)) (kk : X E cc μ q Qf kc ks σ als (pc + 3) (aI 0 :: ast) f) : X E cc μ q Qf kc ks σ als pc (aR 15 (some k) :: ast) f := by
  intro r hf hA hq adr H locs ls hR hE hS hl hs hls
  obtain ⟨G, -, -, -, -, -, -, -, hK5⟩ := id hR
  have kk := kk r hf hA hq adr H locs ls hR hE hS hl (zvs.cons trivial hs.tl) hls
  rw [List.map_cons, zK15 hK5 (by omega)]
  obtain ⟨⟨p, l, e, R, s, m, args, below, meth, c⟩, E2⟩ := E
  obtain ⟨hx, hb, hml, hown, hts, hlk, hrt, hini', hRm, hK, hb0, hSp⟩ := hA
  exact vk_getf hx hb (hSp.2.2.1.1 k hk).2.1 hS hown (hts _ hlink) (fun x h => h) hdg kk
theorem x_scmp {idx : Nat} (hlink : Cond.fieldLink μ.1 idx "java/lang/String" "COMPACT_STRINGS" "Z" ∈ tblG) (hdg : decode cc pc = .ok (.getstatic idx, 3)) (kk : X E cc μ q Qf kc ks σ als (pc + 3) (aI 1 :: ast) f) : X E cc μ q Qf kc ks σ als pc ast f := by
  intro r hf hA hq adr H locs ls hR hE hS hl hs hls
  have kk := kk r hf hA hq adr H locs ls hR hE hS hl (zvs.cons trivial hs) hls
  obtain ⟨⟨p, l, e, R, s, m, args, below, meth, c⟩, E2⟩ := E
  obtain ⟨hx, hb, hml, hown, hts, hlk, hrt, hini', hRm, hK, hb0, hSp⟩ := hA
  exact va_gets hx hb hSp.2.2.2.2.1 hS hown (hts _ hlink) (fun x h => h) hdg kk
theorem x_slen {k : Nat} (hk : k < 5) (hdg : decode cc pc = .ok (.arraylength, 1)) (kk : X E cc μ q Qf kc ks σ als (pc + 1) (aI (nI (zslen.getD k 0)) :: ast) f) : X E cc μ q Qf kc ks σ als pc (aR 15 (some (6 + k)) :: ast) f := by
  intro r hf hA hq adr H locs ls hR hE hS hl hs hls
  obtain ⟨G, -, -, -, -, -, -, -, hK5⟩ := id hR
  have kk := kk r hf hA hq adr H locs ls hR hE hS hl (zvs.cons trivial hs.tl) hls
  rw [List.map_cons, zK15 hK5 (by omega)]
  obtain ⟨⟨p, l, e, R, s, m, args, below, meth, c⟩, E2⟩ := E
  obtain ⟨hx, hb, hml, hown, hts, hlk, hrt, hini', hRm, hK, hb0, hSp⟩ := hA
  have hv := (hSp.2.2.1.1 k hk).2.2.2
  rw [hSp.2.2.2.2.2.2.2 k hk] at hv
  exact va_tlen hx hb hv hS rfl hdg kk
theorem x_sbld {k : Nat} {j : Int32} {g : Nat → Option ρ} (hk : k < 5) (hdg : decode cc pc = .ok (.baload, 1)) (kk : ∀ m, X E cc μ q Qf kc ks σ als (pc + 1) (aI ((zsbyt.getD k []).getD m 0) :: ast) (g m)) : X E cc μ q Qf kc ks σ als pc (aI j :: aR 15 (some (6 + k)) :: ast) (zix j (zslen.getD k 0) g) := by
  intro r hf hA hq adr H locs ls hR hE hS hl hs hls
  unfold zix at hf
  by_cases hin : j < 0 ∨ zslen.getD k 0 ≤ j.toNatClampNeg
  · rw [if_pos hin] at hf; cases hf
  rw [if_neg hin] at hf
  obtain ⟨G, -, -, -, -, -, -, -, hK5⟩ := id hR
  have kk := kk _ r hf hA hq adr H locs ls hR hE hS hl (zvs.cons trivial hs.tl.tl) hls
  rw [List.map_cons, List.map_cons, zK15 hK5 (by omega)]
  obtain ⟨⟨p, l, e, R, s, m, args, below, meth, c⟩, E2⟩ := E
  obtain ⟨hx, hb, hml, hown, hts, hlk, hrt, hini', hRm, hK, hb0, hSp⟩ := hA
  have hv := (hSp.2.2.1.1 k hk).2.2.2
  rw [hSp.2.2.2.2.2.2.2 k hk] at hv
  exact va_tb hx hb hv hS hin rfl hdg kk
theorem x_retN {x : Int32} {ty : FieldType} {res : ρ} (hQ : Qf res = zQf E q eI rm x σ) (hr : μ.2.2.1 = some ty) (hn : narrow ty (.int x) = .int x) (hdg : decode cc pc = .ok (.ireturn, 1)) : X E cc μ q Qf rm.cells rm.slots σ als pc [aI x] (some res) := by
  intro r hf hA hq adr H locs ls hR hE hS hl hs hls
  cases hf
  rw [hQ]
  obtain ⟨⟨p, l, e, R, s, m, args, below, meth, c⟩, E2⟩ := E
  exact W.zret (v := x) hA.1 hA.2.1 (hA.2.2.2.2.2.2.1.trans hr) hn (fun t ht hW => ⟨⟨adr, rfl, by rw [ht]; exact hR, hE, hs, hq⟩, hS.F ht⟩) hS.2.2 hdg hA.2.2.2.2.2.1
end XSTR
/-! the programs of String.indexOf -/
def fsCan (c : Int32) : Option Int32 := if c < 0 then some 0 else if 255 < c then some 0 else some 1
def fsIxL (k : Nat) (b to : Int32) : Nat → Int32 → Option Int32
  | 0, _ => none
  | n + 1, i => if to ≤ i then some (-1) else zix i (zslen.getD k 0) fun m => if (zsbyt.getD k []).getD m 0 = b then some i else fsIxL k b to n (i + 1)
def fsL1 (k : Nat) (c fr to : Int32) : Option Int32 := zc1 (fsCan c) fun r => if r = 0 then some (-1) else if zmax fr 0 < zmin to (nI (zslen.getD k 0)) then zc1 (fsIxL k c.toInt8.toInt32 (zmin to (nI (zslen.getD k 0))) zfuel (zmax fr 0)) fun r => some r else some (-1)
def fsLen (k : Nat) : Option Int32 := zc1 (some 0) fun r => some (zop_ishr (nI (zslen.getD k 0)) r)
def fsII (k : Nat) (c fr : Int32) : Option Int32 := zc1 (some (1 : Int32)) fun r => if r = 0 then none else zc1 (fsLen k) fun n => zc1 (fsL1 k c fr n) fun r => some r
abbrev rS0 : Room := { frames := 0, cells := 0, slots := 0, locals := 0 }
abbrev rS1 : Room := { frames := 1, cells := 0, slots := 0, locals := 20 }
abbrev rS2 : Room := { frames := 1, cells := 0, slots := 0, locals := 25 }
abbrev rS3 : Room := { frames := 2, cells := 0, slots := 0, locals := 48 }
theorem c_isLatin1 (l : Launch) (q : Bool) (k : Nat) (hk : k < 5) (σ : zSt) : zMet l yJ0_isLatin1_aae02 cJ0_isLatin1_aae02 1 (some .boolean) rS0 q eI [aR 15 (some k)] σ (zro (some 1) σ) :=
  zMet_ofR (ini := false) [(0, aR 15 (some k))] (by decide +kernel) (fun h => by cases h) (Nat.le_of_ble_eq_true rfl) rfl fun E _ => by
    refine x_scmp (pc := 0) tk_852 dJ0_isLatin1_aae02_0 ?_
    refine x_same (c := (1 : Int32) = 0) ?_
    refine x_if_eq (pc := 3) 17 dJ0_isLatin1_aae02_3 rfl (fun h => absurd h (by decide)) (fun _ => ?_)
    refine x_aload_n (pc := 6) 0 dJ0_isLatin1_aae02_6 rfl rfl ?_
    refine x_scod (pc := 7) hk tk_1852 dJ0_isLatin1_aae02_7 ?_
    refine x_same (c := (0 : Int32) = 0) ?_
    refine x_if_ne (pc := 10) 17 dJ0_isLatin1_aae02_10 rfl (fun h => absurd rfl h) (fun _ => ?_)
    refine x_iconst (pc := 13) 1 dJ0_isLatin1_aae02_13 rfl ?_
    refine x_goto (pc := 14) 18 dJ0_isLatin1_aae02_14 (by decide) ?_
    exact x_zretC (rm := rS0) (pc := 18) rfl rfl (Or.inr rfl) dJ0_isLatin1_aae02_18
theorem c_coder (l : Launch) (q : Bool) (k : Nat) (hk : k < 5) (σ : zSt) : zMet l yJ0_coder_7d493 cJ0_coder_7d493 1 (some .byte) rS0 q eI [aR 15 (some k)] σ (zro (some 0) σ) :=
  zMet_ofR (ini := false) [(0, aR 15 (some k))] (by decide +kernel) (fun h => by cases h) (Nat.le_of_ble_eq_true rfl) rfl fun E _ => by
    refine x_scmp (pc := 0) tk_852 dJ0_coder_7d493_0 ?_
    refine x_same (c := (1 : Int32) = 0) ?_
    refine x_if_eq (pc := 3) 13 dJ0_coder_7d493_3 rfl (fun h => absurd h (by decide)) (fun _ => ?_)
    refine x_aload_n (pc := 6) 0 dJ0_coder_7d493_6 rfl rfl ?_
    refine x_scod (pc := 7) hk tk_1852 dJ0_coder_7d493_7 ?_
    refine x_goto (pc := 10) 14 dJ0_coder_7d493_10 (by decide) ?_
    exact x_retN (rm := rS0) (pc := 14) rfl rfl (by decide +kernel) dJ0_coder_7d493_14
theorem c_length (l : Launch) (q : Bool) (k : Nat) (hk : k < 5) (σ : zSt) : zMet l yJ0_length_8abf5 cJ0_length_8abf5 1 (some .int) rS1 q eI [aR 15 (some k)] σ (zro (fsLen k) σ) :=
  zMet_ofR (ini := false) [(0, aR 15 (some k))] (by decide +kernel) (fun h => by cases h) (Nat.le_of_ble_eq_true rfl) rfl fun E _ => by
    unfold fsLen
    refine x_aload_n (pc := 0) 0 dJ0_length_8abf5_0 rfl rfl ?_
    refine x_sval (pc := 1) hk tk_1853 dJ0_length_8abf5_1 ?_
    refine x_slen (pc := 4) hk dJ0_length_8abf5_4 ?_
    refine x_aload_n (pc := 5) 0 dJ0_length_8abf5_5 rfl rfl ?_
    refine x_callTr (pc := 6) (as := []) (rest := [aI (nI (zslen.getD k 0))]) (fun l => c_coder l q k hk σ) md_J0_coder_7d493 rfl hk rfl tk_859 tk_860 tk_858 dJ0_length_8abf5_6 rfl ⟨by decide, by decide, by decide, by decide⟩ ⟨fun h => h, fun h => Or.inl h⟩ rfl (Nat.le_of_ble_eq_true rfl) (fun r => ?_)
    refine x_ishr (pc := 9) dJ0_length_8abf5_9 ?_
    exact x_iret (rm := rS1) (pc := 10) rfl rfl dJ0_length_8abf5_10
theorem c_canEncode (l : Launch) (q : Bool) (c : Int32) (σ : zSt) : zMet l yJ1_canEncode_9a6ad cJ1_canEncode_9a6ad 1 (some .boolean) rS0 q eI [aI c] σ (zro (fsCan c) σ) :=
  zMet_ofR (ini := false) [(0, aI c)] (by decide +kernel) (fun h => by cases h) (Nat.le_of_ble_eq_true rfl) rfl fun E _ => by
    unfold fsCan
    refine x_iload_n (pc := 0) 0 dJ1_canEncode_9a6ad_0 rfl rfl ?_
    refine x_if_lt (pc := 1) 15 dJ1_canEncode_9a6ad_1 rfl (fun _ => ?_) (fun _ => ?_)
    · refine x_iconst (pc := 15) 0 dJ1_canEncode_9a6ad_15 rfl ?_
      exact x_zretC (rm := rS0) (pc := 16) rfl rfl (Or.inl rfl) dJ1_canEncode_9a6ad_16
    · refine x_iload_n (pc := 4) 0 dJ1_canEncode_9a6ad_4 rfl rfl ?_
      refine x_sipush (pc := 5) 255 dJ1_canEncode_9a6ad_5 rfl ?_
      refine x_icmp_gt (pc := 8) 15 dJ1_canEncode_9a6ad_8 rfl (fun _ => ?_) (fun _ => ?_)
      · refine x_iconst (pc := 15) 0 dJ1_canEncode_9a6ad_15 rfl ?_
        exact x_zretC (rm := rS0) (pc := 16) rfl rfl (Or.inl rfl) dJ1_canEncode_9a6ad_16
      · refine x_iconst (pc := 11) 1 dJ1_canEncode_9a6ad_11 rfl ?_
        refine x_goto (pc := 12) 16 dJ1_canEncode_9a6ad_12 (by decide) ?_
        exact x_zretC (rm := rS0) (pc := 16) rfl rfl (Or.inr rfl) dJ1_canEncode_9a6ad_16
theorem xl_ix (E : zEn) (q : Bool) {k : Nat} (hk : k < 5) (b to : Int32) (σ : zSt) : ∀ n i, X E cJ1_indexOfChar_4cfef (RJ1, 6, some .int, rS0, false) q (zQr E q eI rS0 σ) 0 0 σ [(5, aI i), (0, aR 15 (some (6 + k))), (3, aI to), (4, aI b)] 7 [] (fsIxL k b to n i) := by
  intro n
  induction n with
  | zero => intro i; exact x_none
  | succ n ih =>
    intro i
    unfold fsIxL
    refine x_iload (pc := 7) 5 dJ1_indexOfChar_4cfef_7 rfl ?_
    refine x_iload_n (pc := 9) 3 dJ1_indexOfChar_4cfef_9 rfl rfl ?_
    refine x_icmp_ge (pc := 10) 31 dJ1_indexOfChar_4cfef_10 rfl (fun _ => ?_) (fun _ => ?_)
    · refine x_iconst (pc := 31) (-1) dJ1_indexOfChar_4cfef_31 rfl ?_
      exact x_iret (rm := rS0) (pc := 32) rfl rfl dJ1_indexOfChar_4cfef_32
    · refine x_aload_n (pc := 13) 0 dJ1_indexOfChar_4cfef_13 rfl rfl ?_
      refine x_iload (pc := 14) 5 dJ1_indexOfChar_4cfef_14 rfl ?_
      refine x_sbld (pc := 16) hk dJ1_indexOfChar_4cfef_16 (fun m => ?_)
      refine x_iload (pc := 17) 4 dJ1_indexOfChar_4cfef_17 rfl ?_
      refine x_icmp_ne (pc := 19) 25 dJ1_indexOfChar_4cfef_19 rfl (fun _ => ?_) (fun _ => ?_)
      · refine x_iinc (pc := 25) (c := 1) 5 0 dJ1_indexOfChar_4cfef_25 rfl rfl (by decide) rfl ?_
        refine x_goto (pc := 28) 7 dJ1_indexOfChar_4cfef_28 (by decide) ?_
        exact ih (i + 1)
      · refine x_iload (pc := 22) 5 dJ1_indexOfChar_4cfef_22 rfl ?_
        exact x_iret (rm := rS0) (pc := 24) rfl rfl dJ1_indexOfChar_4cfef_24
theorem c_indexOfChar (l : Launch) (q : Bool) (k : Nat) (hk : k < 5) (c fr to : Int32) (σ : zSt) : zMet l yJ1_indexOfChar_4cfef cJ1_indexOfChar_4cfef 6 (some .int) rS0 q eI [aR 15 (some (6 + k)), aI c, aI fr, aI to] σ (zro (fsIxL k c.toInt8.toInt32 to zfuel fr) σ) :=
  zMet_ofR (ini := false) [(0, aR 15 (some (6 + k))), (1, aI c), (2, aI fr), (3, aI to)] (by decide +kernel) (fun h => by cases h) (Nat.le_of_ble_eq_true rfl) rfl fun E _ => by
    refine x_iload_n (pc := 0) 1 dJ1_indexOfChar_4cfef_0 rfl rfl ?_
    refine x_i2b (pc := 1) dJ1_indexOfChar_4cfef_1 ?_
    refine x_istore (pc := 2) (als' := [(4, aI c.toInt8.toInt32), (0, aR 15 (some (6 + k))), (1, aI c), (2, aI fr), (3, aI to)]) 4 dJ1_indexOfChar_4cfef_2 (by decide) rfl ?_
    refine x_iload_n (pc := 4) 2 dJ1_indexOfChar_4cfef_4 rfl rfl ?_
    refine x_istore (pc := 5) (als' := [(5, aI fr), (4, aI c.toInt8.toInt32), (0, aR 15 (some (6 + k))), (1, aI c), (2, aI fr), (3, aI to)]) 5 dJ1_indexOfChar_4cfef_5 (by decide) rfl ?_
    exact x_sub [0, 2, 5, 1] rfl (xl_ix E q hk _ to σ zfuel fr)
theorem c_L1indexOf (l : Launch) (q : Bool) (k : Nat) (hk : k < 5) (c fr to : Int32) (σ : zSt) : zMet l yJ1_indexOf_4cfef cJ1_indexOf_4cfef 4 (some .int) rS2 q eI [aR 15 (some (6 + k)), aI c, aI fr, aI to] σ (zro (fsL1 k c fr to) σ) :=
  zMet_ofR (ini := false) [(0, aR 15 (some (6 + k))), (1, aI c), (2, aI fr), (3, aI to)] (by decide +kernel) (fun h => by cases h) (Nat.le_of_ble_eq_true rfl) rfl fun E _ => by
    unfold fsL1
    refine x_iload_n (pc := 0) 1 dJ1_indexOf_4cfef_0 rfl rfl ?_
    refine x_callSr (pc := 1) (as := [aI c]) (rest := []) (fun l => c_canEncode l q c σ) md_J1_canEncode_9a6ad tk_866 tk_865 dJ1_indexOf_4cfef_1 rfl ⟨by decide, by decide, by decide, by decide⟩ ⟨fun h => h, fun h => Or.inl h⟩ rfl (Nat.le_of_ble_eq_true rfl) (fun r => ?_)
    refine x_if_ne (pc := 4) 9 dJ1_indexOf_4cfef_4 rfl (fun _ => ?_) (fun _ => ?_)
    · refine x_iload_n (pc := 9) 2 dJ1_indexOf_4cfef_9 rfl rfl ?_
      refine x_iconst (pc := 10) 0 dJ1_indexOf_4cfef_10 rfl ?_
      refine x_zmax (pc := 11) (rest := []) tk_868 tk_744 tk_14 tk_745 dJ1_indexOf_4cfef_11 ⟨by decide, by decide, by decide, by decide⟩ (Nat.le_of_ble_eq_true rfl) ?_
      refine x_istore_n (pc := 14) (als' := [(2, aI (zmax fr 0)), (0, aR 15 (some (6 + k))), (1, aI c), (3, aI to)]) 2 dJ1_indexOf_4cfef_14 rfl (by decide) rfl ?_
      refine x_iload_n (pc := 15) 3 dJ1_indexOf_4cfef_15 rfl rfl ?_
      refine x_aload_n (pc := 16) 0 dJ1_indexOf_4cfef_16 rfl rfl ?_
      refine x_slen (pc := 17) hk dJ1_indexOf_4cfef_17 ?_
      refine x_zmin (pc := 18) (rest := []) tk_869 tk_741 tk_14 tk_742 dJ1_indexOf_4cfef_18 ⟨by decide, by decide, by decide, by decide⟩ (Nat.le_of_ble_eq_true rfl) ?_
      refine x_istore_n (pc := 21) (als' := [(3, aI (zmin to (nI (zslen.getD k 0)))), (2, aI (zmax fr 0)), (0, aR 15 (some (6 + k))), (1, aI c)]) 3 dJ1_indexOf_4cfef_21 rfl (by decide) rfl ?_
      refine x_iload_n (pc := 22) 2 dJ1_indexOf_4cfef_22 rfl rfl ?_
      refine x_iload_n (pc := 23) 3 dJ1_indexOf_4cfef_23 rfl rfl ?_
      refine x_icmp_lt (pc := 24) 29 dJ1_indexOf_4cfef_24 rfl (fun _ => ?_) (fun _ => ?_)
      · refine x_aload_n (pc := 29) 0 dJ1_indexOf_4cfef_29 rfl rfl ?_
        refine x_iload_n (pc := 30) 1 dJ1_indexOf_4cfef_30 rfl rfl ?_
        refine x_iload_n (pc := 31) 2 dJ1_indexOf_4cfef_31 rfl rfl ?_
        refine x_iload_n (pc := 32) 3 dJ1_indexOf_4cfef_32 rfl rfl ?_
        refine x_callSr (pc := 33) (as := [aR 15 (some (6 + k)), aI c, aI (zmax fr 0), aI (zmin to (nI (zslen.getD k 0)))]) (rest := []) (fun l => c_indexOfChar l q k hk c _ _ σ) md_J1_indexOfChar_4cfef tk_871 tk_870 dJ1_indexOf_4cfef_33 rfl ⟨by decide, by decide, by decide, by decide⟩ ⟨fun h => h, fun h => Or.inl h⟩ rfl (Nat.le_of_ble_eq_true rfl) (fun r => ?_)
        exact x_iret (rm := rS2) (pc := 36) rfl rfl dJ1_indexOf_4cfef_36
      · refine x_iconst (pc := 27) (-1) dJ1_indexOf_4cfef_27 rfl ?_
        exact x_iret (rm := rS2) (pc := 28) rfl rfl dJ1_indexOf_4cfef_28
    · refine x_iconst (pc := 7) (-1) dJ1_indexOf_4cfef_7 rfl ?_
      exact x_iret (rm := rS2) (pc := 8) rfl rfl dJ1_indexOf_4cfef_8
theorem c_indexOfII (l : Launch) (q : Bool) (k : Nat) (hk : k < 5) (c fr : Int32) (σ : zSt) : zMet l yJ0_indexOf_7cf53 cJ0_indexOf_7cf53 3 (some .int) rS3 q eI [aR 15 (some k), aI c, aI fr] σ (zro (fsII k c fr) σ) :=
  zMet_ofR (ini := false) [(0, aR 15 (some k)), (1, aI c), (2, aI fr)] (by decide +kernel) (fun h => by cases h) (Nat.le_of_ble_eq_true rfl) rfl fun E _ => by
    unfold fsII
    refine x_aload_n (pc := 0) 0 dJ0_indexOf_7cf53_0 rfl rfl ?_
    refine x_callTr (pc := 1) (as := []) (rest := []) (fun l => c_isLatin1 l q k hk σ) md_J0_isLatin1_aae02 rfl hk rfl tk_849 tk_850 tk_848 dJ0_indexOf_7cf53_1 rfl ⟨by decide, by decide, by decide, by decide⟩ ⟨fun h => h, fun h => Or.inl h⟩ rfl (Nat.le_of_ble_eq_true rfl) (fun r => ?_)
    refine x_if_eq (pc := 4) 23 dJ0_indexOf_7cf53_4 rfl (fun _ => x_none) (fun _ => ?_)
    refine x_aload_n (pc := 7) 0 dJ0_indexOf_7cf53_7 rfl rfl ?_
    refine x_sval (pc := 8) hk tk_1853 dJ0_indexOf_7cf53_8 ?_
    refine x_iload_n (pc := 11) 1 dJ0_indexOf_7cf53_11 rfl rfl ?_
    refine x_iload_n (pc := 12) 2 dJ0_indexOf_7cf53_12 rfl rfl ?_
    refine x_aload_n (pc := 13) 0 dJ0_indexOf_7cf53_13 rfl rfl ?_
    refine x_callTr (pc := 14) (as := []) (rest := [aI fr, aI c, aR 15 (some (6 + k))]) (fun l => c_length l q k hk σ) md_J0_length_8abf5 rfl hk rfl tk_855 tk_856 tk_854 dJ0_indexOf_7cf53_14 rfl ⟨by decide, by decide, by decide, by decide⟩ ⟨fun h => h, fun h => Or.inl h⟩ rfl (Nat.le_of_ble_eq_true rfl) (fun n => ?_)
    refine x_callSr (pc := 17) (as := [aR 15 (some (6 + k)), aI c, aI fr, aI n]) (rest := []) (fun l => c_L1indexOf l q k hk c fr n σ) md_J1_indexOf_4cfef tk_863 tk_862 dJ0_indexOf_7cf53_17 rfl ⟨by decide, by decide, by decide, by decide⟩ ⟨fun h => h, fun h => Or.inl h⟩ rfl (Nat.le_of_ble_eq_true rfl) (fun r => ?_)
    refine x_goto (pc := 20) 36 dJ0_indexOf_7cf53_20 (by decide) ?_
    exact x_iret (rm := rS3) (pc := 36) rfl rfl dJ0_indexOf_7cf53_36
theorem c_indexOfI (l : Launch) (q : Bool) (k : Nat) (hk : k < 5) (v1 : Int32) (σ : zSt) : zMet l yJ0_indexOf_0f7a4 cJ0_indexOf_0f7a4 2 (some .int) rJ0_indexOf_0f7a4 q eI [aR 15 (some k), aI v1] σ (zro (zc1 (fsII k v1 0) fun r => some r) σ) :=
  zMet_ofR (ini := false) [(0, aR 15 (some k)), (1, aI v1)] (by decide +kernel) (fun h => by cases h) (Nat.le_of_ble_eq_true rfl) rfl fun E _ => by
    refine x_aload_n (pc := 0) 0 dJ0_indexOf_0f7a4_0 rfl rfl ?_
    refine x_iload_n (pc := 1) 1 dJ0_indexOf_0f7a4_1 rfl rfl ?_
    refine x_iconst (pc := 2) 0 dJ0_indexOf_0f7a4_2 rfl ?_
    refine x_widen (kc' := 0) (ks' := 0) (Nat.le_refl _) (Nat.le_refl _) ?_
    refine x_callTr (pc := 3) (as := [aI v1, aI 0]) (rest := []) (fun l => c_indexOfII l q k hk v1 0 σ) md_J0_indexOf_7cf53 rfl hk rfl tk_845 tk_846 tk_844 dJ0_indexOf_0f7a4_3 rfl ⟨by decide, by decide, by decide, by decide⟩ ⟨fun h => h, fun h => Or.inl h⟩ rfl (Nat.le_of_ble_eq_true rfl) (fun r => ?_)
    exact x_iret (rm := rJ0_indexOf_0f7a4) (pc := 6) rfl rfl dJ0_indexOf_0f7a4_6
theorem zidx_no {c : Int32} : ∀ (l : List Int32) (n : Nat), (∀ x ∈ l, ¬ x = c) → zidx l c n = -1
  | [], _, _ => rfl
  | b :: l, n, h => by
    rw [zidx, if_neg (h b List.mem_cons_self)]
    exact zidx_no l (n + 1) fun x hx => h x (List.mem_cons_of_mem _ hx)
theorem str_f : ∀ k, k < 5 → zslen.getD k 0 = (zsbyt.getD k []).length ∧ 0 < zslen.getD k 0 ∧ zslen.getD k 0 < 10 ∧ zop_ishr (nI (zslen.getD k 0)) 0 = nI (zslen.getD k 0) ∧ (0 : Int32) < nI (zslen.getD k 0) ∧ ∀ x ∈ zsbyt.getD k [], x ≤ 255 := by decide +kernel
theorem str_b : ∀ k, k < 5 → ∀ n, n < 256 → ∀ x ∈ zsbyt.getD k [], (x = (nI n).toInt8.toInt32 ↔ x = nI n) := by decide +kernel
theorem fs_loop {k : Nat} (hk : k < 5) {b c : Int32} (hb : ∀ x ∈ zsbyt.getD k [], (x = b ↔ x = c)) : ∀ e i m, i + e = zslen.getD k 0 → e < m → fsIxL k b (nI (zslen.getD k 0)) m (nI i) = some (zidx ((zsbyt.getD k []).drop i) c i) := by
  obtain ⟨s1, s2, s3, s4, s5, s6⟩ := str_f k hk
  intro e
  induction e with
  | zero =>
    intro i m hi hm
    obtain ⟨m, rfl⟩ : ∃ r, m = r + 1 := ⟨m - 1, by omega⟩
    rw [show i = zslen.getD k 0 by omega, fsIxL, if_pos (Int32.le_iff_toInt_le.mpr (Int.le_refl _)), s1, List.drop_length]
    rfl
  | succ e ih =>
    intro i m hi hm
    obtain ⟨m, rfl⟩ : ∃ r, m = r + 1 := ⟨m - 1, by omega⟩
    have hlt : i < (zsbyt.getD k []).length := by omega
    have ti : (nI i).toInt = i := Int32.toInt_ofNat_of_lt (by omega)
    have tl : (nI (zslen.getD k 0)).toInt = zslen.getD k 0 := Int32.toInt_ofNat_of_lt (by omega)
    have n1 : ¬ nI (zslen.getD k 0) ≤ nI i := fun h => by
      have := Int32.le_iff_toInt_le.mp h
      omega
    have n2 : ¬ (nI i < 0 ∨ zslen.getD k 0 ≤ (nI i).toNatClampNeg) := fun h => by
      rw [nI_clamp (by omega)] at h
      rcases h with h | h
      · exact nI_pos (by omega) h
      · omega
    have n3 : nI i + 1 = nI (i + 1) := (Int32.ofNat_add i 1).symm
    have eg : (zsbyt.getD k []).getD i 0 = (zsbyt.getD k [])[i] := by
      rw [List.getD_eq_getElem?_getD, List.getElem?_eq_getElem hlt]
      rfl
    rw [fsIxL, if_neg n1]
    unfold zix
    rw [if_neg n2, nI_clamp (by omega)]
    show (if (zsbyt.getD k []).getD i 0 = b then some (nI i) else fsIxL k b (nI (zslen.getD k 0)) m (nI i + 1)) = _
    rw [List.drop_eq_getElem_cons hlt, zidx, eg, n3, ih (i + 1) m (by omega) (by omega)]
    have hx := hb _ (List.getElem_mem hlt)
    by_cases c1 : (zsbyt.getD k [])[i] = b
    · rw [if_pos c1, if_pos (hx.mp c1)]
    · rw [if_neg c1, if_neg (fun h => c1 (hx.mpr h))]
theorem zc1_t {α β : Type} (r : α) (k : α → Option β) : zc1 (some r) k = k r := rfl
theorem fs_eq {k : Nat} (hk : k < 5) {v1 r : Int32} {σ : zSt} (h : fJ0_indexOf_0f7a4 k v1 σ = some r) : (zc1 (fsII k v1 0) fun r => some r) = some r := by
  obtain ⟨s1, s2, s3, s4, s5, s6⟩ := str_f k hk
  unfold fJ0_indexOf_0f7a4 at h
  by_cases c : v1 < 0 ∨ 65535 < v1
  · rw [if_pos c] at h; cases h
  rw [if_neg c] at h
  rw [← h]
  have hn : ¬ v1 < 0 := fun hh => c (Or.inl hh)
  have e1 : fsII k v1 0 = fsL1 k v1 0 (nI (zslen.getD k 0)) := by
    unfold fsII fsLen
    show (zc1 (fsL1 k v1 0 (zop_ishr (nI (zslen.getD k 0)) 0)) fun r => some r) = _
    rw [s4]
    cases fsL1 k v1 0 (nI (zslen.getD k 0)) <;> rfl
  have e2 : fsL1 k v1 0 (nI (zslen.getD k 0)) = some (zidx (zsbyt.getD k []) v1 0) := by
    unfold fsL1 fsCan
    rw [if_neg hn]
    by_cases c2 : 255 < v1
    · rw [if_pos c2]
      rw [zc1_t, if_pos rfl, zidx_no _ 0 fun x hx e => by
        have h1 := s6 x hx
        rw [e] at h1
        exact absurd c2 (Int32.not_lt.mpr h1)]
    · rw [if_neg c2]
      rw [zc1_t]
      have m0 : zmax 0 0 = 0 := by decide
      have m1 : zmin (nI (zslen.getD k 0)) (nI (zslen.getD k 0)) = nI (zslen.getD k 0) := by
        unfold zmin
        split <;> rfl
      rw [if_neg (by decide), m0, m1, if_pos s5]
      obtain ⟨n, hn2, rfl⟩ : ∃ n : Nat, n < 256 ∧ v1 = nI n := by
        have h1 : (0 : Int) ≤ v1.toInt := by
          have := Int32.not_lt.mp hn
          simpa using Int32.le_iff_toInt_le.mp this
        have h2 : v1.toInt ≤ 255 := by
          have := Int32.le_iff_toInt_le.mp (Int32.not_lt.mp c2)
          simpa using this
        refine ⟨v1.toInt.toNat, by omega, ?_⟩
        apply Int32.toInt_inj.mp
        rw [show (nI v1.toInt.toNat).toInt = ((v1.toInt.toNat : Nat) : Int) from Int32.toInt_ofNat_of_lt (by omega)]
        omega
      have := fs_loop hk (str_b k hk n hn2) (zslen.getD k 0) 0 zfuel (by omega) (by unfold zfuel; omega)
      rw [List.drop_zero] at this
      rw [show (0 : Int32) = nI 0 from rfl, this]
      rfl
  rw [e1, e2]
  rfl
theorem c_J0_indexOf_0f7a4 (l : Launch) (q : Bool) (k : Nat) (hk : k < 5) (v1 : Int32) (σ : zSt) : zMet l yJ0_indexOf_0f7a4 cJ0_indexOf_0f7a4 2 (some .int) rJ0_indexOf_0f7a4 q eI [aR 15 (some k), aI v1] σ (zro (fJ0_indexOf_0f7a4 k v1 σ) σ) := by
  intro Ω adr r σ' hF hq hv
  refine c_indexOfI l q k hk v1 σ Ω adr r σ' ?_ hq hv
  cases hf : fJ0_indexOf_0f7a4 k v1 σ with
  | none => rw [hf] at hF; cases hF
  | some r1 =>
    rw [hf] at hF
    rw [fs_eq hk (σ := σ) hf]
    exact hF
