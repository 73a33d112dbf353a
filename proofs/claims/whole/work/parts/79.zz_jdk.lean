section XJ2
variable {E : zEn} {cc : ByteArray} {μ : zMu} {q : Bool} {ρ : Type} {Qf : ρ → State → Prop} {kc ks : Nat} {σ : zSt} {als als' : List (Nat × zAV)} {pc : Nat} {ast : List zAV} {f f1 f2 : Option ρ} {rm : Room}
theorem arrV_cg {cA : ClassId} {n : Nat} {F F' : Nat → Value} (h : ∀ j, j < n → F j = F' j) : arrV cA n F = arrV cA n F' := by
  unfold arrV
  congr 1
  exact congrArg Array.ofFn (funext fun j => h j.val j.isLt)
/-- one cell more, not empty -/
theorem zRep_more {Ω : zOm} {σ σ1 : zSt} {adr : zadr} {H1 : Heap} {G : List (Nat × Nat)} {t a : Nat} (hn : zU G) (hG : ∀ t i, (t, i) ∈ G ↔ i < gN σ t) (hV : zVal σ) (h15 : gN σ 15 = 0) (h5 : ∀ i, i < 6 → adr 15 i = oK Ω i) (ht : t ≠ 15)
    (gNe : ∀ x, gN σ1 x = if x = t then gN σ t + 1 else gN σ x) (gIe : ∀ x i, ¬ (x = t ∧ i = gN σ t) → ∀ k, gI σ1 x i k = gI σ x i k) (gLe : ∀ x i, ¬ (x = t ∧ i = gN σ t) → ∀ k, gL σ1 x i k = gL σ x i k) (gRe : ∀ x i k, gR σ1 x i k = if x = t ∧ i = gN σ t then none else gR σ x i k) (gZe : ∀ x i, ¬ (x = t ∧ i = gN σ t) → gZ σ1 x i = gZ σ x i)
    {e : va_E} (he : e = zcell Ω σ1 (zadr1 adr σ t a) t (gN σ t)) (hP : va_P (oD Ω) zcl (zws Ω σ adr G ++ [(a, e)]) H1) (hD : va_D (zA (oB Ω)) (zws Ω σ adr G ++ [(a, e)])) (hB : oB Ω ≤ H1.size) :
    zRep Ω σ1 (zadr1 adr σ t a) H1 ∧ zExt σ adr σ1 (zadr1 adr σ t a) := by
  have hext : zExt σ adr σ1 (zadr1 adr σ t a) := fun t' => ⟨by
    rw [gNe]
    by_cases h : t' = t
    · subst h; rw [if_pos rfl]; omega
    · rw [if_neg h]; exact Nat.le_refl _, fun i hi => by
    unfold zadr1
    rw [if_neg]
    rintro ⟨rfl, rfl⟩
    exact Nat.lt_irrefl _ hi⟩
  have hnot : (t, gN σ t) ∉ G := fun h => Nat.lt_irrefl _ ((hG _ _).mp h)
  have hw : zws Ω σ1 (zadr1 adr σ t a) (G ++ [(t, gN σ t)]) = zws Ω σ adr G ++ [(a, e)] := by
    unfold zws
    rw [List.map_append]
    congr 1
    · refine List.map_congr_left fun p hp => ?_
      obtain ⟨t', i'⟩ := p
      have hi := (hG t' i').mp hp
      have hne : ¬ (t' = t ∧ i' = gN σ t) := by
        rintro ⟨rfl, rfl⟩
        exact Nat.lt_irrefl _ hi
      have h1 : zadr1 adr σ t a t' i' = adr t' i' := (hext t').2 i' hi
      show (zadr1 adr σ t a t' i', zcell Ω σ1 (zadr1 adr σ t a) t' i') = (adr t' i', zcell Ω σ adr t' i')
      rw [h1, zcell_congr (σ := σ) (adr := adr) (gIe t' i' hne) (gLe t' i' hne) (fun k => by rw [gRe, if_neg hne]) (gZe t' i' hne) (fun k g j hg hR => (hext g).2 j (hV t' i' k g j hi hg hR))]
    · rw [List.map_cons, List.map_nil, he]
      congr 2
      unfold zadr1
      rw [if_pos ⟨rfl, rfl⟩]
  refine ⟨⟨G ++ [(t, gN σ t)], ?_, ?_, by rw [hw]; exact hP, by rw [hw]; exact hD, ?_, hB, ?_, ?_⟩, hext⟩
  · intro x y p hx hy
    by_cases h1 : x < G.length <;> by_cases h2 : y < G.length
    · rw [List.getElem?_append_left h1] at hx
      rw [List.getElem?_append_left h2] at hy
      exact hn x y p hx hy
    · exfalso
      rw [List.getElem?_append_left h1] at hx
      rw [List.getElem?_append_right (by omega)] at hy
      have := List.mem_of_getElem? hy
      rw [List.mem_singleton] at this
      subst this
      exact hnot (List.mem_of_getElem? hx)
    · exfalso
      rw [List.getElem?_append_left h2] at hy
      rw [List.getElem?_append_right (by omega)] at hx
      have := List.mem_of_getElem? hx
      rw [List.mem_singleton] at this
      subst this
      exact hnot (List.mem_of_getElem? hy)
    · rw [List.getElem?_append_right (by omega)] at hx hy
      have h3 : x - G.length < 1 := (List.getElem?_eq_some_iff.mp hx).1
      have h4 : y - G.length < 1 := (List.getElem?_eq_some_iff.mp hy).1
      omega
  · intro t' i'
    rw [List.mem_append, List.mem_singleton, hG, gNe, Prod.mk.injEq]
    by_cases h : t' = t
    · subst h
      rw [if_pos rfl]
      constructor
      · rintro (h | ⟨-, rfl⟩) <;> omega
      · intro h
        by_cases h2 : i' < gN σ t'
        · exact Or.inl h2
        · exact Or.inr ⟨rfl, by omega⟩
    · rw [if_neg h]
      exact ⟨fun h' => h'.elim id (fun z => absurd z.1 h), Or.inl⟩
  · intro t' i' k g j hi hg hR
    rw [gRe] at hR
    by_cases h : t' = t ∧ i' = gN σ t
    · rw [if_pos h] at hR; cases hR
    · rw [if_neg h] at hR
      refine Nat.lt_of_lt_of_le (hV t' i' k g j ?_ hg hR) (hext g).1
      rw [gNe] at hi
      by_cases h2 : t' = t
      · subst h2
        rw [if_pos rfl] at hi
        have : i' ≠ gN σ t' := fun z => h ⟨rfl, z⟩
        omega
      · rw [if_neg h2] at hi; exact hi
  · rw [gNe, if_neg (Ne.symm ht)]; exact h15
  · intro i hi
    unfold zadr1
    rw [if_neg fun z => ht z.1.symm]
    exact h5 i hi
/-- the clone of the tape, cast -/
theorem x_cloneV {i0 idx idx2 : Nat} (hlink : Cond.methodLink μ.1 idx ⟨"[I", "clone", "()Ljava/lang/Object;"⟩ ∈ tblG) (hnat : Cond.native ⟨"java/lang/Object", "clone", "()Ljava/lang/Object;"⟩ ∈ tblG) (hinst : Cond.instanceMethod ⟨"java/lang/Object", "clone", "()Ljava/lang/Object;"⟩ ∈ tblG) (hsel : Cond.selects "[I" ⟨"[I", "clone", "()Ljava/lang/Object;"⟩ ⟨"java/lang/Object", "clone", "()Ljava/lang/Object;"⟩ ∈ tblG) (hcl : Cond.classLink μ.1 idx2 "[I" ∈ tblG)
    (hdg : decode cc pc = .ok (.invokevirtual idx, 3)) (hdg2 : decode cc (pc + 3) = .ok (.checkcast idx2, 3)) (hq0 : q = false) (hroom : 1 ≤ μ.2.2.2.1.frames ∧ zcats ast + 14 ≤ μ.2.2.2.1.locals ∧ kc + 1 ≤ μ.2.2.2.1.cells ∧ ks + 160 ≤ μ.2.2.2.1.slots)
    (kk : X E cc μ q Qf (kc + 1) (ks + 160) (ztx σ i0 160) als (pc + 6) (aR 1100 (some (gN σ 1100)) :: ast) f) : X E cc μ q Qf kc ks σ als pc (aR 1210 (some i0) :: ast) f := by
  intro r hf hA hq adr H locs ls hR hE hS hl hs hls
  obtain ⟨G, hu, hG, hP, hD, hV, hB, h15, hK5⟩ := hR
  have h0 : i0 < gN σ 1210 := gN_of (by decide) hs.hd
  have k11 : zak 1100 = 0 := by decide +kernel
  have k12 : zak 1210 = 0 := by decide +kernel
  have l12 : zal 1210 = 160 := by decide +kernel
  obtain ⟨k0, hk0', hk0⟩ := zws_get (Ω := E.2.1) (σ := σ) (adr := adr) ((hG 1210 i0).mpr h0)
  rw [zcell_I (by decide) (by rw [k12]; decide), k12, show zlen σ 1210 i0 = 160 from by unfold zlen; rw [if_neg (by decide), l12]] at hk0
  have key : ∀ (a : Nat) (H1 : Heap), va_P (oD E.2.1) zcl (zws E.2.1 σ adr G ++ [(a, .inl (oC E.2.1 0, (160, .inl (gI σ 1210 i0))))]) H1 → va_D (zA (oB E.2.1)) (zws E.2.1 σ adr G ++ [(a, .inl (oC E.2.1 0, (160, .inl (gI σ 1210 i0))))]) → va_S (zA (oB E.2.1)) (zsh E.1) H1 locs → oB E.2.1 ≤ (zsh E.1).size → zWW E.1 H1 locs (kc + 1) (ks + 160) (Qf r) (pc + 6) ls (.ref a :: ast.map (zcv adr)) := by
    intro a H1 p1 d1 s1 hb
    have cellE : zcell E.2.1 (ztx σ i0 160) (zadr1 adr σ 1100 a) 1100 (gN σ 1100) = .inl (oC E.2.1 0, (160, .inl (gI (ztx σ i0 160) 1100 (gN σ 1100)))) := by
      rw [zcell_I (by decide) (by rw [k11]; decide), k11, show zlen (ztx σ i0 160) 1100 (gN σ 1100) = 160 from by
        unfold zlen
        rw [if_pos rfl]
        show gZ (nw σ 1100 160) 1100 (gN σ 1100) = 160
        rw [gZ_nw, if_pos ⟨rfl, rfl⟩]]
    have cellG : vp_cell (oC E.2.1 0) (160, .inl (gI σ 1210 i0)) = vp_cell (oC E.2.1 0) (160, .inl (gI (ztx σ i0 160) 1100 (gN σ 1100))) := by
      rw [vp_cell_i, vp_cell_i]
      refine arrV_cg fun j hj => ?_
      show Value.int (gI σ 1210 i0 j) = Value.int (if (1100 : Nat) = 1100 ∧ gN σ 1100 = gN σ 1100 ∧ j < 160 then gI σ 1210 i0 j else gI (nw σ 1100 160) 1100 (gN σ 1100) j)
      rw [if_pos ⟨rfl, rfl, hj⟩]
    have at' : ∀ (k : Nat) (x : Nat × va_E), (zws E.2.1 σ adr G ++ [(a, .inl (oC E.2.1 0, (160, .inl (gI (ztx σ i0 160) 1100 (gN σ 1100)))))])[k]? = some x → (k < (zws E.2.1 σ adr G).length ∧ (zws E.2.1 σ adr G ++ [(a, .inl (oC E.2.1 0, (160, .inl (gI σ 1210 i0))))])[k]? = some x) ∨ (x = (a, .inl (oC E.2.1 0, (160, .inl (gI (ztx σ i0 160) 1100 (gN σ 1100))))) ∧ (zws E.2.1 σ adr G ++ [(a, .inl (oC E.2.1 0, (160, .inl (gI σ 1210 i0))))])[k]? = some (a, .inl (oC E.2.1 0, (160, .inl (gI σ 1210 i0))))) := fun k x hx => by
      by_cases c : k < (zws E.2.1 σ adr G).length
      · rw [List.getElem?_append_left c] at hx
        exact Or.inl ⟨c, by rw [List.getElem?_append_left c]; exact hx⟩
      · rw [List.getElem?_append_right (by omega)] at hx
        have h3 : k - (zws E.2.1 σ adr G).length < 1 := (List.getElem?_eq_some_iff.mp hx).1
        have h4 : k - (zws E.2.1 σ adr G).length = 0 := by omega
        rw [h4] at hx
        refine Or.inr ⟨(Option.some.inj hx).symm, ?_⟩
        rw [List.getElem?_append_right (by omega), h4]
        rfl
    have p2 : va_P (oD E.2.1) zcl (zws E.2.1 σ adr G ++ [(a, .inl (oC E.2.1 0, (160, .inl (gI (ztx σ i0 160) 1100 (gN σ 1100)))))]) H1 := fun k x hx => by
      rcases at' k x hx with ⟨-, h⟩ | ⟨rfl, h⟩
      · exact p1 k x h
      · have := p1 k _ h
        show H1[a]? = some (vp_cell (oC E.2.1 0) (160, .inl (gI (ztx σ i0 160) 1100 (gN σ 1100))))
        rw [← cellG]
        exact this
    have d2 : va_D (zA (oB E.2.1)) (zws E.2.1 σ adr G ++ [(a, .inl (oC E.2.1 0, (160, .inl (gI (ztx σ i0 160) 1100 (gN σ 1100)))))]) := by
      refine ⟨fun i j x y hx hy e => ?_, fun k x hx => ?_⟩
      · rcases at' i x hx with ⟨-, h⟩ | ⟨rfl, h⟩ <;> rcases at' j y hy with ⟨-, h'⟩ | ⟨rfl, h'⟩
        · exact d1.1 i j _ _ h h' e
        · exact d1.1 i j _ _ h h' e
        · exact d1.1 i j _ _ h h' e
        · exact d1.1 i j _ _ h h' e
      · rcases at' k x hx with ⟨-, h⟩ | ⟨rfl, h⟩
        · exact d1.2 k _ h
        · have := d1.2 k _ h
          exact this
    obtain ⟨hR1, hx⟩ := zRep_more (σ1 := ztx σ i0 160) hu hG hV h15 hK5 (t := 1100) (by decide) (fun x => gN_nw σ 1100 160 x) (fun x i hne k => by
      show (if x = 1100 ∧ i = gN σ 1100 ∧ k < 160 then gI σ 1210 i0 k else gI (nw σ 1100 160) x i k) = gI σ x i k
      rw [if_neg (fun hh => hne ⟨hh.1, hh.2.1⟩), gI_nw, if_neg hne]) (fun x i hne k => by
      show gL (nw σ 1100 160) x i k = gL σ x i k
      rw [gL_nw, if_neg hne]) (fun x i k => gR_nw σ 1100 160 x i k) (fun x i hne => by
      show gZ (nw σ 1100 160) x i = gZ σ x i
      rw [gZ_nw, if_neg hne]) cellE.symm p2 d2 (Nat.le_trans hb s1.1)
    obtain ⟨G1, -, -, -, -, -, -, -, hK5'⟩ := id hR1
    have hm := zmapl_ext hx hK5 hK5' hl
    have hms := zmap_ext hx hK5 hK5' hs.tl
    have kk := kk r hf hA (fun h => by rw [hq0] at h; cases h) (zadr1 adr σ 1100 a) H1 locs ls hR1 (hE.trans hx) s1 (zvl_N (fun t => (hx t).1) hl) (zvs.cons (gM_of (by show gN (nw σ 1100 160) 15 = 0; rw [gN_nw, if_neg (by decide)]; exact h15) (by show gN σ 1100 < gN (nw σ 1100 160) 1100; rw [gN_nw, if_pos rfl]; omega)) (zvs_N (fun t => (hx t).1) hs.tl)) (by rw [hm]; exact hls)
    rw [List.map_cons, hms] at kk
    have e1 : zcv (zadr1 adr σ 1100 a) (aR 1100 (some (gN σ 1100))) = .ref a := by
      show va_rf (some (zadr1 adr σ 1100 a 1100 (gN σ 1100))) = _
      unfold zadr1
      rw [if_pos ⟨rfl, rfl⟩]
      rfl
    rw [e1] at kk
    exact kk
  obtain ⟨⟨p, l, e, R, s, m, args, below, meth, c⟩, E2⟩ := E
  obtain ⟨hx, hb, hml, hown, hts, hlk, hrt, hini', hRm, hK, hb0, hSp⟩ := hA
  subst hRm
  have hnm : s.vm.findClass "[I" = some (oC E2.1 0) := va_nm_int (hK.2 0 _ (ztys_at _ (by decide))).2
  refine va_clone hx hb (by rw [hml]; exact hls.1.symm) hown (hts _ hlink) (va_Nw.use rfl hSp.2.2.2.2.2.2) (hts _ hnat) (hts _ hinst) (hts _ hsel) hSp.2.2.2.2.2.1 hK hP hD hS (fun q hq => Nat.le_trans hb0 hq) k0 0 hk0 (ztys_at _ (by decide)) hnm (fun i v hv => va_fit (cA := oC E2.1 0) (n := 160) (F := fun j => Value.int (gI σ 1210 i0 j)) (ty := .int) (fun _ _ => rfl) i v hv) hroom.1 (by rw [zcats_eq]; exact hroom.2.1) hroom.2.2.1 hroom.2.2.2 hdg (fun a H1 kk1 p1 d1 s1 => ?_)
  refine va_castE hx hb hown (hts _ hcl) ⟨vp_cell (oC E2.1 0) (160, .inl (gI σ 1210 i0)), ?_, rfl, hnm⟩ hdg2 ?_
  · exact p1 (zws E2.1 σ adr G).length _ (by rw [List.getElem?_append_right (Nat.le_refl _), Nat.sub_self]; rfl)
  · exact key a H1 p1 d1 s1 hb0
theorem x_aretA {t : Nat} {x : Option Nat} {ty : FieldType} {res : ρ} (hQ : Qf res = zQf E q (eR t) rm x σ) (hr : μ.2.2.1 = some (.array ty)) (hdg : decode cc pc = .ok (.areturn, 1)) : X E cc μ q Qf rm.cells rm.slots σ als pc [aR t x] (some res) := by
  intro r hf hA hq adr H locs ls hR hE hS hl hs hls
  cases hf
  rw [hQ]
  obtain ⟨⟨p, l, e, R, s, m, args, below, meth, c⟩, E2⟩ := E
  exact W.aret (v := zcv adr (aR t x)) hA.1 hA.2.1 (hA.2.2.2.2.2.2.1.trans hr) (Or.inr ⟨ty, rfl⟩) (by cases x with | none => exact Or.inl rfl | some j => exact Or.inr ⟨_, rfl⟩) (fun t ht hW => ⟨⟨adr, rfl, by rw [ht]; exact hR, hE, hs, hq⟩, hS.F ht⟩) hS.2.2 hdg hA.2.2.2.2.2.1
end XJ2
