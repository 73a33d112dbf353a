/-! of the JDK: the machine contracts of Arrays.copyOf and String.indexOf -/
section XJ
variable {E : zEn} {cc : ByteArray} {μ : zMu} {q : Bool} {ρ : Type} {Qf : ρ → State → Prop} {kc ks : Nat} {σ : zSt} {als als' : List (Nat × zAV)} {pc : Nat} {ast : List zAV} {f f1 f2 : Option ρ} {rm : Room}
theorem x_newaV {n : Nat} (hn : n ≤ 160) (hw : Cond.arrayClass .int ∈ tblG) (hdg : decode cc pc = .ok (.newarray .int, 2)) (hq0 : q = false) (hroom : kc + 1 ≤ μ.2.2.2.1.cells ∧ ks + n ≤ μ.2.2.2.1.slots)
    (kk : X E cc μ q Qf (kc + 1) (ks + n) (nw σ 1100 n) als (pc + 2) (aR 1100 (some (gN σ 1100)) :: ast) f) : X E cc μ q Qf kc ks σ als pc (aI (nI n) :: ast) f := by
  intro r hf hA hq adr H locs ls hR hE hS hl hs hls
  obtain ⟨G, hu, hG, hP, hD, hV, hB, h15, hK5⟩ := hR
  have hz : zak 1100 = 0 := by decide +kernel
  have key := fun a H1 e he => x_mka (t := 1100) (n := n) (locs := locs) hu hG hV h15 hK5 (by decide) (Or.inl rfl) hq0 hf hA hE hl hs.tl hls kk a H1 e he
  obtain ⟨⟨p, l, e, R, s, m, args, below, meth, c⟩, E2⟩ := E
  have hb := hA.2.2.2.2.2.2.2.2.2.2.1
  have hR9 := hA.2.2.2.2.2.2.2.2.1
  have hK := hA.2.2.2.2.2.2.2.2.2.1
  refine va_newa (atype := .int) (a0 := (n, .inl fun _ => 0)) hA.1 hA.2.1 (hA.2.2.2.2.1 _ hw) rfl hK hP hD hS (fun q hq => Nat.le_trans hb hq) (fun cA => rfl) (nI_pos (by omega)) (nI_clamp (by omega)) (by show n * 4 ≤ _; omega) (by rw [hR9]; exact hroom.1) (by rw [hR9]; exact hroom.2) hdg (fun a cA H1 k1 p1 d1 s1 => ?_)
  have hc := zarr_id (Ω := E2.1) (tys := []) (k := 0) (by omega) rfl hK k1
  subst hc
  exact key a H1 _ (by rw [hz]; rfl) p1 d1 s1 hb
def zcp (σ : zSt) (i0 i1 n : Nat) : zSt := (fun a b c => if a = 1100 ∧ b = i1 ∧ c < n then gI σ 1210 i0 c else gI σ a b c, σ.2)
theorem gI_zcp (σ : zSt) (i0 i1 n a b c : Nat) : gI (zcp σ i0 i1 n) a b c = if a = 1100 ∧ b = i1 ∧ c < n then gI σ 1210 i0 c else gI σ a b c := rfl
theorem x_cpyV {i0 i1 n idx : Nat} (hn : n ≤ 160) (hz : gZ σ 1100 i1 = n) (hlink : Cond.methodLink μ.1 idx arraycopyName ∈ tblG) (hnat : Cond.native arraycopyName ∈ tblG) (hst : Cond.static arraycopyName ∈ tblG) (hini : Cond.initialized "java/lang/System" ∈ tblG) (hdg : decode cc pc = .ok (.invokestatic idx, 3)) (hroom : 1 ≤ μ.2.2.2.1.frames ∧ zcats ast + (nativeFrameWords "java/lang/System" "arraycopy" 5 + 11) ≤ μ.2.2.2.1.locals)
    (kk : X E cc μ q Qf kc ks (zcp σ i0 i1 n) als (pc + 3) ast f) : X E cc μ q Qf kc ks σ als pc (aI (nI n) :: aI 0 :: aR 1100 (some i1) :: aI 0 :: aR 1210 (some i0) :: ast) f := by
  intro r hf hA hq adr H locs ls hR hE hS hl hs hls
  obtain ⟨G, hu, hG, hP, hD, hV, hB, h15, hK5⟩ := hR
  have h1 : i1 < gN σ 1100 := gN_of (by decide) hs.tl.tl.hd
  have h0 : i0 < gN σ 1210 := gN_of (by decide) hs.tl.tl.tl.tl.hd
  have k11 : zak 1100 = 0 := by decide +kernel
  have k12 : zak 1210 = 0 := by decide +kernel
  have l12 : zal 1210 = 160 := by decide +kernel
  obtain ⟨k1, hk1', hk1⟩ := zws_get (Ω := E.2.1) (σ := σ) (adr := adr) ((hG 1100 i1).mpr h1)
  obtain ⟨k0, hk0', hk0⟩ := zws_get (Ω := E.2.1) (σ := σ) (adr := adr) ((hG 1210 i0).mpr h0)
  rw [zcell_I (by decide) (by rw [k11]; decide), k11, show zlen σ 1100 i1 = n from by unfold zlen; rw [if_pos rfl, hz]] at hk1
  rw [zcell_I (by decide) (by rw [k12]; decide), k12, show zlen σ 1210 i0 = 160 from by unfold zlen; rw [if_neg (by decide), l12]] at hk0
  have hc' : zcell E.2.1 (zcp σ i0 i1 n) adr 1100 i1 = .inl (oC E.2.1 0, n, .inl (va_cpy (gI σ 1210 i0) (gI σ 1100 i1) 0 0 n)) := by
    rw [zcell_I (by decide) (by rw [k11]; decide), k11, show zlen (zcp σ i0 i1 n) 1100 i1 = n from by unfold zlen; rw [if_pos rfl]; exact hz]
    have : gI (zcp σ i0 i1 n) 1100 i1 = va_cpy (gI σ 1210 i0) (gI σ 1100 i1) 0 0 n := by
      funext k
      rw [gI_zcp]
      unfold va_cpy
      by_cases c : k < n
      · rw [if_pos ⟨rfl, rfl, c⟩, if_pos ⟨Nat.zero_le _, by omega⟩, Nat.zero_add, Nat.sub_zero]
      · rw [if_neg (fun hh => c hh.2.2), if_neg (by omega)]
    rw [this]
  have kk := fun H locs hR hS => kk r hf hA hq adr H locs ls hR (zExt_N (fun _ => rfl) hE) hS hl hs.tl.tl.tl.tl.tl hls
  have hrep : ∀ H1, va_P (oD E.2.1) zcl ((zws E.2.1 σ adr G).set k1 (adr 1100 i1, .inl (oC E.2.1 0, n, .inl (va_cpy (gI σ 1210 i0) (gI σ 1100 i1) 0 0 n)))) H1 → va_D (zA (oB E.2.1)) ((zws E.2.1 σ adr G).set k1 (adr 1100 i1, .inl (oC E.2.1 0, n, .inl (va_cpy (gI σ 1210 i0) (gI σ 1100 i1) 0 0 n)))) → oB E.2.1 ≤ H1.size → zRep E.2.1 (zcp σ i0 i1 n) adr H1 := fun H1 a b hB1 =>
    zRep_set hu hG hk1' (fun _ => rfl) hc'.symm (fun t' i' h => zcell_congr (σ := σ) (adr := adr) (fun k => by rw [gI_zcp, if_neg (fun hh => h (by rw [hh.1, hh.2.1]))]) (fun _ => rfl) (fun _ => rfl) rfl (fun _ _ _ _ _ => rfl)) a b hV hB1 h15 hK5
  obtain ⟨⟨p, l, e, R, s, m, args, below, meth, c⟩, E2⟩ := E
  obtain ⟨hx, hb, hml, hown, hts, hlk, hrt, hini', hRm, hK, hb0, hSp⟩ := hA
  subst hRm
  have z0 : (0 : Int32).toNatClampNeg = 0 := rfl
  have zn : (nI n).toNatClampNeg = n := nI_clamp (by omega)
  refine va_copyi hx hb (by rw [hml]; exact hls.1.symm) hown (hts _ hlink) (hts _ hnat) (hts _ hst) (hts _ hini) hK hP hD hS k0 k1 0 0 hk0 hk1 (ztys_at _ (by decide)) (ztys_at _ (by decide)) rfl (by decide) (by decide) (nI_pos (by omega)) (by rw [z0, zn]; omega) (by rw [z0, zn]; omega) (fun _ _ => rfl) hroom.1 (by rw [zcats_eq]; exact hroom.2) hdg (fun H1 locs1 a b c' => ?_)
  rw [z0, zn] at a b
  exact kk H1 locs1 (hrep H1 a b (Nat.le_trans hb0 c'.1)) c'
end XJ
abbrev rJ7_copyOf_59c91 : Room := { frames := 2, cells := 1, slots := 160, locals := 60 }
abbrev rJ0_indexOf_0f7a4 : Room := { frames := 6, cells := 0, slots := 0, locals := 200 }
theorem c_J7_copyOf_59c91 (l : Launch) (h0 : Nat) (v1 : Int32) (σ : zSt) : zMet l yJ7_copyOf_59c91 cJ7_copyOf_59c91 3 (some (.array .int)) rJ7_copyOf_59c91 false (eR 1100) [aR 1210 (some h0), aI v1] σ (fJ7_copyOf_59c91 h0 v1 σ) := sorry
theorem c_J0_indexOf_0f7a4 (l : Launch) (q : Bool) (k : Nat) (v1 : Int32) (σ : zSt) : zMet l yJ0_indexOf_0f7a4 cJ0_indexOf_0f7a4 2 (some .int) rJ0_indexOf_0f7a4 q eI [aR 15 (some k), aI v1] σ (zro (fJ0_indexOf_0f7a4 k v1 σ) σ) := sorry
