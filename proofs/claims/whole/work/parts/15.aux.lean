def zi2c (x : Int32) : Int32 := (x.toUInt32 % 65536).toInt32
def zfuel : Nat := 1000000
theorem zsw_at {x k : Int32} {lo hi dflt : Int} {offs : Array Int} {pc tgt t : Nat} (hc : x = k) (ht : (pc : Int) + ztoff lo hi offs dflt x = (tgt : Int)) (h : (pc : Int) + ztoff lo hi offs dflt k = (t : Int)) : tgt = t := by
  subst hc; omega
theorem zlw_at {x k : Int32} {dflt : Int} {ps : List (Int × Int)} {pc tgt t : Nat} (hc : x = k) (ht : (pc : Int) + Op.lookupswitch.offset ps dflt x.toInt = (tgt : Int)) (h : (pc : Int) + Op.lookupswitch.offset ps dflt k.toInt = (t : Int)) : tgt = t := by
  subst hc; omega
theorem zswd_at {x : Int32} {lo hi dflt : Int} {offs : Array Int} {pc tgt t : Nat} {cs : List Int32} (ht : (pc : Int) + ztoff lo hi offs dflt x = (tgt : Int)) (hcov : ((List.range offs.size).all fun i => cs.contains (Int32.ofInt (lo + i)) || offs[i]? == some dflt) = true) (hn : ¬ x ∈ cs) (hd : (pc : Int) + dflt = (t : Int)) : tgt = t := by
  unfold ztoff at ht
  by_cases h : x.toInt < lo ∨ hi < x.toInt
  · rw [if_pos h] at ht; omega
  · rw [if_neg h] at ht
    cases hg : offs[(x.toInt - lo).toNat]? with
    | none => rw [hg] at ht; simp only [Option.getD_none] at ht; omega
    | some o =>
      have hlt := (Array.getElem?_eq_some_iff.mp hg).1
      have h1 := List.all_eq_true.mp hcov (x.toInt - lo).toNat (List.mem_range.mpr hlt)
      have hx : Int32.ofInt (lo + ((x.toInt - lo).toNat : Int)) = x := by
        have : lo + ((x.toInt - lo).toNat : Int) = x.toInt := by omega
        rw [this, Int32.ofInt_toInt]
      rw [hx, Bool.or_eq_true] at h1
      rcases h1 with h1 | h1
      · exact absurd (List.contains_iff_mem.mp h1) hn
      · have h2 : offs[(x.toInt - lo).toNat]? = some dflt := by simpa using h1
        rw [h2] at ht
        simp only [Option.getD_some] at ht
        omega
theorem zlwd_at {x : Int32} {dflt : Int} {ps : List (Int × Int)} {pc tgt t : Nat} {cs : List Int32} (ht : (pc : Int) + Op.lookupswitch.offset ps dflt x.toInt = (tgt : Int)) (hcov : (ps.all fun p => cs.contains (Int32.ofInt p.1) || p.2 == dflt) = true) (hn : ¬ x ∈ cs) (hd : (pc : Int) + dflt = (t : Int)) : tgt = t := by
  have key : Op.lookupswitch.offset ps dflt x.toInt = dflt := by
    clear ht
    induction ps with
    | nil => rfl
    | cons p r ih =>
      obtain ⟨a, o⟩ := p
      rw [List.all_cons, Bool.and_eq_true] at hcov
      rw [Op.lookupswitch.offset_cons]
      by_cases h : a = x.toInt
      · rw [if_pos h]
        have h1 := hcov.1
        rw [h, Int32.ofInt_toInt, Bool.or_eq_true] at h1
        rcases h1 with h1 | h1
        · exact absurd (List.contains_iff_mem.mp h1) hn
        · simpa using h1
      · rw [if_neg h]
        exact ih hcov.2
  omega
theorem ztoff_pos {lo hi dflt : Int} {offs : Array Int} {pc : Nat} (h1 : (offs.toList.all fun o => decide (0 ≤ (pc : Int) + o)) = true) (h2 : 0 ≤ (pc : Int) + dflt) (x : Int32) : 0 ≤ (pc : Int) + ztoff lo hi offs dflt x := by
  unfold ztoff
  split
  · exact h2
  · cases hg : offs[(x.toInt - lo).toNat]? with
    | none => exact h2
    | some o => exact of_decide_eq_true (List.all_eq_true.mp h1 o (by have := Array.mem_of_getElem? hg; exact Array.mem_toList_iff.mpr this))
theorem zloff_pos {dflt : Int} {ps : Array (Int × Int)} {pc : Nat} (h1 : (ps.toList.all fun p => decide (0 ≤ (pc : Int) + p.2)) = true) (h2 : 0 ≤ (pc : Int) + dflt) (x : Int) : 0 ≤ (pc : Int) + Op.lookupswitch.offset ps.toList dflt x := by
  generalize ps.toList = l at h1
  induction l with
  | nil => exact h2
  | cons p r ih =>
    obtain ⟨a, o⟩ := p
    rw [List.all_cons, Bool.and_eq_true] at h1
    rw [Op.lookupswitch.offset_cons]
    split
    · exact of_decide_eq_true h1.1
    · exact ih h1.2
def z5 {β : Type} (k : Nat) (f : Option β) : Option β := if k < 5 then f else none
def zmax (x y : Int32) : Int32 := if x < y then y else x
def zmin (x y : Int32) : Int32 := if y < x then y else x
def zminl (x y : Int64) : Int64 := if y < x then y else x
section XM
variable {E : zEn} {cc : ByteArray} {μ : zMu} {q : Bool} {ρ : Type} {Qf : ρ → State → Prop} {kc ks : Nat} {σ : zSt} {als als' : List (Nat × zAV)} {pc : Nat} {ast : List zAV} {f f1 f2 : Option ρ}
theorem x_join {β : Type} {b : β} {k : β → Option ρ} (P : β → Prop) (h1 : P b) (h2 : ∀ j, P j → X E cc μ q Qf kc ks σ als pc ast (k j)) : X E cc μ q Qf kc ks σ als pc ast (zlt b k) := h2 b h1
theorem x_same {c : Prop} [Decidable c] (h : X E cc μ q Qf kc ks σ als pc ast (if c then f else f)) : X E cc μ q Qf kc ks σ als pc ast f := by
  rw [ite_self] at h; exact h
theorem x_mg {c : Prop} [Decidable c] {a b : Int32} (tgt : Nat) (st : List zAV) (h : X E cc μ q Qf kc ks σ als tgt (aI (if c then a else b) :: st) f) (k : X E cc μ q Qf kc ks σ als tgt (aI (if c then a else b) :: st) f → X E cc μ q Qf kc ks σ als pc ast f) : X E cc μ q Qf kc ks σ als pc ast f := k h
theorem x_ldcS (k : Nat) {idx : Nat} {tx : String} (hdg : decode cc pc = .ok (.ldc idx, 2)) (hk : zsref[k]? = some (μ.1, (idx, tx))) (kk : X E cc μ q Qf kc ks σ als (pc + 2) (aR 15 (some k) :: ast) f) : X E cc μ q Qf kc ks σ als pc ast f := by
  intro r hf hA hq adr H locs ls hR hE hS hl hs hls
  have hlt : k < 5 := (List.getElem?_eq_some_iff.mp hk).1
  obtain ⟨G, -, -, -, -, -, -, -, hK5⟩ := id hR
  have hv : zv1 σ (aR 15 (some k)) := by show k < gM σ 15; unfold gM; rw [if_pos rfl]; omega
  have kk := kk r hf hA hq adr H locs ls hR hE hS hl (zvs.cons hv hs) hls
  have e1 : zcv adr (aR 15 (some k)) = .ref (oK E.2.1 k) := by show va_rf (some (adr 15 k)) = _; rw [hK5 k (by omega)]; rfl
  rw [List.map_cons, e1] at kk
  obtain ⟨⟨p, l, e, R, s, m, args, below, meth, c⟩, E2⟩ := E
  exact va_ldcS hA.1 hA.2.1 hA.2.2.2.1 (hA.2.2.2.2.2.2.2.2.2.2.2.2.2.2.1 k _ hk) hdg kk
theorem x_z5 {k : Nat} (h : k < 5 → X E cc μ q Qf kc ks σ als pc ast f) : X E cc μ q Qf kc ks σ als pc ast (z5 k f) := by
  unfold z5
  exact x_ite h fun _ => x_none
theorem x_zocS {j : Nat} {g : Nat → Option ρ} (h : X E cc μ q Qf kc ks σ als pc ast (g j)) : X E cc μ q Qf kc ks σ als pc ast (zoc (some j) none g) := h
theorem x_zmax {rest : List zAV} {idx : Nat} {x y : Int32} (hlink : Cond.methodLink μ.1 idx Lib.Math.max.name ∈ tblG) (hst : Cond.static Lib.Math.max.name ∈ tblG) (hini : Cond.initialized "java/lang/Math" ∈ tblG) (hcode : Cond.code Lib.Math.max.name Lib.Math.max.code 2 (some .int) ∈ tblG) (hdg : decode cc pc = .ok (.invokestatic idx, 3)) (hroom : 1 ≤ μ.2.2.2.1.frames ∧ 23 ≤ μ.2.2.2.1.locals ∧ kc ≤ μ.2.2.2.1.cells ∧ ks ≤ μ.2.2.2.1.slots) (hw : zcats rest ≤ 8)
    (k : X E cc μ q Qf kc ks σ als (pc + 3) (aI (zmax x y) :: rest) f) : X E cc μ q Qf kc ks σ als pc (aI y :: aI x :: rest) f := by
  intro r hf hA hq adr H locs ls hR hE hS hl hs hls
  have kk := k r hf hA hq adr H locs ls hR hE hS hl (zvs.cons trivial hs.tl.tl) hls
  obtain ⟨⟨p, l, e, R, s, m, args, below, meth, c⟩, E2⟩ := E
  obtain ⟨hx, hb, hml, hown, hts, hlk, hrt, hini', hRm, hK, hb0, hSp⟩ := hA
  subst hRm
  exact va_mmax hx hb (by rw [hml]; exact hls.1.symm) hown (hts _ hlink) (hts _ hst) (hts _ hini) (hts _ hcode) hroom.1 (by rw [zcats_eq]; omega) hroom.2.2.1 hroom.2.2.2 hdg kk
theorem x_zmin {rest : List zAV} {idx : Nat} {x y : Int32} (hlink : Cond.methodLink μ.1 idx Lib.Math.min.name ∈ tblG) (hst : Cond.static Lib.Math.min.name ∈ tblG) (hini : Cond.initialized "java/lang/Math" ∈ tblG) (hcode : Cond.code Lib.Math.min.name Lib.Math.min.code 2 (some .int) ∈ tblG) (hdg : decode cc pc = .ok (.invokestatic idx, 3)) (hroom : 1 ≤ μ.2.2.2.1.frames ∧ 23 ≤ μ.2.2.2.1.locals ∧ kc ≤ μ.2.2.2.1.cells ∧ ks ≤ μ.2.2.2.1.slots) (hw : zcats rest ≤ 8)
    (k : X E cc μ q Qf kc ks σ als (pc + 3) (aI (zmin x y) :: rest) f) : X E cc μ q Qf kc ks σ als pc (aI y :: aI x :: rest) f := by
  intro r hf hA hq adr H locs ls hR hE hS hl hs hls
  have kk := k r hf hA hq adr H locs ls hR hE hS hl (zvs.cons trivial hs.tl.tl) hls
  obtain ⟨⟨p, l, e, R, s, m, args, below, meth, c⟩, E2⟩ := E
  obtain ⟨hx, hb, hml, hown, hts, hlk, hrt, hini', hRm, hK, hb0, hSp⟩ := hA
  subst hRm
  exact va_mmin hx hb (by rw [hml]; exact hls.1.symm) hown (hts _ hlink) (hts _ hst) (hts _ hini) (hts _ hcode) hroom.1 (by rw [zcats_eq]; omega) hroom.2.2.1 hroom.2.2.2 hdg kk
theorem x_zminl {rest : List zAV} {idx : Nat} {x y : Int64} (hlink : Cond.methodLink μ.1 idx Lib.MathLoose.min_long.x ∈ tblG) (hst : Cond.static Lib.MathLoose.min_long.x ∈ tblG) (hini : Cond.initialized "java/lang/Math" ∈ tblG) (hcode : Cond.code Lib.MathLoose.min_long.x Lib.MathLoose.min_long.code 4 (some .long) ∈ tblG) (hdg : decode cc pc = .ok (.invokestatic idx, 3)) (hroom : 1 ≤ μ.2.2.2.1.frames ∧ 23 ≤ μ.2.2.2.1.locals ∧ kc ≤ μ.2.2.2.1.cells ∧ ks ≤ μ.2.2.2.1.slots) (hw : zcats rest ≤ 8)
    (k : X E cc μ q Qf kc ks σ als (pc + 3) (aL (zminl x y) :: rest) f) : X E cc μ q Qf kc ks σ als pc (aL y :: aL x :: rest) f := by
  intro r hf hA hq adr H locs ls hR hE hS hl hs hls
  have kk := k r hf hA hq adr H locs ls hR hE hS hl (zvs.cons trivial hs.tl.tl) hls
  obtain ⟨⟨p, l, e, R, s, m, args, below, meth, c⟩, E2⟩ := E
  obtain ⟨hx, hb, hml, hown, hts, hlk, hrt, hini', hRm, hK, hb0, hSp⟩ := hA
  subst hRm
  exact va_mmin_long hx hb (by rw [hml]; exact hls.1.symm) hown (hts _ hlink) (hts _ hst) (hts _ hini) (hts _ hcode) hroom.1 (by rw [zcats_eq]; omega) hroom.2.2.1 hroom.2.2.2 hdg kk
end XM
