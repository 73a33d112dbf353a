/-! THE CONTRACT of a method: where its functional program F answers, the method returns that answer and leaves that state. -/
def zQc (Ω : zOm) (q : Bool) {ρ : Type} (enc : ρ → Option zAV) (σ : zSt) (adr : zadr) (r : ρ) (σ' : zSt) : Array Value → State → Outcome → State → Prop := fun _ st o t =>
  (∃ adr' : zadr, o = .returned ((enc r).map (zcv adr')) ∧ zRep Ω σ' adr' t.heap ∧ zExt σ adr σ' adr' ∧ zvs σ' (enc r).toList ∧ (q = true → zOK σ')) ∧ va_F (zA (oB Ω)) st t
def zPre (Ω : zOm) (σ : zSt) (adr : zadr) (as : List zAV) : Array Value → State → Prop := va_Pc (as.map (zcv adr)) (fun U => oB Ω ≤ U.heap.size ∧ zRep Ω σ adr U.heap ∧ va_K (oD Ω) zcl (ztys Ω) U ∧ zSp Ω U)
def zMet (l : Launch) (y : MethodName) (bytes : ByteArray) (nL : Nat) (rt : Option FieldType) (rm : Room) (q : Bool) {ρ : Type} (enc : ρ → Option zAV) (as : List zAV) (σ : zSt) (F : Option (ρ × zSt)) : Prop :=
  ∀ (Ω : zOm) (adr : zadr) (r : ρ) (σ' : zSt), F = some (r, σ') → (q = true → zOK σ) → zvs σ as → Met l y (Cond.code y bytes nL rt :: tblG) rm (zPre Ω σ adr as) (zQc Ω q enc σ adr r σ') rm.cells rm.slots (zA (oB Ω))
def zQf (E : zEn) (q : Bool) {ρ : Type} (enc : ρ → Option zAV) (rm : Room) (r : ρ) (σ' : zSt) : State → Prop := match E.1 with
  | (_, _, _, _, s, _, args, below, _, _) => MQ below (zQc E.2.1 q enc E.2.2.1 E.2.2.2 r σ') args s rm.cells rm.slots (zA (oB E.2.1))
def zargs : Nat → List zAV → List (Nat × zAV)
  | _, [] => []
  | i, v :: r => (i, v) :: zargs (if zcat v = 2 then i + 2 else i + 1) r
/-- a method that writes: its program answers with a state; one that reads only: the state is as it was -/
def zQw (E : zEn) (q : Bool) {ρ : Type} (enc : ρ → Option zAV) (rm : Room) : ρ × zSt → State → Prop := fun p => zQf E q enc rm p.1 p.2
def zQr (E : zEn) (q : Bool) {ρ : Type} (enc : ρ → Option zAV) (rm : Room) (σ : zSt) : ρ → State → Prop := fun r => zQf E q enc rm r σ
theorem zargs_map (adr : zadr) : ∀ (as : List zAV) (i : Nat), lv_args i (as.map (zcv adr)) = (zargs i as).map (fun v => (v.1, zcv adr v.2))
  | [], _ => rfl
  | v :: r, i => by
    rw [List.map_cons, lv_args, zargs, List.map_cons, zargs_map adr r, zcat_eq]
theorem zargs_v {σ : zSt} : ∀ {as : List zAV} {i : Nat}, zvs σ as → zvl σ (zargs i as)
  | [], _, _ => fun _ h => by cases h
  | v :: r, i, h => fun w hw => by
    rw [zargs] at hw
    rcases List.mem_cons.mp hw with rfl | hw
    · exact h.hd
    · exact zargs_v h.tl w hw
def zcats : List zAV → Nat
  | [] => 0
  | v :: r => zcat v + zcats r
theorem zcats_eq (adr : zadr) : ∀ l : List zAV, ((l.map (zcv adr)).map fun v => v.category).sum = zcats l
  | [] => rfl
  | v :: r => by rw [List.map_cons, List.map_cons, List.sum_cons, zcats_eq adr r, zcat_eq]; rfl
theorem zsl_len (adr : zadr) : ∀ l : List zAV, (lg_sl (l.map (zcv adr))).length = zcats l
  | [] => rfl
  | v :: r => by
    have h := zsl_len adr r
    unfold lg_sl at h ⊢
    rw [List.map_cons, List.flatMap_cons, List.length_append, h]
    show _ = zcat v + zcats r
    congr 1
    rw [← zcat_eq adr v]
    rcases lv_cat (zcv adr v) with hc | hc
    · rw [if_neg (by omega), hc]; rfl
    · rw [if_pos hc, hc]; rfl
theorem zMet_core {l : Launch} {y : MethodName} {bytes : ByteArray} {nL : Nat} {rt : Option FieldType} {rm : Room} {q ini : Bool} {ρ : Type} {enc : ρ → Option zAV} {as : List zAV} {σ : zSt} {F : Option (ρ × zSt)} {als : List (Nat × zAV)} (hy : plainName y.cls = true) (hini : ini = true → y.name = "<init>") (hn : zcats as ≤ nL) (ha : zargs 0 as = als)
    (body : ∀ E : zEn, ∀ r σ', F = some (r, σ') → E.2.2.1 = σ → ∃ (α : Type) (Qf : α → State → Prop) (f : Option α) (x : α), Qf x = zQf E q enc rm r σ' ∧ f = some x ∧ X E bytes (y.cls, nL, rt, rm, ini) q Qf 0 0 σ als 0 [] f) : zMet l y bytes nL rt rm q enc as σ F := by
  intro Ω adr r σ' hF hOK hvs
  refine Met.ofW (cc := bytes) (maxL := nL) (ret := rt) hy rfl ?_
  intro p e s m args below meth c s₁ B hml hv
  obtain ⟨rfl, hb0, hR, hK, hSp⟩ := hv
  have hts := atoms_spec (ws := Cond.code y bytes nL rt :: tblG) B.pre
  have hl := lv_entry (as.map (zcv adr)) (n := nL) (by rw [zsl_len]; exact hn)
  rw [lg_entry_eq]
  rw [zargs_map, ha] at hl
  obtain ⟨α, Qf, f, x, hQ, hf, hX⟩ := body ((p, l, e, (headSpec (Cond.code y bytes nL rt :: tblG) rm).room, s, m, (as.map (zcv adr)).toArray, below, meth, c), (Ω, (σ, adr))) r σ' hF rfl
  have := hX x hf
    ⟨B.exec, B.bytes, hml, findClass_of_methodNamed B.named, fun w hw => hts w (List.mem_cons_of_mem _ hw), B.notSynchronized, B.returns, fun h => (name_of_methodNamed B.named B.method).1.trans (hini h), rfl, hK, hb0, hSp⟩
    hOK adr s.heap [] _ hR zExt.rf va_S.rf (by rw [← ha]; exact zargs_v hvs) (fun _ h => by cases h) hl
  rw [hQ] at this
  exact this
theorem zMet_of {l : Launch} {y : MethodName} {bytes : ByteArray} {nL : Nat} {rt : Option FieldType} {rm : Room} {q ini : Bool} {ρ : Type} {enc : ρ → Option zAV} {as : List zAV} {σ : zSt} {F : Option (ρ × zSt)} (als : List (Nat × zAV)) (hy : plainName y.cls = true) (hini : ini = true → y.name = "<init>") (hn : zcats as ≤ nL) (ha : zargs 0 as = als)
    (body : ∀ E : zEn, E.2.2.1 = σ → X E bytes (y.cls, nL, rt, rm, ini) q (zQw E q enc rm) 0 0 σ als 0 [] F) : zMet l y bytes nL rt rm q enc as σ F :=
  zMet_core hy hini hn ha fun E r σ' hF hE => ⟨_, _, F, (r, σ'), rfl, hF, body E hE⟩
theorem zMet_ofR {l : Launch} {y : MethodName} {bytes : ByteArray} {nL : Nat} {rt : Option FieldType} {rm : Room} {q ini : Bool} {ρ : Type} {enc : ρ → Option zAV} {as : List zAV} {σ : zSt} {F : Option ρ} (als : List (Nat × zAV)) (hy : plainName y.cls = true) (hini : ini = true → y.name = "<init>") (hn : zcats as ≤ nL) (ha : zargs 0 as = als)
    (body : ∀ E : zEn, E.2.2.1 = σ → X E bytes (y.cls, nL, rt, rm, ini) q (zQr E q enc rm σ) 0 0 σ als 0 [] F) : zMet l y bytes nL rt rm q enc as σ (zro F σ) :=
  zMet_core hy hini hn ha fun E r σ' hF hE => by
    cases h : F with
    | none => rw [h] at hF; cases hF
    | some r1 =>
      rw [h] at hF
      have e : (r1, σ) = (r, σ') := Option.some.inj hF
      cases e
      exact ⟨_, _, F, _, rfl, h, body E hE⟩
abbrev eI (r : Int32) : Option zAV := some (aI r)
abbrev eL (r : Int64) : Option zAV := some (aL r)
abbrev eV (_ : Unit) : Option zAV := none
abbrev eR (t : Nat) (r : Option Nat) : Option zAV := some (aR t r)
section XT
variable {E : zEn} {cc : ByteArray} {μ : zMu} {q : Bool} {ρ : Type} {Qf : ρ → State → Prop} {kc ks : Nat} {σ : zSt} {als als' : List (Nat × zAV)} {pc : Nat} {ast : List zAV} {f f1 f2 : Option ρ} {rm : Room}
theorem x_iret {x : Int32} {res : ρ} (hQ : Qf res = zQf E q eI rm x σ) (hr : μ.2.2.1 = some .int) (hdg : decode cc pc = .ok (.ireturn, 1)) : X E cc μ q Qf rm.cells rm.slots σ als pc [aI x] (some res) := by
  intro r hf hA hq adr H locs ls hR hE hS hl hs hls
  cases hf
  rw [hQ]
  obtain ⟨⟨p, l, e, R, s, m, args, below, meth, c⟩, E2⟩ := E
  exact W.iret (v := x) hA.1 hA.2.1 (hA.2.2.2.2.2.2.1.trans hr) (fun t ht hW => ⟨⟨adr, rfl, by rw [ht]; exact hR, hE, hs, hq⟩, hS.F ht⟩) hS.2.2 hdg hA.2.2.2.2.2.1
theorem x_zretC {x : Int32} {res : ρ} (hQ : Qf res = zQf E q eI rm x σ) (hr : μ.2.2.1 = some .boolean) (hx : x = 0 ∨ x = 1) (hdg : decode cc pc = .ok (.ireturn, 1)) : X E cc μ q Qf rm.cells rm.slots σ als pc [aI x] (some res) := by
  intro r hf hA hq adr H locs ls hR hE hS hl hs hls
  cases hf
  rw [hQ]
  obtain ⟨⟨p, l, e, R, s, m, args, below, meth, c⟩, E2⟩ := E
  exact W.zret (v := x) hA.1 hA.2.1 (hA.2.2.2.2.2.2.1.trans hr) (by rcases hx with rfl | rfl <;> decide +kernel) (fun t ht hW => ⟨⟨adr, rfl, by rw [ht]; exact hR, hE, hs, hq⟩, hS.F ht⟩) hS.2.2 hdg hA.2.2.2.2.2.1
theorem x_zret {x : Int32} {res : ρ} (hQ : Qf res = zQf E q eI rm x σ) (hr : μ.2.2.1 = some .boolean) (hdg : decode cc pc = .ok (.ireturn, 1)) : X E cc μ q Qf rm.cells rm.slots σ als pc [aI x] (zbo x (some res)) := by
  intro r hf
  unfold zbo at hf
  by_cases h : x = 0 ∨ x = 1
  · rw [if_pos h] at hf
    exact x_zretC hQ hr h hdg r hf
  · rw [if_neg h] at hf; cases hf
theorem x_lret {x : Int64} {res : ρ} (hQ : Qf res = zQf E q eL rm x σ) (hr : μ.2.2.1 = some .long) (hdg : decode cc pc = .ok (.lreturn, 1)) : X E cc μ q Qf rm.cells rm.slots σ als pc [aL x] (some res) := by
  intro r hf hA hq adr H locs ls hR hE hS hl hs hls
  cases hf
  rw [hQ]
  obtain ⟨⟨p, l, e, R, s, m, args, below, meth, c⟩, E2⟩ := E
  exact W.lret (v := x) hA.1 hA.2.1 (hA.2.2.2.2.2.2.1.trans hr) (fun t ht hW => ⟨⟨adr, rfl, by rw [ht]; exact hR, hE, hs, hq⟩, hS.F ht⟩) hS.2.2 hdg hA.2.2.2.2.2.1
theorem x_vret  {res : ρ} (hQ : Qf res = zQf E q eV rm () σ) (hr : μ.2.2.1 = none) (hdg : decode cc pc = .ok (.return_, 1)) : X E cc μ q Qf rm.cells rm.slots σ als pc [] (some res) := by
  intro r hf hA hq adr H locs ls hR hE hS hl hs hls
  cases hf
  rw [hQ]
  obtain ⟨⟨p, l, e, R, s, m, args, below, meth, c⟩, E2⟩ := E
  exact W.vret hA.1 hA.2.1 (hA.2.2.2.2.2.2.1.trans hr) (fun t ht hW => ⟨⟨adr, rfl, by rw [ht]; exact hR, hE, hs, hq⟩, hS.F ht⟩) hS.2.2 hdg hA.2.2.2.2.2.1
theorem x_aret {t : Nat} {x : Option Nat} {C : String} {res : ρ} (hQ : Qf res = zQf E q (eR t) rm x σ) (hr : μ.2.2.1 = some (.object C)) (hdg : decode cc pc = .ok (.areturn, 1)) : X E cc μ q Qf rm.cells rm.slots σ als pc [aR t x] (some res) := by
  intro r hf hA hq adr H locs ls hR hE hS hl hs hls
  cases hf
  rw [hQ]
  obtain ⟨⟨p, l, e, R, s, m, args, below, meth, c⟩, E2⟩ := E
  exact W.aret (v := zcv adr (aR t x)) hA.1 hA.2.1 (hA.2.2.2.2.2.2.1.trans hr) (Or.inl ⟨C, rfl⟩) (by cases x with | none => exact Or.inl rfl | some j => exact Or.inr ⟨_, rfl⟩) (fun t ht hW => ⟨⟨adr, rfl, by rw [ht]; exact hR, hE, hs, hq⟩, hS.F ht⟩) hS.2.2 hdg hA.2.2.2.2.2.1
/-! calls -/
/-- a callee's words: its code, its class, its parameters -/
def zMd (y : MethodName) (bytes : ByteArray) (nL : Nat) (rt : Option FieldType) (n : Nat) : Prop := Cond.code y bytes nL rt ∈ tblG ∧ Cond.initialized y.cls ∈ tblG ∧ (y.cls ≠ "java/lang/invoke/MethodHandle" ∧ y.cls ≠ "java/lang/invoke/VarHandle" ∧ (parseMethodDescriptor y.desc).map (fun d => d.parameters.length) = some n)
theorem tblG_good {w : Cond} (h : w ∈ tblG) : (w.onTables && w.keeps) = true ∨ ∃ ty, w = .arrayClass ty := good_of_word (List.mem_filter.mp h).2
theorem zgood {y : MethodName} {bytes : ByteArray} {nL : Nat} {rt : Option FieldType} (h : Cond.code y bytes nL rt ∈ tblG) : GoodIn tblG (Cond.code y bytes nL rt :: tblG) := fun w hw => by
  rcases List.mem_cons.mp hw with rfl | hw
  · exact ⟨h, tblG_good h⟩
  · exact ⟨hw, tblG_good hw⟩
theorem zPre_blind {Ω : zOm} {adr : zadr} {as : List zAV} : FrameBlind (zPre Ω σ adr as) := fun a U g mk h => by
  obtain ⟨h1, h2, h3, h4, h5⟩ := h
  exact ⟨h1, h2, h3, va_K.moved (u := U) (U := U.calling g mk a) (Vm.Alike.refl U.vm) h4, by
    obtain ⟨g1, g2, g3, g4, g5, g6, g7, g8⟩ := h5
    exact ⟨fun w hw => va_Nw.same (by unfold zNest at hw; simp only [List.mem_cons, List.not_mem_nil, or_false] at hw; rcases hw with rfl | rfl | rfl | rfl | rfl | rfl | rfl | rfl | rfl | rfl | rfl | rfl | rfl | rfl <;> rfl) (u := U) (U := U.calling g mk a) rfl (g1 w hw), fun C hC => va_AO.moved (u := U) (U := U.calling g mk a) (Vm.Alike.refl U.vm) (g2 C hC),
      vk_S.moved (u := U) (U := U.calling g mk a) (Vm.Alike.refl U.vm) g3, fun k q hk => vk_R.same (u := U) (U := U.calling g mk a) rfl (g4 k q hk), va_Z.moved (u := U) (U := U.calling g mk a) (Vm.Alike.refl U.vm) g5, va_Nw.same rfl (u := U) (U := U.calling g mk a) rfl g6, va_Nw.same rfl (u := U) (U := U.calling g mk a) rfl g7, g8⟩⟩
/-- what is the same at each call: the callee's start holds -/
theorem zpre_at {adr : zadr} {H : Heap} {locs : List Loc} {as : List zAV} (hA : zAmb E.1 E.2.1 cc μ) (hR : zRep E.2.1 σ adr H) (hS : va_S (zA (oB E.2.1)) (zsh E.1) H locs) : ∀ U : State, U.heap = H → E.1.2.2.2.2.1.WarmedH U.vm → zPre E.2.1 σ adr as (as.map (zcv adr)).toArray U := by
  intro U hU hW
  obtain ⟨⟨p, l, e, R, s, m, args, below, meth, c⟩, E2⟩ := E
  refine ⟨rfl, ?_, by rw [hU]; exact hR, va_K.moved hW.alike hA.2.2.2.2.2.2.2.2.2.1, hA.2.2.2.2.2.2.2.2.2.2.2.moved hW fun a h1 h2 => by rw [hU]; exact hS.2.1 a h1 h2⟩
  obtain ⟨G, -, -, -, -, -, hB, -, -⟩ := hR
  rw [hU]; exact hB
theorem x_back {α : Type} {enc : α → Option zAV} {F : Option (α × zSt)} {K : α → zSt → Option ρ} {adr : zadr} {H : Heap} {locs : List Loc} {ls : Array Slot} {q' : Bool} {rest : List zAV} {st0 : List Value} {a : Array Value} {r : ρ} {r1 : α} {σ1 : zSt} (hqq : q = true → q' = true) (hf : K r1 σ1 = some r) (hA : zAmb E.1 E.2.1 cc μ)
    (hR : zRep E.2.1 σ adr H) (hE : zExt E.2.2.1 E.2.2.2 σ adr) (hS : va_S (zA (oB E.2.1)) (zsh E.1) H locs) (hl : zvl σ als) (hs : zvs σ rest) (hls : lv_has ls μ.2.1 (als.map (fun v => (v.1, zcv adr v.2))))
    (k : X E cc μ q Qf (kc + rm.cells) (ks + rm.slots) σ1 als (pc + 3) ((enc r1).toList ++ rest) (K r1 σ1))
    (hrun : match E.1 with | (p, l, e, R, s, m, args, below, meth, c) => va_Run p l e R s m args below meth c H locs kc ks rm.cells rm.slots (F0 m pc ls st0) (rest.map (zcv adr)) (zQc E.2.1 q' enc σ adr r1 σ1 a) (zA (oB E.2.1))) : zWW E.1 H locs kc ks (Qf r) pc ls st0 := by
  obtain ⟨G0, -, -, -, -, -, -, -, hK5⟩ := id hR
  have kk := k r hf hA
  obtain ⟨⟨p, l, e, R, s, m, args, below, meth, c⟩, E2⟩ := E
  intro T hT X0
  obtain ⟨v, st₀, t, T', L, h0, X', hL, e1, e2, ⟨⟨adr', hv, hR1, hx, hvs, hq1⟩, hz, hk⟩, st⟩ := hrun T hT X0
  rw [h0] at hz hk
  obtain ⟨G1, -, -, -, -, -, -, -, hK5'⟩ := id hR1
  have hS1 : va_S (zA (oB E2.1)) s.heap t.heap (locs ++ L) := by
    refine ⟨Nat.le_trans hS.1 hz, fun x h1 h2 => ?_, fun x hx' => ?_⟩
    · rw [hk x (Nat.lt_of_lt_of_le h1 hS.1) h2]; exact hS.2.1 x h1 h2
    · rcases List.mem_append.mp hx' with h | h
      · exact hS.2.2 x h
      · exact hL x h
  have hv' : v = (enc r1).map (zcv adr') := Outcome.returned.inj hv
  have kk := kk (fun h => hq1 (hqq h)) adr' t.heap (locs ++ L) ls hR1 (hE.trans hx) hS1 (zvl_N (fun t => (hx t).1) hl) (fun w hw => by
    rcases List.mem_append.mp hw with h | h
    · exact hvs w h
    · exact (hs w h).mono fun t => (hx t).1) (by rw [zmapl_ext hx hK5 hK5' hl]; exact hls) T' e1 X'
  obtain ⟨t2, a1, b1⟩ := kk
  refine ⟨t2, st t2 ?_, b1⟩
  have hst : ((enc r1).toList ++ rest).map (zcv adr') = v.toList ++ rest.map (zcv adr) := by
    rw [List.map_append, zmap_ext hx hK5 hK5' hs, hv']
    cases enc r1 <;> rfl
  rw [hst] at a1
  exact a1
end XT
