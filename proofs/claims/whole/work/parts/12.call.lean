section XK
variable {E : zEn} {cc : ByteArray} {μ : zMu} {q : Bool} {ρ : Type} {Qf : ρ → State → Prop} {kc ks : Nat} {σ : zSt} {als als' : List (Nat × zAV)} {pc : Nat} {ast : List zAV} {f f1 f2 : Option ρ} {rm : Room}
theorem zstk {adr : zadr} {st as rest : List zAV} {v : zAV} (h : st = as.reverse ++ v :: rest) : st.map (zcv adr) = (as.map (zcv adr)).reverse ++ zcv adr v :: rest.map (zcv adr) := by
  rw [h, List.map_append, List.map_reverse, List.map_cons]
theorem zstkS {adr : zadr} {st as rest : List zAV} (h : st = as.reverse ++ rest) : st.map (zcv adr) = (as.map (zcv adr)).reverse ++ rest.map (zcv adr) := by
  rw [h, List.map_append, List.map_reverse]
theorem zrev_v {as rest st : List zAV} (h : st = as.reverse ++ rest) (hs : zvs σ st) : zvs σ as ∧ zvs σ rest := by
  subst h
  exact ⟨fun v hv => hs v (List.mem_append_left _ (List.mem_reverse.mpr hv)), fun v hv => hs v (List.mem_append_right _ hv)⟩
def zRm (μ : zMu) (rm : Room) (nL kc ks : Nat) : Prop := rm.frames + 1 ≤ μ.2.2.2.1.frames ∧ 8 + (nL + 11) + rm.locals ≤ μ.2.2.2.1.locals ∧ kc + rm.cells ≤ μ.2.2.2.1.cells ∧ ks + rm.slots ≤ μ.2.2.2.1.slots

theorem x_callV {α : Type} {enc : α → Option zAV} {y : MethodName} {bytes : ByteArray} {nLc n idx : Nat} {rtc : Option FieldType} {q' : Bool} {t b : Nat} {as rest st : List zAV} {F : Option (α × zSt)} {K : α → zSt → Option ρ} (hM : ∀ l, zMet l y bytes nLc rtc rm q' enc (aR t (some b) :: as) σ (F)) (hd : zMd y bytes nLc rtc n) (hcl : ∃ T N, zcl[t]? = some (y.cls, T, N) ∧ t < 15) (hi : Cond.instanceMethod y ∈ tblG) (hsel : Cond.selects y.cls y y ∈ tblG) (hlink : Cond.methodLink μ.1 idx y ∈ tblG) (hdg : decode cc pc = .ok (.invokevirtual idx, 3)) (hn : as.length = n) (hroom : zRm μ rm nLc kc ks) (hqq : (q = true → q' = true) ∧ (q' = true → q = true ∨ zOK σ)) (hst : st = as.reverse ++ aR t (some b) :: rest) (hw : zcats rest ≤ 8) (k : ∀ r σ1, X E cc μ q Qf (kc + rm.cells) (ks + rm.slots) σ1 als (pc + 3) ((enc r).toList ++ rest) (K r σ1)) : X E cc μ q Qf kc ks σ als pc st (zc2 F K) := by
  intro r hf hA hq adr H locs ls hR hE hS hl hs hls
  cases hF : F with
  | none => rw [hF] at hf; cases hf
  | some r1 =>
  rw [hF] at hf
  have hf : K r1.1 r1.2 = some r := hf
  have hvv := zrev_v (rest := aR t (some b) :: rest) hst hs
  have hva : zvs σ (aR t (some b) :: as) := zvs.cons hvv.2.hd hvv.1
  have hvr := hvv.2.tl
  obtain ⟨T9, N9, hc9, ht9⟩ := hcl
  have hrecv : ∃ cell : Cell, H[adr t b]? = some cell ∧ cell.vm.isStatics = false ∧ E.1.2.2.2.2.1.vm.findClass y.cls = some cell.cls := by
    obtain ⟨G, hu, hG, hP, hD, hV, hB, h15, hK5⟩ := hR
    obtain ⟨k0, -, hk0⟩ := zws_get (Ω := E.2.1) (σ := σ) (adr := adr) ((hG t b).mpr (gN_of (by omega) hva.hd))
    rw [zcell_obj (by omega)] at hk0
    obtain ⟨⟨p, l, e, R, s, m, args, below, meth, c⟩, E2⟩ := E
    exact va_recv hA.2.2.2.2.2.2.2.2.2.1 hP hc9 hk0
  have hpre := zpre_at (as := aR t (some b) :: as) hA hR hS
  have hroom' := hroom
  have hA' := hA
  refine x_back (q' := q') (F := F) (K := K) (r1 := r1.1) (σ1 := r1.2) (a := ((aR t (some b) :: as).map (zcv adr)).toArray) hqq.1 hf hA hR hE hS hl hvr hls (k r1.1 r1.2) ?_
  have hM' := fun l => hM l E.2.1 adr r1.1 r1.2 hF (fun h => (hqq.2 h).elim hq id) hva
  obtain ⟨⟨p, l, e, R, s, m, args, below, meth, c⟩, E2⟩ := E
  obtain ⟨hx, hb, hml, hown, hts, hlk, hrt, hini, hRm, hK, hb0, hSp⟩ := hA
  subst hRm
  exact va_runV ⟨hx, hb, hml, hown, hts⟩ (hM' l) ⟨callB_of n hts (zgood hd.1) rfl rfl rfl (hts _ hd.2.1) (hts _ hlink) hd.2.2 ⟨hroom.1, hroom.2.1⟩, hts _ hi, hts _ hsel⟩ ⟨zPre_blind, hrecv, hpre⟩ rfl (by rw [List.length_map]; exact hn) hls.1 (zstk hst) (lv_room (by rw [zcats_eq]; exact hw)) hdg ⟨hroom.2.2.1, hroom.2.2.2⟩

theorem x_callVr {α : Type} {enc : α → Option zAV} {y : MethodName} {bytes : ByteArray} {nLc n idx : Nat} {rtc : Option FieldType} {q' : Bool} {t b : Nat} {as rest st : List zAV} {F : Option α} {K : α → Option ρ} (hM : ∀ l, zMet l y bytes nLc rtc rm q' enc (aR t (some b) :: as) σ (zro F σ)) (hd : zMd y bytes nLc rtc n) (hcl : ∃ T N, zcl[t]? = some (y.cls, T, N) ∧ t < 15) (hi : Cond.instanceMethod y ∈ tblG) (hsel : Cond.selects y.cls y y ∈ tblG) (hlink : Cond.methodLink μ.1 idx y ∈ tblG) (hdg : decode cc pc = .ok (.invokevirtual idx, 3)) (hn : as.length = n) (hroom : zRm μ rm nLc kc ks) (hqq : (q = true → q' = true) ∧ (q' = true → q = true ∨ zOK σ)) (hst : st = as.reverse ++ aR t (some b) :: rest) (hw : zcats rest ≤ 8) (k : ∀ r, X E cc μ q Qf (kc + rm.cells) (ks + rm.slots) σ als (pc + 3) ((enc r).toList ++ rest) (K r)) : X E cc μ q Qf kc ks σ als pc st (zc1 F K) := by
  intro r hf hA hq adr H locs ls hR hE hS hl hs hls
  cases hF : F with
  | none => rw [hF] at hf; cases hf
  | some r1 =>
  rw [hF] at hf
  have hf : K r1 = some r := hf
  have hF : zro F σ = some (r1, σ) := by rw [hF]; rfl
  have hvv := zrev_v (rest := aR t (some b) :: rest) hst hs
  have hva : zvs σ (aR t (some b) :: as) := zvs.cons hvv.2.hd hvv.1
  have hvr := hvv.2.tl
  obtain ⟨T9, N9, hc9, ht9⟩ := hcl
  have hrecv : ∃ cell : Cell, H[adr t b]? = some cell ∧ cell.vm.isStatics = false ∧ E.1.2.2.2.2.1.vm.findClass y.cls = some cell.cls := by
    obtain ⟨G, hu, hG, hP, hD, hV, hB, h15, hK5⟩ := hR
    obtain ⟨k0, -, hk0⟩ := zws_get (Ω := E.2.1) (σ := σ) (adr := adr) ((hG t b).mpr (gN_of (by omega) hva.hd))
    rw [zcell_obj (by omega)] at hk0
    obtain ⟨⟨p, l, e, R, s, m, args, below, meth, c⟩, E2⟩ := E
    exact va_recv hA.2.2.2.2.2.2.2.2.2.1 hP hc9 hk0
  have hpre := zpre_at (as := aR t (some b) :: as) hA hR hS
  have hroom' := hroom
  have hA' := hA
  refine x_back (q' := q') (F := zro F σ) (K := fun r _ => K r) (r1 := r1) (σ1 := σ) (a := ((aR t (some b) :: as).map (zcv adr)).toArray) hqq.1 hf hA hR hE hS hl hvr hls (k r1) ?_
  have hM' := fun l => hM l E.2.1 adr r1 σ hF (fun h => (hqq.2 h).elim hq id) hva
  obtain ⟨⟨p, l, e, R, s, m, args, below, meth, c⟩, E2⟩ := E
  obtain ⟨hx, hb, hml, hown, hts, hlk, hrt, hini, hRm, hK, hb0, hSp⟩ := hA
  subst hRm
  exact va_runV ⟨hx, hb, hml, hown, hts⟩ (hM' l) ⟨callB_of n hts (zgood hd.1) rfl rfl rfl (hts _ hd.2.1) (hts _ hlink) hd.2.2 ⟨hroom.1, hroom.2.1⟩, hts _ hi, hts _ hsel⟩ ⟨zPre_blind, hrecv, hpre⟩ rfl (by rw [List.length_map]; exact hn) hls.1 (zstk hst) (lv_room (by rw [zcats_eq]; exact hw)) hdg ⟨hroom.2.2.1, hroom.2.2.2⟩

theorem x_callS {α : Type} {enc : α → Option zAV} {y : MethodName} {bytes : ByteArray} {nLc n idx : Nat} {rtc : Option FieldType} {q' : Bool} {as rest st : List zAV} {F : Option (α × zSt)} {K : α → zSt → Option ρ} (hM : ∀ l, zMet l y bytes nLc rtc rm q' enc (as) σ (F)) (hd : zMd y bytes nLc rtc n) (hi : Cond.static y ∈ tblG) (hlink : Cond.methodLink μ.1 idx y ∈ tblG) (hdg : decode cc pc = .ok (.invokestatic idx, 3)) (hn : as.length = n) (hroom : zRm μ rm nLc kc ks) (hqq : (q = true → q' = true) ∧ (q' = true → q = true ∨ zOK σ)) (hst : st = as.reverse ++ rest) (hw : zcats rest ≤ 8) (k : ∀ r σ1, X E cc μ q Qf (kc + rm.cells) (ks + rm.slots) σ1 als (pc + 3) ((enc r).toList ++ rest) (K r σ1)) : X E cc μ q Qf kc ks σ als pc st (zc2 F K) := by
  intro r hf hA hq adr H locs ls hR hE hS hl hs hls
  cases hF : F with
  | none => rw [hF] at hf; cases hf
  | some r1 =>
  rw [hF] at hf
  have hf : K r1.1 r1.2 = some r := hf
  have hvv := zrev_v hst hs
  have hva := hvv.1
  have hvr := hvv.2
  have hpre := zpre_at (as := as) hA hR hS
  have hroom' := hroom
  have hA' := hA
  refine x_back (q' := q') (F := F) (K := K) (r1 := r1.1) (σ1 := r1.2) (a := ((as).map (zcv adr)).toArray) hqq.1 hf hA hR hE hS hl hvr hls (k r1.1 r1.2) ?_
  have hM' := fun l => hM l E.2.1 adr r1.1 r1.2 hF (fun h => (hqq.2 h).elim hq id) hva
  obtain ⟨⟨p, l, e, R, s, m, args, below, meth, c⟩, E2⟩ := E
  obtain ⟨hx, hb, hml, hown, hts, hlk, hrt, hini, hRm, hK, hb0, hSp⟩ := hA
  subst hRm
  exact va_runS ⟨hx, hb, hml, hown, hts⟩ (hM' l) ⟨callB_of n hts (zgood hd.1) rfl rfl rfl (hts _ hd.2.1) (hts _ hlink) hd.2.2 ⟨hroom.1, hroom.2.1⟩, hts _ hi⟩ ⟨zPre_blind, hpre⟩ rfl (by rw [List.length_map]; exact hn) hls.1 (zstkS hst) (lv_room (by rw [zcats_eq]; exact hw)) hdg ⟨hroom.2.2.1, hroom.2.2.2⟩

theorem x_callSr {α : Type} {enc : α → Option zAV} {y : MethodName} {bytes : ByteArray} {nLc n idx : Nat} {rtc : Option FieldType} {q' : Bool} {as rest st : List zAV} {F : Option α} {K : α → Option ρ} (hM : ∀ l, zMet l y bytes nLc rtc rm q' enc (as) σ (zro F σ)) (hd : zMd y bytes nLc rtc n) (hi : Cond.static y ∈ tblG) (hlink : Cond.methodLink μ.1 idx y ∈ tblG) (hdg : decode cc pc = .ok (.invokestatic idx, 3)) (hn : as.length = n) (hroom : zRm μ rm nLc kc ks) (hqq : (q = true → q' = true) ∧ (q' = true → q = true ∨ zOK σ)) (hst : st = as.reverse ++ rest) (hw : zcats rest ≤ 8) (k : ∀ r, X E cc μ q Qf (kc + rm.cells) (ks + rm.slots) σ als (pc + 3) ((enc r).toList ++ rest) (K r)) : X E cc μ q Qf kc ks σ als pc st (zc1 F K) := by
  intro r hf hA hq adr H locs ls hR hE hS hl hs hls
  cases hF : F with
  | none => rw [hF] at hf; cases hf
  | some r1 =>
  rw [hF] at hf
  have hf : K r1 = some r := hf
  have hF : zro F σ = some (r1, σ) := by rw [hF]; rfl
  have hvv := zrev_v hst hs
  have hva := hvv.1
  have hvr := hvv.2
  have hpre := zpre_at (as := as) hA hR hS
  have hroom' := hroom
  have hA' := hA
  refine x_back (q' := q') (F := zro F σ) (K := fun r _ => K r) (r1 := r1) (σ1 := σ) (a := ((as).map (zcv adr)).toArray) hqq.1 hf hA hR hE hS hl hvr hls (k r1) ?_
  have hM' := fun l => hM l E.2.1 adr r1 σ hF (fun h => (hqq.2 h).elim hq id) hva
  obtain ⟨⟨p, l, e, R, s, m, args, below, meth, c⟩, E2⟩ := E
  obtain ⟨hx, hb, hml, hown, hts, hlk, hrt, hini, hRm, hK, hb0, hSp⟩ := hA
  subst hRm
  exact va_runS ⟨hx, hb, hml, hown, hts⟩ (hM' l) ⟨callB_of n hts (zgood hd.1) rfl rfl rfl (hts _ hd.2.1) (hts _ hlink) hd.2.2 ⟨hroom.1, hroom.2.1⟩, hts _ hi⟩ ⟨zPre_blind, hpre⟩ rfl (by rw [List.length_map]; exact hn) hls.1 (zstkS hst) (lv_room (by rw [zcats_eq]; exact hw)) hdg ⟨hroom.2.2.1, hroom.2.2.2⟩

theorem x_callI {α : Type} {enc : α → Option zAV} {y : MethodName} {bytes : ByteArray} {nLc n idx : Nat} {q' : Bool} {t b : Nat} {as rest st : List zAV} {F : Option (α × zSt)} {K : α → zSt → Option ρ} (hM : ∀ l, zMet l y bytes nLc none rm q' enc (aR t (some b) :: as) σ (F)) (hd : zMd y bytes nLc none n) (hi : Cond.instanceMethod y ∈ tblG) (hy1 : y.name = "<init>") (hlink : Cond.methodLink μ.1 idx y ∈ tblG) (hdg : decode cc pc = .ok (.invokespecial idx, 3)) (hn : as.length = n) (hroom : zRm μ rm nLc kc ks) (hqq : (q = true → q' = true) ∧ (q' = true → q = true ∨ zOK σ)) (hst : st = as.reverse ++ aR t (some b) :: rest) (hw : zcats rest ≤ 8) (k : ∀ r σ1, X E cc μ q Qf (kc + rm.cells) (ks + rm.slots) σ1 als (pc + 3) ((enc r).toList ++ rest) (K r σ1)) : X E cc μ q Qf kc ks σ als pc st (zc2 F K) := by
  intro r hf hA hq adr H locs ls hR hE hS hl hs hls
  cases hF : F with
  | none => rw [hF] at hf; cases hf
  | some r1 =>
  rw [hF] at hf
  have hf : K r1.1 r1.2 = some r := hf
  have hvv := zrev_v (rest := aR t (some b) :: rest) hst hs
  have hva : zvs σ (aR t (some b) :: as) := zvs.cons hvv.2.hd hvv.1
  have hvr := hvv.2.tl
  have hpre := zpre_at (as := aR t (some b) :: as) hA hR hS
  have hroom' := hroom
  have hA' := hA
  refine x_back (q' := q') (F := F) (K := K) (r1 := r1.1) (σ1 := r1.2) (a := ((aR t (some b) :: as).map (zcv adr)).toArray) hqq.1 hf hA hR hE hS hl hvr hls (k r1.1 r1.2) ?_
  have hM' := fun l => hM l E.2.1 adr r1.1 r1.2 hF (fun h => (hqq.2 h).elim hq id) hva
  obtain ⟨⟨p, l, e, R, s, m, args, below, meth, c⟩, E2⟩ := E
  obtain ⟨hx, hb, hml, hown, hts, hlk, hrt, hini, hRm, hK, hb0, hSp⟩ := hA
  subst hRm
  exact va_runI ⟨hx, hb, hml, hown, hts⟩ (hM' l) ⟨callB_of n hts (zgood hd.1) rfl rfl rfl (hts _ hd.2.1) (hts _ hlink) hd.2.2 ⟨hroom.1, hroom.2.1⟩, hy1, hts _ hi⟩ ⟨zPre_blind, hpre⟩ rfl (by rw [List.length_map]; exact hn) hls.1 (zstk hst) (lv_room (by rw [zcats_eq]; exact hw)) hdg ⟨hroom.2.2.1, hroom.2.2.2⟩

theorem x_callSN {α : Type} {enc : α → Option zAV} {y : MethodName} {bytes : ByteArray} {nLc n idx : Nat} {rtc : Option FieldType} {q' : Bool} {as rest st : List zAV} {F : Option (α × zSt)} {host : String} {K : α → zSt → Option ρ} (hM : ∀ l, zMet l y bytes nLc rtc rm q' enc (as) σ (F)) (hd : zMd y bytes nLc rtc n) (hi : Cond.static y ∈ tblG) (hlink : Cond.methodLinkNest μ.1 idx y host ∈ zNest) (hdg : decode cc pc = .ok (.invokestatic idx, 3)) (hn : as.length = n) (hroom : zRm μ rm nLc kc ks) (hqq : (q = true → q' = true) ∧ (q' = true → q = true ∨ zOK σ)) (hst : st = as.reverse ++ rest) (hw : zcats rest ≤ 8) (k : ∀ r σ1, X E cc μ q Qf (kc + rm.cells) (ks + rm.slots) σ1 als (pc + 3) ((enc r).toList ++ rest) (K r σ1)) : X E cc μ q Qf kc ks σ als pc st (zc2 F K) := by
  intro r hf hA hq adr H locs ls hR hE hS hl hs hls
  cases hF : F with
  | none => rw [hF] at hf; cases hf
  | some r1 =>
  rw [hF] at hf
  have hf : K r1.1 r1.2 = some r := hf
  have hvv := zrev_v hst hs
  have hva := hvv.1
  have hvr := hvv.2
  have hpre := zpre_at (as := as) hA hR hS
  have hroom' := hroom
  have hA' := hA
  refine x_back (q' := q') (F := F) (K := K) (r1 := r1.1) (σ1 := r1.2) (a := ((as).map (zcv adr)).toArray) hqq.1 hf hA hR hE hS hl hvr hls (k r1.1 r1.2) ?_
  have hM' := fun l => hM l E.2.1 adr r1.1 r1.2 hF (fun h => (hqq.2 h).elim hq id) hva
  obtain ⟨⟨p, l, e, R, s, m, args, below, meth, c⟩, E2⟩ := E
  obtain ⟨hx, hb, hml, hown, hts, hlk, hrt, hini, hRm, hK, hb0, hSp⟩ := hA
  subst hRm
  exact va_runSN ⟨hx, hb, hml, hown, hts⟩ (hM' l) ⟨va_cnB n hts (zgood hd.1) rfl rfl rfl (hSp.1 _ hlink) (hts _ hd.2.1) hd.2.2 ⟨hroom.1, hroom.2.1⟩, hts _ hi, trivial⟩ ⟨zPre_blind, hpre⟩ rfl (by rw [List.length_map]; exact hn) hls.1 (zstkS hst) (lv_room (by rw [zcats_eq]; exact hw)) hdg ⟨hroom.2.2.1, hroom.2.2.2⟩

theorem x_callSNr {α : Type} {enc : α → Option zAV} {y : MethodName} {bytes : ByteArray} {nLc n idx : Nat} {rtc : Option FieldType} {q' : Bool} {as rest st : List zAV} {F : Option α} {host : String} {K : α → Option ρ} (hM : ∀ l, zMet l y bytes nLc rtc rm q' enc (as) σ (zro F σ)) (hd : zMd y bytes nLc rtc n) (hi : Cond.static y ∈ tblG) (hlink : Cond.methodLinkNest μ.1 idx y host ∈ zNest) (hdg : decode cc pc = .ok (.invokestatic idx, 3)) (hn : as.length = n) (hroom : zRm μ rm nLc kc ks) (hqq : (q = true → q' = true) ∧ (q' = true → q = true ∨ zOK σ)) (hst : st = as.reverse ++ rest) (hw : zcats rest ≤ 8) (k : ∀ r, X E cc μ q Qf (kc + rm.cells) (ks + rm.slots) σ als (pc + 3) ((enc r).toList ++ rest) (K r)) : X E cc μ q Qf kc ks σ als pc st (zc1 F K) := by
  intro r hf hA hq adr H locs ls hR hE hS hl hs hls
  cases hF : F with
  | none => rw [hF] at hf; cases hf
  | some r1 =>
  rw [hF] at hf
  have hf : K r1 = some r := hf
  have hF : zro F σ = some (r1, σ) := by rw [hF]; rfl
  have hvv := zrev_v hst hs
  have hva := hvv.1
  have hvr := hvv.2
  have hpre := zpre_at (as := as) hA hR hS
  have hroom' := hroom
  have hA' := hA
  refine x_back (q' := q') (F := zro F σ) (K := fun r _ => K r) (r1 := r1) (σ1 := σ) (a := ((as).map (zcv adr)).toArray) hqq.1 hf hA hR hE hS hl hvr hls (k r1) ?_
  have hM' := fun l => hM l E.2.1 adr r1 σ hF (fun h => (hqq.2 h).elim hq id) hva
  obtain ⟨⟨p, l, e, R, s, m, args, below, meth, c⟩, E2⟩ := E
  obtain ⟨hx, hb, hml, hown, hts, hlk, hrt, hini, hRm, hK, hb0, hSp⟩ := hA
  subst hRm
  exact va_runSN ⟨hx, hb, hml, hown, hts⟩ (hM' l) ⟨va_cnB n hts (zgood hd.1) rfl rfl rfl (hSp.1 _ hlink) (hts _ hd.2.1) hd.2.2 ⟨hroom.1, hroom.2.1⟩, hts _ hi, trivial⟩ ⟨zPre_blind, hpre⟩ rfl (by rw [List.length_map]; exact hn) hls.1 (zstkS hst) (lv_room (by rw [zcats_eq]; exact hw)) hdg ⟨hroom.2.2.1, hroom.2.2.2⟩

theorem x_callIN {α : Type} {enc : α → Option zAV} {y : MethodName} {bytes : ByteArray} {nLc n idx : Nat} {q' : Bool} {t b : Nat} {as rest st : List zAV} {F : Option (α × zSt)} {host : String} {K : α → zSt → Option ρ} (hM : ∀ l, zMet l y bytes nLc none rm q' enc (aR t (some b) :: as) σ (F)) (hd : zMd y bytes nLc none n) (hi : Cond.instanceMethod y ∈ tblG) (hy1 : y.name = "<init>") (hlink : Cond.methodLinkNest μ.1 idx y host ∈ zNest) (hdg : decode cc pc = .ok (.invokespecial idx, 3)) (hn : as.length = n) (hroom : zRm μ rm nLc kc ks) (hqq : (q = true → q' = true) ∧ (q' = true → q = true ∨ zOK σ)) (hst : st = as.reverse ++ aR t (some b) :: rest) (hw : zcats rest ≤ 8) (k : ∀ r σ1, X E cc μ q Qf (kc + rm.cells) (ks + rm.slots) σ1 als (pc + 3) ((enc r).toList ++ rest) (K r σ1)) : X E cc μ q Qf kc ks σ als pc st (zc2 F K) := by
  intro r hf hA hq adr H locs ls hR hE hS hl hs hls
  cases hF : F with
  | none => rw [hF] at hf; cases hf
  | some r1 =>
  rw [hF] at hf
  have hf : K r1.1 r1.2 = some r := hf
  have hvv := zrev_v (rest := aR t (some b) :: rest) hst hs
  have hva : zvs σ (aR t (some b) :: as) := zvs.cons hvv.2.hd hvv.1
  have hvr := hvv.2.tl
  have hpre := zpre_at (as := aR t (some b) :: as) hA hR hS
  have hroom' := hroom
  have hA' := hA
  refine x_back (q' := q') (F := F) (K := K) (r1 := r1.1) (σ1 := r1.2) (a := ((aR t (some b) :: as).map (zcv adr)).toArray) hqq.1 hf hA hR hE hS hl hvr hls (k r1.1 r1.2) ?_
  have hM' := fun l => hM l E.2.1 adr r1.1 r1.2 hF (fun h => (hqq.2 h).elim hq id) hva
  obtain ⟨⟨p, l, e, R, s, m, args, below, meth, c⟩, E2⟩ := E
  obtain ⟨hx, hb, hml, hown, hts, hlk, hrt, hini, hRm, hK, hb0, hSp⟩ := hA
  subst hRm
  exact va_runIN ⟨hx, hb, hml, hown, hts⟩ (hM' l) ⟨va_cnB n hts (zgood hd.1) rfl rfl rfl (hSp.1 _ hlink) (hts _ hd.2.1) hd.2.2 ⟨hroom.1, hroom.2.1⟩, hy1, hts _ hi⟩ ⟨zPre_blind, hpre⟩ rfl (by rw [List.length_map]; exact hn) hls.1 (zstk hst) (lv_room (by rw [zcats_eq]; exact hw)) hdg ⟨hroom.2.2.1, hroom.2.2.2⟩

theorem x_callTr {α : Type} {enc : α → Option zAV} {y : MethodName} {bytes : ByteArray} {nLc n idx : Nat} {rtc : Option FieldType} {q' : Bool} {t b : Nat} {as rest st : List zAV} {F : Option α} {K : α → Option ρ} (hM : ∀ l, zMet l y bytes nLc rtc rm q' enc (aR t (some b) :: as) σ (zro F σ)) (hd : zMd y bytes nLc rtc n) (ht15 : t = 15) (hb5 : b < 5) (hcs : y.cls = "java/lang/String") (hi : Cond.instanceMethod y ∈ tblG) (hsel : Cond.selects y.cls y y ∈ tblG) (hlink : Cond.methodLink μ.1 idx y ∈ tblG) (hdg : decode cc pc = .ok (.invokevirtual idx, 3)) (hn : as.length = n) (hroom : zRm μ rm nLc kc ks) (hqq : (q = true → q' = true) ∧ (q' = true → q = true ∨ zOK σ)) (hst : st = as.reverse ++ aR t (some b) :: rest) (hw : zcats rest ≤ 8) (k : ∀ r, X E cc μ q Qf (kc + rm.cells) (ks + rm.slots) σ als (pc + 3) ((enc r).toList ++ rest) (K r)) : X E cc μ q Qf kc ks σ als pc st (zc1 F K) := by
  intro r hf hA hq adr H locs ls hR hE hS hl hs hls
  cases hF : F with
  | none => rw [hF] at hf; cases hf
  | some r1 =>
  rw [hF] at hf
  have hf : K r1 = some r := hf
  have hF : zro F σ = some (r1, σ) := by rw [hF]; rfl
  have hvv := zrev_v (rest := aR t (some b) :: rest) hst hs
  have hva : zvs σ (aR t (some b) :: as) := zvs.cons hvv.2.hd hvv.1
  have hvr := hvv.2.tl
  have hrecv : ∃ cell : Cell, H[adr t b]? = some cell ∧ cell.vm.isStatics = false ∧ E.1.2.2.2.2.1.vm.findClass y.cls = some cell.cls := by
    obtain ⟨G, hu, hG, hP, hD, hV, hB, h15, hK5⟩ := hR
    subst ht15
    rw [hK5 b (by omega), hcs]
    obtain ⟨⟨p, l, e, R, s, m, args, below, meth, c⟩, E2⟩ := E
    exact vk_recv hA.2.2.2.2.2.2.2.2.2.2.2.2.2.1 hb5 hS
  have hpre := zpre_at (as := aR t (some b) :: as) hA hR hS
  have hroom' := hroom
  have hA' := hA
  refine x_back (q' := q') (F := zro F σ) (K := fun r _ => K r) (r1 := r1) (σ1 := σ) (a := ((aR t (some b) :: as).map (zcv adr)).toArray) hqq.1 hf hA hR hE hS hl hvr hls (k r1) ?_
  have hM' := fun l => hM l E.2.1 adr r1 σ hF (fun h => (hqq.2 h).elim hq id) hva
  obtain ⟨⟨p, l, e, R, s, m, args, below, meth, c⟩, E2⟩ := E
  obtain ⟨hx, hb, hml, hown, hts, hlk, hrt, hini, hRm, hK, hb0, hSp⟩ := hA
  subst hRm
  exact va_runV ⟨hx, hb, hml, hown, hts⟩ (hM' l) ⟨callB_of n hts (zgood hd.1) rfl rfl rfl (hts _ hd.2.1) (hts _ hlink) hd.2.2 ⟨hroom.1, hroom.2.1⟩, hts _ hi, hts _ hsel⟩ ⟨zPre_blind, hrecv, hpre⟩ rfl (by rw [List.length_map]; exact hn) hls.1 (zstk hst) (lv_room (by rw [zcats_eq]; exact hw)) hdg ⟨hroom.2.2.1, hroom.2.2.2⟩

theorem x_objInit {idx : Nat} {t i : Nat} (hlink : Cond.methodLink μ.1 idx Lib.objectInit ∈ tblG) (hinst : Cond.instanceMethod Lib.objectInit ∈ tblG) (hcode : Cond.code Lib.objectInit ⟨#[0xb1]⟩ 1 none ∈ tblG) (hdg : decode cc pc = .ok (.invokespecial idx, 3)) (hroom : 1 ≤ μ.2.2.2.1.frames ∧ 12 ≤ μ.2.2.2.1.locals)
    (k : X E cc μ q Qf kc ks σ als (pc + 3) [] f) : X E cc μ q Qf kc ks σ als pc [aR t (some i)] f := by
  intro r hf hA hq adr H locs ls hR hE hS hl hs hls
  have kk := k r hf hA hq adr H locs ls hR hE hS hl hs.tl hls
  obtain ⟨⟨p, l, e, R, s, m, args, below, meth, c⟩, E2⟩ := E
  obtain ⟨hx, hb, hml, hown, hts, hlk, hrt, hini, hRm, hK, hb0, hSp⟩ := hA
  subst hRm
  exact W.objInit hx hb hown (hts _ hlink) (hts _ hinst) (hts _ hcode) rfl (by rw [hml]; exact hls.1) rfl hdg hroom.1 hroom.2 (W.eq (g2 := F0 m (pc + 3) ls []) rfl kk)
noncomputable def zokc {β : Type} (σ : zSt) (k : Option β) : Option β := @ite _ (zOK σ) (Classical.propDecidable _) k none
theorem x_okc (h : zOK σ → X E cc μ q Qf kc ks σ als pc ast f) : X E cc μ q Qf kc ks σ als pc ast (zokc σ f) := by
  intro r hf
  unfold zokc at hf
  by_cases hO : zOK σ
  · rw [if_pos hO] at hf; exact h hO r hf
  · rw [if_neg hO] at hf; cases hf
theorem zacmp_iff {Ω : zOm} {adr : zadr} {H : Heap} {t : Nat} {x y : Option Nat} (hR : zRep Ω σ adr H) (ht : t < 15) (hx : zv1 σ (aR t x)) (hy : zv1 σ (aR t y)) : x.map (adr t) = y.map (adr t) ↔ x = y := by
  refine ⟨fun h => ?_, fun h => by rw [h]⟩
  obtain ⟨G, hu, hG, hP, hD, hV, hB, h15, hK5⟩ := hR
  cases x with
  | none => cases y with
    | none => rfl
    | some b => cases h
  | some a => cases y with
    | none => cases h
    | some b =>
      have h1 : (t, a) ∈ G := (hG t a).mpr (gN_of (by omega) hx)
      have h2 : (t, b) ∈ G := (hG t b).mpr (gN_of (by omega) hy)
      have := zws_adr (H := H) hD h1 h2 hu (Option.some.inj h)
      cases this
      rfl
theorem x_acmp_eq {t : Nat} {x y : Option Nat} {off : Int} (tgt : Nat) (ht15 : t < 15) (hdg : decode cc pc = .ok (.if_acmp .eq off, 3)) (ht : (pc : Int) + off = (tgt : Int)) {_ : Decidable (x = y)} (kt : x = y → X E cc μ q Qf kc ks σ als tgt ast f1) (kf : ¬ x = y → X E cc μ q Qf kc ks σ als (pc + 3) ast f2) : X E cc μ q Qf kc ks σ als pc (aR t y :: aR t x :: ast) (if x = y then f1 else f2) := by
  intro r hf hA hq adr H locs ls hR hE hS hl hs hls
  have hi := zacmp_iff hR ht15 hs.tl.hd hs.hd
  obtain ⟨⟨p, l, e, R, s, m, args, below, meth, c⟩, E2⟩ := E
  exact lv_acmp_eq hA.1 hA.2.1 hdg ht (fun hc => kt (hi.mp hc) r (by rw [if_pos (hi.mp hc)] at hf; exact hf) hA hq adr H locs ls hR hE hS hl hs.tl.tl hls) (fun hc => kf (fun z => hc (hi.mpr z)) r (by rw [if_neg fun z => hc (hi.mpr z)] at hf; exact hf) hA hq adr H locs ls hR hE hS hl hs.tl.tl hls)
theorem x_acmp_ne {t : Nat} {x y : Option Nat} {off : Int} (tgt : Nat) (ht15 : t < 15) (hdg : decode cc pc = .ok (.if_acmp .ne off, 3)) (ht : (pc : Int) + off = (tgt : Int)) {_ : Decidable (x = y)} (kt : ¬ x = y → X E cc μ q Qf kc ks σ als tgt ast f2) (kf : x = y → X E cc μ q Qf kc ks σ als (pc + 3) ast f1) : X E cc μ q Qf kc ks σ als pc (aR t y :: aR t x :: ast) (if x = y then f1 else f2) := by
  intro r hf hA hq adr H locs ls hR hE hS hl hs hls
  have hi := zacmp_iff hR ht15 hs.tl.hd hs.hd
  obtain ⟨⟨p, l, e, R, s, m, args, below, meth, c⟩, E2⟩ := E
  exact lv_acmp_ne hA.1 hA.2.1 hdg ht (fun hc => kt (fun z => hc (hi.mpr z)) r (by rw [if_neg fun z => hc (hi.mpr z)] at hf; exact hf) hA hq adr H locs ls hR hE hS hl hs.tl.tl hls) (fun hc => kf (hi.mp hc) r (by rw [if_pos (hi.mp hc)] at hf; exact hf) hA hq adr H locs ls hR hE hS hl hs.tl.tl hls)
end XK
