def zst0 : zSt := (fun _ _ _ => 0, fun _ _ _ => 0, fun _ _ _ => none, fun _ => 0, fun _ _ => 0)
/-- the whole law over the abstract heap -/
noncomputable def flaw (xs : Nat → Int32) (L : Nat) : Option Unit :=
  zc2 (f11_init 0 (nw zst0 11 0)) fun _ s2 =>
  if gN s2 12 = 0 then zc2 (f12_init 0 (nw s2 12 0)) fun _ s4 => flaw_L xs L 600 0 s4 else none
set_option maxRecDepth 20000 in
theorem xlaw_0 (E : zEn) {L : Nat} {xs : Nat → Int32} (hsc : zScr E L xs) (hb0 : oB E.2.1 = (zsh E.1).size) {b : Nat} (hargs : E.1.2.2.2.2.2.2.1 = #[Value.ref b]) : X E cL_law mlaw false (zQl E) 0 0 zst0 [(0, aR 15 (some 5))] 0 [] (flaw xs L) := by
  unfold flaw
  refine x_new (pc := 0) nw_11 tk_22 tk_23 tk_1 dL_law_0 rfl ⟨by decide, by decide⟩ ?_
  show X E _ _ _ _ 1 19 _ _ _ [aR 11 (some 0)] _
  refine x_dup (pc := 3) dL_law_3 rfl ?_
  refine x_callI (pc := 4) (as := []) (rest := [aR 11 (some 0)]) (fun l => c_11_init l 0 (nw zst0 11 0)) md_X11_init tk_25 rfl tk_24 dL_law_4 rfl ⟨by decide, by decide, by decide, by decide⟩ ⟨(fun h => nomatch h), (fun h => nomatch h)⟩ rfl (Nat.le_of_ble_eq_true rfl) (fun _ s2 => ?_)
  show X E _ _ _ _ 24 970 _ _ _ [aR 11 (some 0)] _
  refine x_astore_n (pc := 7) (als' := [(1, aR 11 (some 0)), (0, aR 15 (some 5))]) 1 dL_law_7 rfl (by decide) rfl ?_
  refine x_ite (fun h12 => ?_) (fun _ => x_none)
  refine x_new (pc := 8) nw_12 tk_1189 tk_1190 tk_7 dL_law_8 rfl ⟨by decide, by decide⟩ ?_
  rw [h12]
  show X E _ _ _ _ 25 1052 _ _ _ [aR 12 (some 0)] _
  refine x_dup (pc := 11) dL_law_11 rfl ?_
  refine x_callI (pc := 12) (as := []) (rest := [aR 12 (some 0)]) (fun l => c_12_init l 0 (nw s2 12 0)) md_X12_init tk_1192 rfl tk_1191 dL_law_12 rfl ⟨by decide, by decide, by decide, by decide⟩ ⟨(fun h => nomatch h), (fun h => nomatch h)⟩ rfl (Nat.le_of_ble_eq_true rfl) (fun _ s4 => ?_)
  show X E _ _ _ _ 77 32249 _ _ _ [aR 12 (some 0)] _
  refine x_astore_n (pc := 15) (als' := [(2, aR 12 (some 0)), (1, aR 11 (some 0)), (0, aR 15 (some 5))]) 2 dL_law_15 rfl (by decide) rfl ?_
  refine x_iconst (pc := 16) 0 dL_law_16 rfl ?_
  refine x_istore_n (pc := 17) (als' := [(3, aI 0), (2, aR 12 (some 0)), (1, aR 11 (some 0)), (0, aR 15 (some 5))]) 3 dL_law_17 rfl (by decide) rfl ?_
  exact x_sub [3, 2, 1, 0] rfl (xlaw_L E hsc hb0 hargs 600 0 s4 77 32249 (by decide) (by decide))
theorem zkn {s : State} {args : Array Value} {C : String} {T : u_T} {N n : Nat} (hin : ∀ w ∈ u_ws C T N, w ∈ tblG) (hi : (Cond.instantiable C n).before args s = true) (hts : ∀ w ∈ tblG, w.before args s = true) : ∃ q : ClassId × (Nat → Nat), u_Kn s C T N q.1 q.2 := by
  obtain ⟨cC, iS, h⟩ := u_known hts hin hi
  exact ⟨(cC, iS), h⟩
theorem zkn_all {s : State} {args : Array Value} (hts : ∀ w ∈ tblG, w.before args s = true) : ∀ r ∈ zcl, ∃ q : ClassId × (Nat → Nat), u_Kn s r.1 r.2.1 r.2.2 q.1 q.2 := by
  show ∀ r ∈ ([(RX0, TX0, 8), (RX1, TX1, 16), (RX2, TX2, 4), (RX3, TX3, 3), (RX4, TX4, 4), (RX5, TX5, 12), (RX6, TX6, 9), (RX7, TX7, 3), (RX7, TX7, 3), (RX9, TX9, 2), (RX10, TX10, 3), (RX11, TX11, 19), (RX12, TX12, 82)] : List vw_C), _
  exact (List.forall_mem_cons.mpr ⟨(zkn inG0 (hts _ tk_112) hts), (List.forall_mem_cons.mpr ⟨(zkn inG1 (hts _ tk_384) hts), (List.forall_mem_cons.mpr ⟨(zkn inG2 (hts _ tk_93) hts), (List.forall_mem_cons.mpr ⟨(zkn inG3 (hts _ tk_412) hts), (List.forall_mem_cons.mpr ⟨(zkn inG4 (hts _ tk_340) hts), (List.forall_mem_cons.mpr ⟨(zkn inG5 (hts _ tk_221) hts), (List.forall_mem_cons.mpr ⟨(zkn inG6 (hts _ tk_54) hts), (List.forall_mem_cons.mpr ⟨(zkn inG7 (hts _ tk_358) hts), (List.forall_mem_cons.mpr ⟨(zkn inG7 (hts _ tk_358) hts), (List.forall_mem_cons.mpr ⟨(zkn inG9 (hts _ tk_37) hts), (List.forall_mem_cons.mpr ⟨(zkn inG10 (hts _ tk_938) hts), (List.forall_mem_cons.mpr ⟨(zkn inG11 (hts _ tk_23) hts), (List.forall_mem_cons.mpr ⟨(zkn inG12 (hts _ tk_1190) hts), (fun _ h => absurd h List.not_mem_nil)⟩)⟩)⟩)⟩)⟩)⟩)⟩)⟩)⟩)⟩)⟩)⟩)⟩)
theorem zarr_p {s : State} {args : Array Value} {ty : FieldType} (h : (Cond.arrayClass ty).before args s = true) (hr : ∀ cA, s.vm.findClass ("[" ++ ty.toString) = some cA → va_RA s cA ty) : ∃ cA : ClassId, ArrOfT s cA ty ∧ va_RA s cA ty := by
  obtain ⟨c, k, comp, h1, h2, h3⟩ := Cond.arrayClass_spec (args := args) (first := s) (o := none) (s := s) (idx := []) h
  exact ⟨c, fun n z => ⟨fun k h => (by cases h), k, h2, comp, h3⟩, hr c h1⟩
theorem zarr_o {s : State} {args : Array Value} {C : String} (h : (Cond.arrayOver (.object C)).before args s = true) : ∃ cA : ClassId, ArrOfT s cA (.object C) ∧ va_RA s cA (.object C) := by
  obtain ⟨comp, c, k, h1, h2, h3, h4, h5⟩ := Cond.arrayOver_spec (args := args) (first := s) (o := none) (s := s) (idx := []) h
  exact ⟨c, fun n z => ⟨fun k h => (by cases h), k, h3, comp, h4⟩, k, comp, h3, h4, h1, h5⟩
theorem zarr_all {s : State} {args : Array Value} (hts : ∀ w ∈ tblG, w.before args s = true) (htl : ∀ w ∈ lw_tbl, w.before args s = true) : ∀ k, k < 7 → ∃ cA : ClassId, ArrOfT s cA (zety k) ∧ va_RA s cA (zety k) := by
  intro k hk
  match k, hk with
  | 0, _ => exact zarr_p (hts _ tk_52) fun _ h => h
  | 1, _ => exact zarr_p (hts _ tk_151) fun _ h => h
  | 2, _ => exact zarr_p (hts _ tk_150) fun _ h => h
  | 3, _ => exact zarr_o (htl _ tk_31)
  | 4, _ => exact zarr_o (htl _ tk_33)
  | 5, _ => exact zarr_o (htl _ tk_35)
  | 6, _ => exact zarr_o (htl _ tk_43)
theorem zlt5 {P : Nat → Prop} (h0 : P 0) (h1 : P 1) (h2 : P 2) (h3 : P 3) (h4 : P 4) : ∀ i, i < 5 → P i := fun i hi => by
  rcases (by omega : i = 0 ∨ i = 1 ∨ i = 2 ∨ i = 3 ∨ i = 4) with rfl | rfl | rfl | rfl | rfl <;> assumption
def zstm (i : Nat) : Term := match i with | 0 => .string RX6 23 | 1 => .string RX6 29 | 2 => .string RX6 31 | 3 => .string RX2 31 | _ => .string RX2 39
theorem zstrs {s : State} {args : Array Value} (hgv : (Jvm.Cond.and given_1 narrow_1).before args s = true) {A : Nat → Prop} (hA : ∀ a : Nat, a < s.heap.size → ¬ A a) : ∃ adK adV : Nat → Nat, vk_S 5 zslen zsbyt adK adV A s s.heap ∧ ∀ i : Nat, i < 5 → (zstm i).eval args s none [] s = some (.ref (adK i)) := by
  have hs := flat_of_before _ hgv
  refine vk_Sof (tm := zstm) (fun i hi => ?_) (fun i hi => zlt5 (P := fun i => (Cond.exactly (zstm i) "java/lang/String").before args s = true) (hs _ (by decide +kernel)) (hs _ (by decide +kernel)) (hs _ (by decide +kernel)) (hs _ (by decide +kernel)) (hs _ (by decide +kernel)) i hi) (fun i hi => zlt5 (P := fun i => (Cond.eq (.field (zstm i) "java/lang/String" "coder" "B") (.int 0)).before args s = true) (hs _ (by decide +kernel)) (hs _ (by decide +kernel)) (hs _ (by decide +kernel)) (hs _ (by decide +kernel)) (hs _ (by decide +kernel)) i hi) (fun i hi => zlt5 (P := fun i => (Cond.arrayOf (.field (zstm i) "java/lang/String" "value" "[B") .byte).before args s = true) (hs _ (by decide +kernel)) (hs _ (by decide +kernel)) (hs _ (by decide +kernel)) (hs _ (by decide +kernel)) (hs _ (by decide +kernel)) i hi) (fun i hi => zlt5 (P := fun i => (Cond.eq (.length (.field (zstm i) "java/lang/String" "value" "[B")) (.int (Int32.ofNat (zslen.getD i 0)))).before args s = true) (hs _ (by decide +kernel)) (hs _ (by decide +kernel)) (hs _ (by decide +kernel)) (hs _ (by decide +kernel)) (hs _ (by decide +kernel)) i hi) (fun i hi => ?_) (fun i j hi hj hne => ?_) hA
  · rcases (by omega : i = 0 ∨ i = 1 ∨ i = 2 ∨ i = 3 ∨ i = 4) with rfl | rfl | rfl | rfl | rfl <;> decide
  · rcases (by omega : i = 0 ∨ i = 1 ∨ i = 2 ∨ i = 3 ∨ i = 4) with rfl | rfl | rfl | rfl | rfl
    · exact zS1 (zS1 (zS1 (zS1 (zS1 (zS1 (zS1 (zS1 (zS1 zS0 (hs _ (by decide +kernel))) (hs _ (by decide +kernel))) (hs _ (by decide +kernel))) (hs _ (by decide +kernel))) (hs _ (by decide +kernel))) (hs _ (by decide +kernel))) (hs _ (by decide +kernel))) (hs _ (by decide +kernel))) (hs _ (by decide +kernel))
    · exact zS1 (zS1 (zS1 (zS1 zS0 (hs _ (by decide +kernel))) (hs _ (by decide +kernel))) (hs _ (by decide +kernel))) (hs _ (by decide +kernel))
    · exact zS1 (zS1 (zS1 (zS1 (zS1 zS0 (hs _ (by decide +kernel))) (hs _ (by decide +kernel))) (hs _ (by decide +kernel))) (hs _ (by decide +kernel))) (hs _ (by decide +kernel))
    · exact zS1 (zS1 (zS1 (zS1 (zS1 zS0 (hs _ (by decide +kernel))) (hs _ (by decide +kernel))) (hs _ (by decide +kernel))) (hs _ (by decide +kernel))) (hs _ (by decide +kernel))
    · exact zS1 (zS1 (zS1 (zS1 zS0 (hs _ (by decide +kernel))) (hs _ (by decide +kernel))) (hs _ (by decide +kernel))) (hs _ (by decide +kernel))
  · rcases (by omega : i = 0 ∨ i = 1 ∨ i = 2 ∨ i = 3 ∨ i = 4) with rfl | rfl | rfl | rfl | rfl <;> rcases (by omega : j = 0 ∨ j = 1 ∨ j = 2 ∨ j = 3 ∨ j = 4) with rfl | rfl | rfl | rfl | rfl <;>
      first | exact absurd rfl hne | exact Or.inl (hs _ (by decide +kernel)) | exact Or.inr (hs _ (by decide +kernel))
theorem zSp_start {s : State} {args : Array Value} (hgv : (Jvm.Cond.and given_1 narrow_1).before args s = true) (hts : ∀ w ∈ tblG, w.before args s = true) (htl : ∀ w ∈ lw_tbl, w.before args s = true) (D : va_G) (cy : Nat → ClassId) (b : Nat) : ∃ adK adV : Nat → Nat, adK 5 = b ∧ zSp (D, (cy, (s.heap.size, (adK, adV)))) s := by
  have hA : ∀ a : Nat, a < s.heap.size → ¬ zA s.heap.size a := fun a h h2 => Nat.lt_irrefl _ (Nat.lt_of_lt_of_le h h2)
  obtain ⟨adK, adV, h1, h2⟩ := zstrs hgv hA
  have hs := flat_of_before _ hgv
  have hS : vk_S 5 zslen zsbyt (fun i => if i = 5 then b else if i < 5 then adK i else adV (i - 6)) adV (zA s.heap.size) s s.heap := by
    refine ⟨fun i hi => ?_, fun i j hi hj e => ?_⟩
    · dsimp only; rw [if_neg (by omega : ¬ i = 5), if_pos hi]; exact h1.1 i hi
    · dsimp only at e; rw [if_neg (by omega : ¬ i = 5), if_neg (by omega : ¬ j = 5), if_pos hi, if_pos hj] at e; exact h1.2 i j hi hj e
  refine ⟨fun i => if i = 5 then b else if i < 5 then adK i else adV (i - 6), adV, if_pos rfl, ?_, ?_, hS, fun k q hk => ?_, va_Zof (htl _ tk_853) (hts _ tk_15) (va_eqt (hs _ (by decide +kernel))) hA, va_Nw.of rfl (htl _ tk_947), va_Nw.of rfl (htl _ tk_943), fun k hk => by show adV k = (if 6 + k = 5 then b else if 6 + k < 5 then adK (6 + k) else adV (6 + k - 6)); rw [if_neg (by omega), if_neg (by omega), Nat.add_sub_cancel_left]⟩
  · show ∀ w ∈ zNest, va_Nw w s
    exact (List.forall_mem_cons.mpr ⟨va_Nw.of rfl (htl _ tk_38), (List.forall_mem_cons.mpr ⟨va_Nw.of rfl (htl _ tk_55), (List.forall_mem_cons.mpr ⟨va_Nw.of rfl (htl _ tk_94), (List.forall_mem_cons.mpr ⟨va_Nw.of rfl (htl _ tk_308), (List.forall_mem_cons.mpr ⟨va_Nw.of rfl (htl _ tk_390), (List.forall_mem_cons.mpr ⟨va_Nw.of rfl (htl _ tk_413), (List.forall_mem_cons.mpr ⟨va_Nw.of rfl (htl _ tk_561), (List.forall_mem_cons.mpr ⟨va_Nw.of rfl (htl _ tk_711), (List.forall_mem_cons.mpr ⟨va_Nw.of rfl (htl _ tk_774), (List.forall_mem_cons.mpr ⟨va_Nw.of rfl (htl _ tk_830), (List.forall_mem_cons.mpr ⟨va_Nw.of rfl (htl _ tk_927), (List.forall_mem_cons.mpr ⟨va_Nw.of rfl (htl _ tk_1006), (List.forall_mem_cons.mpr ⟨va_Nw.of rfl (htl _ tk_1044), (List.forall_mem_cons.mpr ⟨va_Nw.of rfl (htl _ tk_1070), (fun _ h => absurd h List.not_mem_nil)⟩)⟩)⟩)⟩)⟩)⟩)⟩)⟩)⟩)⟩)⟩)⟩)⟩)⟩)
  · show ∀ C ∈ zAOs, va_AO C s
    exact (List.forall_mem_cons.mpr ⟨va_AO.of (htl _ tk_31), (List.forall_mem_cons.mpr ⟨va_AO.of (htl _ tk_33), (List.forall_mem_cons.mpr ⟨va_AO.of (htl _ tk_35), (List.forall_mem_cons.mpr ⟨va_AO.of (htl _ tk_43), (fun _ h => absurd h List.not_mem_nil)⟩)⟩)⟩)⟩)
  · have hlt : k < 5 := (List.getElem?_eq_some_iff.mp hk).1
    show vk_R q.1 q.2.1 q.2.2 (if k = 5 then b else if k < 5 then adK k else adV (k - 6)) s
    rw [if_neg (by omega), if_pos hlt]
    have h2 := h2 k hlt
    rcases (by omega : k = 0 ∨ k = 1 ∨ k = 2 ∨ k = 3 ∨ k = 4) with rfl | rfl | rfl | rfl | rfl <;> (cases hk)
    · exact vk_R.of (htl _ tk_836) h2
    · exact vk_R.of (htl _ tk_922) h2
    · exact vk_R.of (htl _ tk_923) h2
    · exact vk_R.of (htl _ tk_931) h2
    · exact vk_R.of (htl _ tk_936) h2
/-- from the functional program of the law to the machine -/
theorem whole_of (hfun : ∀ (L : Nat) (xs : Nat → Int32), L ≤ 2560 → flaw xs L = some ()) {p : Program} {e : Env} {s : State} {m : MethodId} {below : List Frame} {meth : Method} {c : Code} (l : Launch) {b L : Nat} {xs : Nat → Int32} (hL : L ≤ 2560) (C0 : lw_At p s m meth c b L xs) : W p l e room_1 s m #[Value.ref b] below meth c s.heap [] 0 0 (lw_Z below #[Value.ref b] s) (entryFrame m ([Value.ref b] : List Value).toArray 4) := by
  obtain ⟨hx, hcode, hret, hml, hown, htl, hX, hbl, hlocks, hgv⟩ := C0
  have hts : ∀ w ∈ tblG, w.before #[Value.ref b] s = true := fun w hw => htl w (List.mem_filter.mp hw).1
  have hkn : ∀ c : Nat, ∃ q : ClassId × (Nat → Nat), ∀ r, zcl[c]? = some r → u_Kn s r.1 r.2.1 r.2.2 q.1 q.2 := fun c => by
    cases h : zcl[c]? with
    | none => exact ⟨(0, fun _ => 0), fun r hr => by cases hr⟩
    | some r =>
      obtain ⟨q, hq⟩ := zkn_all hts r (List.mem_of_getElem? h)
      exact ⟨q, fun r' hr => by cases hr; exact hq⟩
  obtain ⟨dd, hdd⟩ := Classical.axiomOfChoice hkn
  have har : ∀ k : Nat, ∃ cA : ClassId, k < 7 → ArrOfT s cA (zety k) ∧ va_RA s cA (zety k) := fun k => by
    by_cases h : k < 7
    · obtain ⟨cA, h1⟩ := zarr_all hts htl k h
      exact ⟨cA, fun _ => h1⟩
    · exact ⟨0, fun h2 => absurd h2 h⟩
  obtain ⟨cy, hcy⟩ := Classical.axiomOfChoice har
  obtain ⟨adK, adV, hK5, hSp⟩ := zSp_start hgv hts htl (fun c => (dd c).1, fun c => (dd c).2) cy b
  have hKK : va_K (fun c => (dd c).1, fun c => (dd c).2) zcl (ztys ((fun c => (dd c).1, fun c => (dd c).2), (cy, (s.heap.size, (adK, adV))))) s := by
    refine ⟨fun c q hq => hdd c q hq, fun k q hk => ?_⟩
    unfold ztys at hk
    rw [List.getElem?_map] at hk
    by_cases h : k < 7
    · rw [List.getElem?_range h] at hk
      cases hk
      exact hcy k h
    · rw [List.getElem?_eq_none (by rw [List.length_range]; omega)] at hk
      cases hk
  have hl := lv_entry [Value.ref b] (n := 4) (Nat.le_of_ble_eq_true rfl)
  rw [lg_entry_eq]
  have hsc : zScr ((p, l, e, room_1, s, m, #[Value.ref b], below, meth, c), (((fun c => (dd c).1, fun c => (dd c).2), (cy, (s.heap.size, (adK, adV)))), (zst0, fun _ i => adK i))) L xs := by
    refine ⟨?_, ?_, ?_⟩
    · show va_X (adK 5) L xs s s.heap
      rw [hK5]; exact hX
    · show adK 5 < s.heap.size
      rw [hK5]; exact hbl
    · show ¬ s.heap.size ≤ adK 5
      rw [hK5]; omega
  have hX0 := xlaw_0 ((p, l, e, room_1, s, m, #[Value.ref b], below, meth, c), (((fun c => (dd c).1, fun c => (dd c).2), (cy, (s.heap.size, (adK, adV)))), (zst0, fun _ i => adK i))) hsc rfl (b := b) rfl
  have := hX0 () (hfun L xs hL) ⟨hx, hcode, hml, hown, hts, hlocks, hret, (fun h => nomatch h), rfl, hKK, Nat.le_refl _, hSp⟩ (fun h => nomatch h) (fun _ i => adK i) s.heap [] _
    ⟨[], (fun a b p h => by cases h), (fun t i => ⟨fun h => absurd h List.not_mem_nil, fun h => absurd h (Nat.not_lt_zero _)⟩), (fun k q h => by cases h), ⟨(fun i j p q h => by cases h), (fun k q h => by cases h)⟩, (fun t i k g j h => absurd h (Nat.not_lt_zero _)), Nat.le_refl _, rfl, fun i _ => rfl⟩
    zExt.rf va_S.rf (fun v hv => by rcases List.mem_singleton.mp hv with rfl; exact (by decide : 5 < 11)) (fun _ h => by cases h)
    (by
      show lv_has _ 4 [(0, Value.ref (adK 5))]
      rw [hK5]
      exact hl)
  exact this
