/-! THE STEPS: one row an instruction over the abstract heap; the answer of a whole method is a functional program f, which says none where the machine would throw. -/
def zlt {α β : Type} (x : α) (k : α → β) : β := k x
def zoc {β : Type} (o : Option Nat) (a : β) (k : Nat → β) : β := match o with
  | none => a
  | some i => k i
def zix {β : Type} (j : Int32) (n : Nat) (k : Nat → Option β) : Option β := if j < 0 ∨ n ≤ j.toNatClampNeg then none else k j.toNatClampNeg
def znz {β : Type} (y : Int32) (k : Option β) : Option β := if y = 0 then none else k
def znl {β : Type} (y : Int64) (k : Option β) : Option β := if y = 0 then none else k
def zbo {β : Type} (y : Int32) (k : Option β) : Option β := if y = 0 ∨ y = 1 then k else none
/-- a call that reads only; one that writes -/
def zc1 {α β : Type} (o : Option α) (k : α → Option β) : Option β := match o with
  | none => none
  | some r => k r
def zc2 {α β : Type} (o : Option (α × zSt)) (k : α → zSt → Option β) : Option β := match o with
  | none => none
  | some r => k r.1 r.2
def zro {α : Type} (o : Option α) (σ : zSt) : Option (α × zSt) := match o with
  | none => none
  | some r => some (r, σ)
abbrev zGT : Type := Program × (Launch × (Env × (Room × (State × (MethodId × (Array Value × (List Frame × (Method × Code))))))))
abbrev zMu : Type := String × (Nat × (Option FieldType × (Room × Bool)))
abbrev zEn : Type := zGT × (zOm × (zSt × zadr))
def ztys (Ω : zOm) : List (ClassId × FieldType) := (List.range 7).map (fun k => (oC Ω k, zety k))
theorem ztys_at (Ω : zOm) {k : Nat} (h : k < 7) : (ztys Ω)[k]? = some (oC Ω k, zety k) := by
  unfold ztys
  rw [List.getElem?_map, List.getElem?_range h]
  rfl
def zNest : List Cond := [.methodLinkNest RX11 43 yX9_init RX11, .methodLinkNest RX11 53 yX6_init RX11, .methodLinkNest RX11 60 yX2_init RX11, .methodLinkNest RX5 43 yX11_isIn RX11, .methodLinkNest RX1 11 yX4_init RX11, .methodLinkNest RX1 56 yX3_init RX11, .methodLinkNest RX4 25 yX11_isIn RX11, .methodLinkNest RX3 22 yX11_isIn RX11, .methodLinkNest RX0 84 yX11_isIn RX11, .methodLinkNest RX6 15 yX11_isDigit RX11, .methodLinkNest RX2 21 yX11_isDigit RX11, .methodLinkNest RX9 21 yX11_isIn RX11, .methodLinkNest RX6 97 yX11_isIn RX11, .methodLinkNest RX2 67 yX11_isIn RX11]
def zAOs : List String := [RX5, RX7, RX1, RX10]
def zslen : List Nat := [9, 4, 5, 5, 4]
def zsbyt : List (List Int32) := [[121, 107, 116, 115, 110, 111, 103, 100, 102], [60, 61, 33, 43], [98, 119, 104, 99, 118], [113, 121, 120, 98, 114], [43, 45, 42, 47]]
def zsref : List (String × (Nat × String)) := [(RX6, (23, "yktsnogdf")), (RX6, (29, "<=!+")), (RX6, (31, "bwhcv")), (RX2, (31, "qyxbr")), (RX2, (39, "+-*/"))]
/-- what is carried beside the tables' words: nest links, array classes, the String constants, a static of String, what Arrays.copyOf links -/
theorem zNw_warmS {a b c d : String} (hmh : a ≠ "java/lang/invoke/MethodHandle" ∧ a ≠ "java/lang/invoke/VarHandle") {s U : State} (hW : s.WarmedH U.vm) (hZ : va_Nw (.sameMethod a b c d) s) : va_Nw (.sameMethod a b c d) U := va_tabs rfl (rfl : (s.setVm U.vm).vm = U.vm) (Cond.sameMethod_setVm hW.alike hmh hZ)
def zSp (Ω : zOm) (U : State) : Prop :=
  (∀ w ∈ zNest, va_Nw w U) ∧ (∀ C ∈ zAOs, va_AO C U) ∧ vk_S 5 zslen zsbyt (oK Ω) (oV Ω) (zA (oB Ω)) U U.heap ∧ (∀ (k : Nat) (q : String × (Nat × String)), zsref[k]? = some q → vk_R q.1 q.2.1 q.2.2 (oK Ω k) U) ∧
  va_Z "java/lang/String" "COMPACT_STRINGS" "Z" (.int 1) (zA (oB Ω)) U U.heap ∧ va_Nw (.castable "[I" "java/lang/Cloneable") U ∧ va_Nw (.sameMethod "[I" "java/lang/Object" "clone" "()Ljava/lang/Object;") U ∧ ∀ k, k < 5 → oV Ω k = oK Ω (6 + k)
theorem zSp.moved {Ω : zOm} {s U : State} (hW : s.WarmedH U.vm) (hh : ∀ a : Nat, a < s.heap.size → ¬ zA (oB Ω) a → U.heap[a]? = s.heap[a]?) (h : zSp Ω s) : zSp Ω U := by
  obtain ⟨h1, h2, h3, h4, h5, h6, h7, h8⟩ := h
  refine ⟨fun w hw => ?_, fun C hC => va_AO.moved hW.alike (h2 C hC), (vk_S.moved hW.alike h3).kept hh, fun k q hk => vk_R.warm hW (h4 k q hk), (va_Z.moved hW.alike h5).kept hh, va_Nw.warmC hW h6, zNw_warmS ⟨by decide, by decide⟩ hW h7, h8⟩
  have hw' := h1 w hw
  unfold zNest at hw
  simp only [List.mem_cons, List.not_mem_nil, or_false] at hw
  rcases hw with rfl | rfl | rfl | rfl | rfl | rfl | rfl | rfl | rfl | rfl | rfl | rfl | rfl | rfl <;> exact va_Nw.warmM hW hw'
def zAmb (Γ : zGT) (Ω : zOm) (cc : ByteArray) (μ : zMu) : Prop := match Γ with
  | (p, _, _, R, s, m, args, _, meth, c) => p.tables.exec = Jvm.exec ∧ c.code = cc ∧ c.maxLocals = μ.2.1 ∧ s.vm.findClass μ.1 = some m.cls ∧ (∀ w ∈ tblG, w.before args s = true) ∧ meth.locks = false ∧ meth.sig.returnType = μ.2.2.1 ∧
    (μ.2.2.2.2 = true → meth.name = "<init>") ∧ R = μ.2.2.2.1 ∧ va_K (oD Ω) zcl (ztys Ω) s ∧ oB Ω ≤ s.heap.size ∧ zSp Ω s
def zWW (Γ : zGT) (H : Heap) (locs : List Loc) (k n : Nat) (Q : State → Prop) (pc : Nat) (ls : Array Slot) (st : List Value) : Prop := match Γ with
  | (p, l, e, R, s, m, args, below, meth, c) => W p l e R s m args below meth c H locs k n Q (F0 m pc ls st)
abbrev zsh (Γ : zGT) : Heap := Γ.2.2.2.2.1.heap
/-- the judgement: from pc, with these locals and this stack, the rest of the method goes as f says -/
def X (E : zEn) (cc : ByteArray) (μ : zMu) (q : Bool) {ρ : Type} (Qf : ρ → State → Prop) (kc ks : Nat) (σ : zSt) (als : List (Nat × zAV)) (pc : Nat) (ast : List zAV) (f : Option ρ) : Prop :=
  ∀ r, f = some r → zAmb E.1 E.2.1 cc μ → (q = true → zOK σ) → ∀ (adr : zadr) (H : Heap) (locs : List Loc) (ls : Array Slot),
    zRep E.2.1 σ adr H → zExt E.2.2.1 E.2.2.2 σ adr → va_S (zA (oB E.2.1)) (zsh E.1) H locs → zvl σ als → zvs σ ast → lv_has ls μ.2.1 (als.map (fun v => (v.1, zcv adr v.2))) →
    zWW E.1 H locs kc ks (Qf r) pc ls (ast.map (zcv adr))
section XS
variable {E : zEn} {cc : ByteArray} {μ : zMu} {q : Bool} {ρ : Type} {Qf : ρ → State → Prop} {kc ks : Nat} {σ : zSt} {als als' : List (Nat × zAV)} {pc : Nat} {ast : List zAV} {f f1 f2 : Option ρ}
theorem x_none : X E cc μ q Qf kc ks σ als pc ast (none : Option ρ) := fun r h => by cases h
theorem x_ite {c : Prop} {_ : Decidable c} (kt : c → X E cc μ q Qf kc ks σ als pc ast f1) (kf : ¬ c → X E cc μ q Qf kc ks σ als pc ast f2) : X E cc μ q Qf kc ks σ als pc ast (if c then f1 else f2) := by
  by_cases h : c
  · rw [if_pos h]; exact kt h
  · rw [if_neg h]; exact kf h
theorem x_nameI {x : Int32} {k : Int32 → Option ρ} (h : ∀ y, X E cc μ q Qf kc ks σ als pc (aI y :: ast) (k y)) : X E cc μ q Qf kc ks σ als pc (aI x :: ast) (zlt x k) := h x
theorem x_nameL {x : Int64} {k : Int64 → Option ρ} (h : ∀ y, X E cc μ q Qf kc ks σ als pc (aL y :: ast) (k y)) : X E cc μ q Qf kc ks σ als pc (aL x :: ast) (zlt x k) := h x
theorem x_nameR {t : Nat} {x : Option Nat} {k : Option Nat → Option ρ} (h : ∀ y, X E cc μ q Qf kc ks σ als pc (aR t y :: ast) (k y)) : X E cc μ q Qf kc ks σ als pc (aR t x :: ast) (zlt x k) := h x
theorem x_nameN {t : Nat} {x : Nat} {k : Nat → Option ρ} (h : ∀ y, X E cc μ q Qf kc ks σ als pc (aR t (some y) :: ast) (k y)) : X E cc μ q Qf kc ks σ als pc (aR t (some x) :: ast) (zlt x k) := h x
theorem x_nameS {k : zSt → Option ρ} (h : ∀ s1, X E cc μ q Qf kc ks s1 als pc ast (k s1)) : X E cc μ q Qf kc ks σ als pc ast (zlt σ k) := h σ
theorem x_topT {c : Prop} {_ : Decidable c} {a b : Int32} (hc : c) (k : X E cc μ q Qf kc ks σ als pc (aI (if c then a else b) :: ast) f) : X E cc μ q Qf kc ks σ als pc (aI a :: ast) f := by
  rw [if_pos hc] at k; exact k
theorem x_topF {c : Prop} {_ : Decidable c} {a b : Int32} (hc : ¬ c) (k : X E cc μ q Qf kc ks σ als pc (aI (if c then a else b) :: ast) f) : X E cc μ q Qf kc ks σ als pc (aI b :: ast) f := by
  rw [if_neg hc] at k; exact k
theorem x_sub (is : List Nat) (h : is.filterMap (fun i => als[i]?) = als') (k : X E cc μ q Qf kc ks σ als' pc ast f) : X E cc μ q Qf kc ks σ als pc ast f := by
  intro r hf hA hq adr H locs ls hR hE hS hl hs hls
  refine k r hf hA hq adr H locs ls hR hE hS (fun v hv => ?_) hs (lv_sub hls is ?_)
  · subst h
    obtain ⟨i, -, hi⟩ := List.mem_filterMap.mp hv
    exact hl v (List.mem_of_getElem? hi)
  · subst h
    unfold lv_pick
    rw [List.map_filterMap]
    congr 1
    funext i
    rw [List.getElem?_map]
theorem x_widen {kc' ks' : Nat} (h1 : kc ≤ kc') (h2 : ks ≤ ks') (k : X E cc μ q Qf kc' ks' σ als pc ast f) : X E cc μ q Qf kc ks σ als pc ast f := by
  intro r hf hA hq adr H locs ls hR hE hS hl hs hls
  have := k r hf hA hq adr H locs ls hR hE hS hl hs hls
  obtain ⟨⟨p, l, e, R, s, m, args, below, meth, c⟩, E2⟩ := E
  exact W.widen h1 h2 this
theorem zvs.cons {σ : zSt} {v : zAV} {l : List zAV} (h : zv1 σ v) (hl : zvs σ l) : zvs σ (v :: l) := fun w hw => by
  rcases List.mem_cons.mp hw with rfl | hw
  · exact h
  · exact hl w hw
theorem zvs.tl {σ : zSt} {v : zAV} {l : List zAV} (h : zvs σ (v :: l)) : zvs σ l := fun w hw => h w (List.mem_cons_of_mem _ hw)
theorem zvs.hd {σ : zSt} {v : zAV} {l : List zAV} (h : zvs σ (v :: l)) : zv1 σ v := h v List.mem_cons_self
def zget : List (Nat × zAV) → Nat → Option zAV
  | [], _ => none
  | (a, v) :: r, i => bif Nat.beq a i then some v else zget r i
theorem zget_mem : ∀ {l : List (Nat × zAV)} {i : Nat} {v : zAV}, zget l i = some v → (i, v) ∈ l
  | [], _, _, h => by cases h
  | (a, w) :: r, i, v, h => by
    unfold zget at h
    cases hb : Nat.beq a i with
    | true =>
      rw [hb] at h
      have hw : some w = some v := h
      cases hw
      have := Nat.eq_of_beq_eq_true hb
      subst this
      exact List.mem_cons_self
    | false =>
      rw [hb] at h
      exact List.mem_cons_of_mem _ (zget_mem h)
theorem zls_at {adr : zadr} {ls : Array Slot} {n i : Nat} {v : zAV} (h : lv_has ls n (als.map (fun v => (v.1, zcv adr v.2)))) (hg : zget als i = some v) : ls[i]? = some (.val (zcv adr v)) := h.2.2 (i, zcv adr v) (List.mem_map.mpr ⟨(i, v), zget_mem hg, rfl⟩)
def zset (l : List (Nat × zAV)) (i : Nat) (v : zAV) : List (Nat × zAV) := (i, v) :: l.filter (fun q => !(q.1 == i) && !(q.1 + 1 == i && zcat q.2 == 2))
def zset2 (l : List (Nat × zAV)) (i : Nat) (v : zAV) : List (Nat × zAV) := (i, v) :: l.filter (fun q => !(q.1 == i) && (!(q.1 == i + 1) && !(q.1 + 1 == i && zcat q.2 == 2)))
theorem zset_map (adr : zadr) (l : List (Nat × zAV)) (i : Nat) (v : zAV) : (i, zcv adr v) :: (l.map (fun v => (v.1, zcv adr v.2))).filter (fun q => !(q.1 == i) && !(q.1 + 1 == i && q.2.category == 2)) = (zset l i v).map (fun v => (v.1, zcv adr v.2)) := by
  unfold zset
  rw [List.map_cons, List.filter_map]
  congr 2
  refine List.filter_congr fun x _ => ?_
  simp only [Function.comp, zcat_eq]
theorem zset2_map (adr : zadr) (l : List (Nat × zAV)) (i : Nat) (v : zAV) : (i, zcv adr v) :: (l.map (fun v => (v.1, zcv adr v.2))).filter (fun q => !(q.1 == i) && (!(q.1 == i + 1) && !(q.1 + 1 == i && q.2.category == 2))) = (zset2 l i v).map (fun v => (v.1, zcv adr v.2)) := by
  unfold zset2
  rw [List.map_cons, List.filter_map]
  congr 2
  refine List.filter_congr fun x _ => ?_
  simp only [Function.comp, zcat_eq]
theorem zset_v {σ : zSt} {i : Nat} {v : zAV} (h : zvl σ als) (hv : zv1 σ v) : zvl σ (zset als i v) := fun w hw => by
  rcases List.mem_cons.mp hw with rfl | hw
  · exact hv
  · exact h w (List.mem_filter.mp hw).1
theorem zset2_v {σ : zSt} {i : Nat} {v : zAV} (h : zvl σ als) (hv : zv1 σ v) : zvl σ (zset2 als i v) := fun w hw => by
  rcases List.mem_cons.mp hw with rfl | hw
  · exact hv
  · exact h w (List.mem_filter.mp hw).1
end XS
