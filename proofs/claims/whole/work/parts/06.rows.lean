def zop_idiv (x y : Int32) : Int32 := x / y
def zop_irem (x y : Int32) : Int32 := (x - x / y * y)
def zop_ldiv (x y : Int64) : Int64 := x / y
def zop_lrem (x y : Int64) : Int64 := (x - x / y * y)
def zop_ishl (x y : Int32) : Int32 := (x <<< (y &&& 31))
def zop_ishr (x y : Int32) : Int32 := (x >>> (y &&& 31))
def zop_iushr (x y : Int32) : Int32 := (x.toUInt32 >>> (y.toUInt32 &&& Int32.toUInt32 31)).toInt32
section XR
variable {E : zEn} {cc : ByteArray} {μ : zMu} {q : Bool} {ρ : Type} {Qf : ρ → State → Prop} {kc ks : Nat} {σ : zSt} {als als' : List (Nat × zAV)} {pc : Nat} {ast : List zAV} {f f1 f2 : Option ρ}
theorem x_iconst {n : Int} (v : Int32) (hdg : decode cc pc = .ok (.iconst n, 1)) (hv : Int32.ofInt n = v) (k : X E cc μ q Qf kc ks σ als (pc + 1) (aI v :: ast) f) : X E cc μ q Qf kc ks σ als pc (ast) f := by
  intro r hf hA hq adr H locs ls hR hE hS hl hs hls
  obtain ⟨⟨p, l, e, R, s, m, args, below, meth, c⟩, E2⟩ := E
  exact lv_iconst hA.1 hA.2.1 hdg hv (k r hf hA hq adr H locs ls hR hE hS hl (zvs.cons trivial hs) hls)
theorem x_bipush {n : Int} (v : Int32) (hdg : decode cc pc = .ok (.bipush n, 2)) (hv : (Int8.ofInt n).toInt32 = v) (k : X E cc μ q Qf kc ks σ als (pc + 2) (aI v :: ast) f) : X E cc μ q Qf kc ks σ als pc (ast) f := by
  intro r hf hA hq adr H locs ls hR hE hS hl hs hls
  obtain ⟨⟨p, l, e, R, s, m, args, below, meth, c⟩, E2⟩ := E
  exact lv_bipush hA.1 hA.2.1 hdg hv (k r hf hA hq adr H locs ls hR hE hS hl (zvs.cons trivial hs) hls)
theorem x_sipush {n : Int} (v : Int32) (hdg : decode cc pc = .ok (.sipush n, 3)) (hv : (Int16.ofInt n).toInt32 = v) (k : X E cc μ q Qf kc ks σ als (pc + 3) (aI v :: ast) f) : X E cc μ q Qf kc ks σ als pc (ast) f := by
  intro r hf hA hq adr H locs ls hR hE hS hl hs hls
  obtain ⟨⟨p, l, e, R, s, m, args, below, meth, c⟩, E2⟩ := E
  exact lv_sipush hA.1 hA.2.1 hdg hv (k r hf hA hq adr H locs ls hR hE hS hl (zvs.cons trivial hs) hls)
theorem x_lconst {n : Fin 2} (v : Int64) (hdg : decode cc pc = .ok (.lconst n, 1)) (hv : Int64.ofNat (n : Nat) = v) (k : X E cc μ q Qf kc ks σ als (pc + 1) (aL v :: ast) f) : X E cc μ q Qf kc ks σ als pc (ast) f := by
  intro r hf hA hq adr H locs ls hR hE hS hl hs hls
  obtain ⟨⟨p, l, e, R, s, m, args, below, meth, c⟩, E2⟩ := E
  exact lv_lconst hA.1 hA.2.1 hdg hv (k r hf hA hq adr H locs ls hR hE hS hl (zvs.cons trivial hs) hls)
theorem x_null (t : Nat) (hdg : decode cc pc = .ok (.aconst_null, 1)) (k : X E cc μ q Qf kc ks σ als (pc + 1) (aR t none :: ast) f) : X E cc μ q Qf kc ks σ als pc ast f := by
  intro r hf hA hq adr H locs ls hR hE hS hl hs hls
  obtain ⟨⟨p, l, e, R, s, m, args, below, meth, c⟩, E2⟩ := E
  exact lv_null hA.1 hA.2.1 hdg (k r hf hA hq adr H locs ls hR hE hS hl (zvs.cons trivial hs) hls)
theorem x_iload (i : Nat) {x : Int32} (hdg : decode cc pc = .ok (.iload i, 2)) (hg : zget als i = some (aI x)) (k : X E cc μ q Qf kc ks σ als (pc + 2) (aI x :: ast) f) : X E cc μ q Qf kc ks σ als pc ast f := by
  intro r hf hA hq adr H locs ls hR hE hS hl hs hls
  obtain ⟨⟨p, l, e, R, s, m, args, below, meth, c⟩, E2⟩ := E
  exact lv_iload hA.1 hA.2.1 hdg (zls_at hls hg) (k r hf hA hq adr H locs ls hR hE hS hl (zvs.cons trivial hs) hls)
theorem x_iload_n (i : Nat) {x : Int32} {n : Fin 4} (hdg : decode cc pc = .ok (.iload_n n, 1)) (hi : (n : Nat) = i) (hg : zget als i = some (aI x)) (k : X E cc μ q Qf kc ks σ als (pc + 1) (aI x :: ast) f) : X E cc μ q Qf kc ks σ als pc ast f := by
  intro r hf hA hq adr H locs ls hR hE hS hl hs hls
  obtain ⟨⟨p, l, e, R, s, m, args, below, meth, c⟩, E2⟩ := E
  exact lv_iload_n hA.1 hA.2.1 hdg hi (zls_at hls hg) (k r hf hA hq adr H locs ls hR hE hS hl (zvs.cons trivial hs) hls)
theorem x_lload (i : Nat) {x : Int64} (hdg : decode cc pc = .ok (.lload i, 2)) (hg : zget als i = some (aL x)) (k : X E cc μ q Qf kc ks σ als (pc + 2) (aL x :: ast) f) : X E cc μ q Qf kc ks σ als pc ast f := by
  intro r hf hA hq adr H locs ls hR hE hS hl hs hls
  obtain ⟨⟨p, l, e, R, s, m, args, below, meth, c⟩, E2⟩ := E
  exact lv_lload hA.1 hA.2.1 hdg (zls_at hls hg) (k r hf hA hq adr H locs ls hR hE hS hl (zvs.cons trivial hs) hls)
theorem x_lload_n (i : Nat) {x : Int64} {n : Fin 4} (hdg : decode cc pc = .ok (.lload_n n, 1)) (hi : (n : Nat) = i) (hg : zget als i = some (aL x)) (k : X E cc μ q Qf kc ks σ als (pc + 1) (aL x :: ast) f) : X E cc μ q Qf kc ks σ als pc ast f := by
  intro r hf hA hq adr H locs ls hR hE hS hl hs hls
  obtain ⟨⟨p, l, e, R, s, m, args, below, meth, c⟩, E2⟩ := E
  exact lv_lload_n hA.1 hA.2.1 hdg hi (zls_at hls hg) (k r hf hA hq adr H locs ls hR hE hS hl (zvs.cons trivial hs) hls)
theorem x_aload (i : Nat) {t : Nat} {o : Option Nat} (hdg : decode cc pc = .ok (.aload i, 2)) (hg : zget als i = some (aR t o)) (k : X E cc μ q Qf kc ks σ als (pc + 2) (aR t o :: ast) f) : X E cc μ q Qf kc ks σ als pc ast f := by
  intro r hf hA hq adr H locs ls hR hE hS hl hs hls
  obtain ⟨⟨p, l, e, R, s, m, args, below, meth, c⟩, E2⟩ := E
  have hv : zv1 σ (aR t o) := hl _ (zget_mem hg)
  have hls' := zls_at hls hg
  have kk := k r hf hA hq adr H locs ls hR hE hS hl (zvs.cons hv hs) hls
  cases o with
  | none => exact lv_aloadN hA.1 hA.2.1 hdg hls' kk
  | some j => exact lv_aload hA.1 hA.2.1 hdg hls' kk
theorem x_aload_n (i : Nat) {t : Nat} {o : Option Nat} {n : Fin 4} (hdg : decode cc pc = .ok (.aload_n n, 1)) (hi : (n : Nat) = i) (hg : zget als i = some (aR t o)) (k : X E cc μ q Qf kc ks σ als (pc + 1) (aR t o :: ast) f) : X E cc μ q Qf kc ks σ als pc ast f := by
  intro r hf hA hq adr H locs ls hR hE hS hl hs hls
  obtain ⟨⟨p, l, e, R, s, m, args, below, meth, c⟩, E2⟩ := E
  have hv : zv1 σ (aR t o) := hl _ (zget_mem hg)
  have hls' := zls_at hls hg
  have kk := k r hf hA hq adr H locs ls hR hE hS hl (zvs.cons hv hs) hls
  cases o with
  | none => exact lv_aload_nN hA.1 hA.2.1 hdg hi hls' kk
  | some j => exact lv_aload_n hA.1 hA.2.1 hdg hi hls' kk
theorem x_istore (i : Nat) {x : Int32} (hdg : decode cc pc = .ok (.istore i, 2)) (hn : i < μ.2.1) (he : zset als i (aI x) = als') (k : X E cc μ q Qf kc ks σ als' (pc + 2) ast f) : X E cc μ q Qf kc ks σ als pc (aI x :: ast) f := by
  intro r hf hA hq adr H locs ls hR hE hS hl hs hls
  obtain ⟨⟨p, l, e, R, s, m, args, below, meth, c⟩, E2⟩ := E
  subst he
  exact lv_istore hA.1 hA.2.1 hdg hls hn (zset_map adr als i (aI x)) fun ls hls => (k r hf hA hq adr H locs ls hR hE hS (zset_v hl trivial) hs.tl hls)
theorem x_istore_n (i : Nat) {x : Int32} {n : Fin 4} (hdg : decode cc pc = .ok (.istore_n n, 1)) (hi : (n : Nat) = i) (hn : i < μ.2.1) (he : zset als i (aI x) = als') (k : X E cc μ q Qf kc ks σ als' (pc + 1) ast f) : X E cc μ q Qf kc ks σ als pc (aI x :: ast) f := by
  intro r hf hA hq adr H locs ls hR hE hS hl hs hls
  obtain ⟨⟨p, l, e, R, s, m, args, below, meth, c⟩, E2⟩ := E
  subst he
  exact lv_istore_n hA.1 hA.2.1 hdg hi hls hn (zset_map adr als i (aI x)) fun ls hls => (k r hf hA hq adr H locs ls hR hE hS (zset_v hl trivial) hs.tl hls)
theorem x_lstore (i : Nat) {x : Int64} (hdg : decode cc pc = .ok (.lstore i, 2)) (hn : i + 1 < μ.2.1) (he : zset2 als i (aL x) = als') (k : X E cc μ q Qf kc ks σ als' (pc + 2) ast f) : X E cc μ q Qf kc ks σ als pc (aL x :: ast) f := by
  intro r hf hA hq adr H locs ls hR hE hS hl hs hls
  obtain ⟨⟨p, l, e, R, s, m, args, below, meth, c⟩, E2⟩ := E
  subst he
  exact lv_lstore hA.1 hA.2.1 hdg hls hn (zset2_map adr als i (aL x)) fun ls hls => (k r hf hA hq adr H locs ls hR hE hS (zset2_v hl trivial) hs.tl hls)
theorem x_lstore_n (i : Nat) {x : Int64} {n : Fin 4} (hdg : decode cc pc = .ok (.lstore_n n, 1)) (hi : (n : Nat) = i) (hn : i + 1 < μ.2.1) (he : zset2 als i (aL x) = als') (k : X E cc μ q Qf kc ks σ als' (pc + 1) ast f) : X E cc μ q Qf kc ks σ als pc (aL x :: ast) f := by
  intro r hf hA hq adr H locs ls hR hE hS hl hs hls
  obtain ⟨⟨p, l, e, R, s, m, args, below, meth, c⟩, E2⟩ := E
  subst he
  exact lv_lstore_n hA.1 hA.2.1 hdg hi hls hn (zset2_map adr als i (aL x)) fun ls hls => (k r hf hA hq adr H locs ls hR hE hS (zset2_v hl trivial) hs.tl hls)
theorem x_astore (i : Nat) {t : Nat} {o : Option Nat} (hdg : decode cc pc = .ok (.astore i, 2)) (hn : i < μ.2.1) (he : zset als i (aR t o) = als') (k : X E cc μ q Qf kc ks σ als' (pc + 2) ast f) : X E cc μ q Qf kc ks σ als pc (aR t o :: ast) f := by
  intro r hf hA hq adr H locs ls hR hE hS hl hs hls
  obtain ⟨⟨p, l, e, R, s, m, args, below, meth, c⟩, E2⟩ := E
  subst he
  have kk := fun ls hls => k r hf hA hq adr H locs ls hR hE hS (zset_v hl hs.hd) hs.tl hls
  have hm := zset_map adr als i (aR t o)
  cases o with
  | none => exact lv_astoreN hA.1 hA.2.1 hdg hls hn hm kk
  | some j => exact lv_astore hA.1 hA.2.1 hdg hls hn hm kk
theorem x_astore_n (i : Nat) {t : Nat} {o : Option Nat} {n : Fin 4} (hdg : decode cc pc = .ok (.astore_n n, 1)) (hi : (n : Nat) = i) (hn : i < μ.2.1) (he : zset als i (aR t o) = als') (k : X E cc μ q Qf kc ks σ als' (pc + 1) ast f) : X E cc μ q Qf kc ks σ als pc (aR t o :: ast) f := by
  intro r hf hA hq adr H locs ls hR hE hS hl hs hls
  obtain ⟨⟨p, l, e, R, s, m, args, below, meth, c⟩, E2⟩ := E
  subst he
  have kk := fun ls hls => k r hf hA hq adr H locs ls hR hE hS (zset_v hl hs.hd) hs.tl hls
  have hm := zset_map adr als i (aR t o)
  cases o with
  | none => exact lv_astore_nN hA.1 hA.2.1 hdg hi hls hn hm kk
  | some j => exact lv_astore_n hA.1 hA.2.1 hdg hi hls hn hm kk
theorem x_iinc (i k9 : Nat) {n : Int} {x c : Int32} (hdg : decode cc pc = .ok (.iinc i n, 3)) (hk : als[k9]? = some (i, aI x)) (hc : Int32.ofInt n = c) (hn : i < μ.2.1) (he : zset als i (aI (x + c)) = als') (k : X E cc μ q Qf kc ks σ als' (pc + 3) ast f) : X E cc μ q Qf kc ks σ als pc ast f := by
  intro r hf hA hq adr H locs ls hR hE hS hl hs hls
  obtain ⟨⟨p, l, e, R, s, m, args, below, meth, c⟩, E2⟩ := E
  subst he; subst hc
  exact lv_iinc hA.1 hA.2.1 hdg hls (k := k9) (by rw [List.getElem?_map, hk]; rfl) rfl hn (zset_map adr als i (aI (x + Int32.ofInt n))) fun ls hls => (k r hf hA hq adr H locs ls hR hE hS (zset_v hl trivial) hs hls)
theorem x_nameV {x : Int32} {g : Int32 → List (Nat × zAV)} {k : Int32 → Option ρ} (h : ∀ y, X E cc μ q Qf kc ks σ (g y) pc ast (k y)) (he : g x = als) : X E cc μ q Qf kc ks σ als pc ast (zlt x k) := he ▸ h x
theorem x_iadd {x y : Int32} (hdg : decode cc pc = .ok (.iadd, 1))  (k : X E cc μ q Qf kc ks σ als (pc + 1) (aI (x + y) :: ast) f) : X E cc μ q Qf kc ks σ als pc (aI y :: aI x :: ast) f := by
  intro r hf hA hq adr H locs ls hR hE hS hl hs hls
  obtain ⟨⟨p, l, e, R, s, m, args, below, meth, c⟩, E2⟩ := E
  exact lv_iadd hA.1 hA.2.1 hdg  (k r hf hA hq adr H locs ls hR hE hS hl (zvs.cons trivial hs.tl.tl) hls)
theorem x_isub {x y : Int32} (hdg : decode cc pc = .ok (.isub, 1))  (k : X E cc μ q Qf kc ks σ als (pc + 1) (aI (x - y) :: ast) f) : X E cc μ q Qf kc ks σ als pc (aI y :: aI x :: ast) f := by
  intro r hf hA hq adr H locs ls hR hE hS hl hs hls
  obtain ⟨⟨p, l, e, R, s, m, args, below, meth, c⟩, E2⟩ := E
  exact lv_isub hA.1 hA.2.1 hdg  (k r hf hA hq adr H locs ls hR hE hS hl (zvs.cons trivial hs.tl.tl) hls)
theorem x_imul {x y : Int32} (hdg : decode cc pc = .ok (.imul, 1))  (k : X E cc μ q Qf kc ks σ als (pc + 1) (aI (x * y) :: ast) f) : X E cc μ q Qf kc ks σ als pc (aI y :: aI x :: ast) f := by
  intro r hf hA hq adr H locs ls hR hE hS hl hs hls
  obtain ⟨⟨p, l, e, R, s, m, args, below, meth, c⟩, E2⟩ := E
  exact lv_imul hA.1 hA.2.1 hdg  (k r hf hA hq adr H locs ls hR hE hS hl (zvs.cons trivial hs.tl.tl) hls)
theorem x_iand {x y : Int32} (hdg : decode cc pc = .ok (.iand, 1))  (k : X E cc μ q Qf kc ks σ als (pc + 1) (aI (x &&& y) :: ast) f) : X E cc μ q Qf kc ks σ als pc (aI y :: aI x :: ast) f := by
  intro r hf hA hq adr H locs ls hR hE hS hl hs hls
  obtain ⟨⟨p, l, e, R, s, m, args, below, meth, c⟩, E2⟩ := E
  exact lv_iand hA.1 hA.2.1 hdg  (k r hf hA hq adr H locs ls hR hE hS hl (zvs.cons trivial hs.tl.tl) hls)
theorem x_ior {x y : Int32} (hdg : decode cc pc = .ok (.ior, 1))  (k : X E cc μ q Qf kc ks σ als (pc + 1) (aI (x ||| y) :: ast) f) : X E cc μ q Qf kc ks σ als pc (aI y :: aI x :: ast) f := by
  intro r hf hA hq adr H locs ls hR hE hS hl hs hls
  obtain ⟨⟨p, l, e, R, s, m, args, below, meth, c⟩, E2⟩ := E
  exact lv_ior hA.1 hA.2.1 hdg  (k r hf hA hq adr H locs ls hR hE hS hl (zvs.cons trivial hs.tl.tl) hls)
theorem x_ladd {x y : Int64} (hdg : decode cc pc = .ok (.ladd, 1))  (k : X E cc μ q Qf kc ks σ als (pc + 1) (aL (x + y) :: ast) f) : X E cc μ q Qf kc ks σ als pc (aL y :: aL x :: ast) f := by
  intro r hf hA hq adr H locs ls hR hE hS hl hs hls
  obtain ⟨⟨p, l, e, R, s, m, args, below, meth, c⟩, E2⟩ := E
  exact lv_ladd hA.1 hA.2.1 hdg  (k r hf hA hq adr H locs ls hR hE hS hl (zvs.cons trivial hs.tl.tl) hls)
theorem x_lsub {x y : Int64} (hdg : decode cc pc = .ok (.lsub, 1))  (k : X E cc μ q Qf kc ks σ als (pc + 1) (aL (x - y) :: ast) f) : X E cc μ q Qf kc ks σ als pc (aL y :: aL x :: ast) f := by
  intro r hf hA hq adr H locs ls hR hE hS hl hs hls
  obtain ⟨⟨p, l, e, R, s, m, args, below, meth, c⟩, E2⟩ := E
  exact lv_lsub hA.1 hA.2.1 hdg  (k r hf hA hq adr H locs ls hR hE hS hl (zvs.cons trivial hs.tl.tl) hls)
theorem x_lmul {x y : Int64} (hdg : decode cc pc = .ok (.lmul, 1))  (k : X E cc μ q Qf kc ks σ als (pc + 1) (aL (x * y) :: ast) f) : X E cc μ q Qf kc ks σ als pc (aL y :: aL x :: ast) f := by
  intro r hf hA hq adr H locs ls hR hE hS hl hs hls
  obtain ⟨⟨p, l, e, R, s, m, args, below, meth, c⟩, E2⟩ := E
  exact lv_lmul hA.1 hA.2.1 hdg  (k r hf hA hq adr H locs ls hR hE hS hl (zvs.cons trivial hs.tl.tl) hls)
theorem x_idiv {x y : Int32} (hdg : decode cc pc = .ok (.idiv, 1)) (k : X E cc μ q Qf kc ks σ als (pc + 1) (aI (zop_idiv x y) :: ast) f) : X E cc μ q Qf kc ks σ als pc (aI y :: aI x :: ast) (znz y f) := by
  intro r hf hA hq adr H locs ls hR hE hS hl hs hls
  obtain ⟨⟨p, l, e, R, s, m, args, below, meth, c⟩, E2⟩ := E
  by_cases h0 : y = 0
  · unfold znz at hf; rw [if_pos h0] at hf; cases hf
  · unfold znz at hf; rw [if_neg h0] at hf
    exact lv_idiv hA.1 hA.2.1 hdg h0 (k r hf hA hq adr H locs ls hR hE hS hl (zvs.cons trivial hs.tl.tl) hls)
theorem x_idivC {x y : Int32} (hdg : decode cc pc = .ok (.idiv, 1)) (h0 : ¬ y = 0) (k : X E cc μ q Qf kc ks σ als (pc + 1) (aI (zop_idiv x y) :: ast) f) : X E cc μ q Qf kc ks σ als pc (aI y :: aI x :: ast) f := by
  intro r hf hA hq adr H locs ls hR hE hS hl hs hls
  obtain ⟨⟨p, l, e, R, s, m, args, below, meth, c⟩, E2⟩ := E
  exact lv_idiv hA.1 hA.2.1 hdg h0 (k r hf hA hq adr H locs ls hR hE hS hl (zvs.cons trivial hs.tl.tl) hls)
theorem x_irem {x y : Int32} (hdg : decode cc pc = .ok (.irem, 1)) (k : X E cc μ q Qf kc ks σ als (pc + 1) (aI (zop_irem x y) :: ast) f) : X E cc μ q Qf kc ks σ als pc (aI y :: aI x :: ast) (znz y f) := by
  intro r hf hA hq adr H locs ls hR hE hS hl hs hls
  obtain ⟨⟨p, l, e, R, s, m, args, below, meth, c⟩, E2⟩ := E
  by_cases h0 : y = 0
  · unfold znz at hf; rw [if_pos h0] at hf; cases hf
  · unfold znz at hf; rw [if_neg h0] at hf
    exact lv_irem hA.1 hA.2.1 hdg h0 (k r hf hA hq adr H locs ls hR hE hS hl (zvs.cons trivial hs.tl.tl) hls)
theorem x_iremC {x y : Int32} (hdg : decode cc pc = .ok (.irem, 1)) (h0 : ¬ y = 0) (k : X E cc μ q Qf kc ks σ als (pc + 1) (aI (zop_irem x y) :: ast) f) : X E cc μ q Qf kc ks σ als pc (aI y :: aI x :: ast) f := by
  intro r hf hA hq adr H locs ls hR hE hS hl hs hls
  obtain ⟨⟨p, l, e, R, s, m, args, below, meth, c⟩, E2⟩ := E
  exact lv_irem hA.1 hA.2.1 hdg h0 (k r hf hA hq adr H locs ls hR hE hS hl (zvs.cons trivial hs.tl.tl) hls)
theorem x_ldiv {x y : Int64} (hdg : decode cc pc = .ok (.ldiv, 1)) (k : X E cc μ q Qf kc ks σ als (pc + 1) (aL (zop_ldiv x y) :: ast) f) : X E cc μ q Qf kc ks σ als pc (aL y :: aL x :: ast) (znl y f) := by
  intro r hf hA hq adr H locs ls hR hE hS hl hs hls
  obtain ⟨⟨p, l, e, R, s, m, args, below, meth, c⟩, E2⟩ := E
  by_cases h0 : y = 0
  · unfold znl at hf; rw [if_pos h0] at hf; cases hf
  · unfold znl at hf; rw [if_neg h0] at hf
    exact lv_ldiv hA.1 hA.2.1 hdg h0 (k r hf hA hq adr H locs ls hR hE hS hl (zvs.cons trivial hs.tl.tl) hls)
theorem x_ldivC {x y : Int64} (hdg : decode cc pc = .ok (.ldiv, 1)) (h0 : ¬ y = 0) (k : X E cc μ q Qf kc ks σ als (pc + 1) (aL (zop_ldiv x y) :: ast) f) : X E cc μ q Qf kc ks σ als pc (aL y :: aL x :: ast) f := by
  intro r hf hA hq adr H locs ls hR hE hS hl hs hls
  obtain ⟨⟨p, l, e, R, s, m, args, below, meth, c⟩, E2⟩ := E
  exact lv_ldiv hA.1 hA.2.1 hdg h0 (k r hf hA hq adr H locs ls hR hE hS hl (zvs.cons trivial hs.tl.tl) hls)
theorem x_lrem {x y : Int64} (hdg : decode cc pc = .ok (.lrem, 1)) (k : X E cc μ q Qf kc ks σ als (pc + 1) (aL (zop_lrem x y) :: ast) f) : X E cc μ q Qf kc ks σ als pc (aL y :: aL x :: ast) (znl y f) := by
  intro r hf hA hq adr H locs ls hR hE hS hl hs hls
  obtain ⟨⟨p, l, e, R, s, m, args, below, meth, c⟩, E2⟩ := E
  by_cases h0 : y = 0
  · unfold znl at hf; rw [if_pos h0] at hf; cases hf
  · unfold znl at hf; rw [if_neg h0] at hf
    exact lv_lrem hA.1 hA.2.1 hdg h0 (k r hf hA hq adr H locs ls hR hE hS hl (zvs.cons trivial hs.tl.tl) hls)
theorem x_lremC {x y : Int64} (hdg : decode cc pc = .ok (.lrem, 1)) (h0 : ¬ y = 0) (k : X E cc μ q Qf kc ks σ als (pc + 1) (aL (zop_lrem x y) :: ast) f) : X E cc μ q Qf kc ks σ als pc (aL y :: aL x :: ast) f := by
  intro r hf hA hq adr H locs ls hR hE hS hl hs hls
  obtain ⟨⟨p, l, e, R, s, m, args, below, meth, c⟩, E2⟩ := E
  exact lv_lrem hA.1 hA.2.1 hdg h0 (k r hf hA hq adr H locs ls hR hE hS hl (zvs.cons trivial hs.tl.tl) hls)
theorem x_ishl {x y : Int32} (hdg : decode cc pc = .ok (.ishl, 1))  (k : X E cc μ q Qf kc ks σ als (pc + 1) (aI (zop_ishl x y) :: ast) f) : X E cc μ q Qf kc ks σ als pc (aI y :: aI x :: ast) f := by
  intro r hf hA hq adr H locs ls hR hE hS hl hs hls
  obtain ⟨⟨p, l, e, R, s, m, args, below, meth, c⟩, E2⟩ := E
  exact lv_ishl hA.1 hA.2.1 hdg  (k r hf hA hq adr H locs ls hR hE hS hl (zvs.cons trivial hs.tl.tl) hls)
theorem x_ishr {x y : Int32} (hdg : decode cc pc = .ok (.ishr, 1))  (k : X E cc μ q Qf kc ks σ als (pc + 1) (aI (zop_ishr x y) :: ast) f) : X E cc μ q Qf kc ks σ als pc (aI y :: aI x :: ast) f := by
  intro r hf hA hq adr H locs ls hR hE hS hl hs hls
  obtain ⟨⟨p, l, e, R, s, m, args, below, meth, c⟩, E2⟩ := E
  exact lv_ishr hA.1 hA.2.1 hdg  (k r hf hA hq adr H locs ls hR hE hS hl (zvs.cons trivial hs.tl.tl) hls)
theorem x_iushr {x y : Int32} (hdg : decode cc pc = .ok (.iushr, 1))  (k : X E cc μ q Qf kc ks σ als (pc + 1) (aI (zop_iushr x y) :: ast) f) : X E cc μ q Qf kc ks σ als pc (aI y :: aI x :: ast) f := by
  intro r hf hA hq adr H locs ls hR hE hS hl hs hls
  obtain ⟨⟨p, l, e, R, s, m, args, below, meth, c⟩, E2⟩ := E
  exact lv_iushr hA.1 hA.2.1 hdg rfl (k r hf hA hq adr H locs ls hR hE hS hl (zvs.cons trivial hs.tl.tl) hls)
theorem x_i2l {x : Int32} (hdg : decode cc pc = .ok (.i2l, 1))  (k : X E cc μ q Qf kc ks σ als (pc + 1) (aL (x.toInt64) :: ast) f) : X E cc μ q Qf kc ks σ als pc (aI x :: ast) f := by
  intro r hf hA hq adr H locs ls hR hE hS hl hs hls
  obtain ⟨⟨p, l, e, R, s, m, args, below, meth, c⟩, E2⟩ := E
  exact lv_i2l hA.1 hA.2.1 hdg rfl (k r hf hA hq adr H locs ls hR hE hS hl (zvs.cons trivial hs.tl) hls)
theorem x_l2i {x : Int64} (hdg : decode cc pc = .ok (.l2i, 1))  (k : X E cc μ q Qf kc ks σ als (pc + 1) (aI (x.toInt32) :: ast) f) : X E cc μ q Qf kc ks σ als pc (aL x :: ast) f := by
  intro r hf hA hq adr H locs ls hR hE hS hl hs hls
  obtain ⟨⟨p, l, e, R, s, m, args, below, meth, c⟩, E2⟩ := E
  exact lv_l2i hA.1 hA.2.1 hdg rfl (k r hf hA hq adr H locs ls hR hE hS hl (zvs.cons trivial hs.tl) hls)
theorem x_i2c {x : Int32} (hdg : decode cc pc = .ok (.i2c, 1))  (k : X E cc μ q Qf kc ks σ als (pc + 1) (aI ((x.toUInt32 % 65536).toInt32) :: ast) f) : X E cc μ q Qf kc ks σ als pc (aI x :: ast) f := by
  intro r hf hA hq adr H locs ls hR hE hS hl hs hls
  obtain ⟨⟨p, l, e, R, s, m, args, below, meth, c⟩, E2⟩ := E
  exact lv_i2c hA.1 hA.2.1 hdg rfl (k r hf hA hq adr H locs ls hR hE hS hl (zvs.cons trivial hs.tl) hls)
theorem x_lcmp {x y : Int64} (hdg : decode cc pc = .ok (.lcmp, 1))  (k : X E cc μ q Qf kc ks σ als (pc + 1) (aI (lg_cmp x y) :: ast) f) : X E cc μ q Qf kc ks σ als pc (aL y :: aL x :: ast) f := by
  intro r hf hA hq adr H locs ls hR hE hS hl hs hls
  obtain ⟨⟨p, l, e, R, s, m, args, below, meth, c⟩, E2⟩ := E
  exact W.lcmp hA.1 hA.2.1 hdg  (k r hf hA hq adr H locs ls hR hE hS hl (zvs.cons trivial hs.tl.tl) hls)
theorem x_dup {v : zAV} (hdg : decode cc pc = .ok (.dup, 1)) (hv : zcat v = 1) (k : X E cc μ q Qf kc ks σ als (pc + 1) (v :: v :: ast) f) : X E cc μ q Qf kc ks σ als pc (v :: ast) f := by
  intro r hf hA hq adr H locs ls hR hE hS hl hs hls
  obtain ⟨⟨p, l, e, R, s, m, args, below, meth, c⟩, E2⟩ := E
  exact lv_dup hA.1 hA.2.1 hdg (by rw [zcat_eq]; exact hv) (k r hf hA hq adr H locs ls hR hE hS hl (zvs.cons hs.hd hs) hls)
theorem x_pop {v : zAV} (hdg : decode cc pc = .ok (.pop, 1)) (hv : zcat v = 1) (k : X E cc μ q Qf kc ks σ als (pc + 1) ast f) : X E cc μ q Qf kc ks σ als pc (v :: ast) f := by
  intro r hf hA hq adr H locs ls hR hE hS hl hs hls
  obtain ⟨⟨p, l, e, R, s, m, args, below, meth, c⟩, E2⟩ := E
  exact lv_pop hA.1 hA.2.1 hdg (by rw [zcat_eq]; exact hv) (k r hf hA hq adr H locs ls hR hE hS hl hs.tl hls)
theorem x_dup2 {v w : zAV} (hdg : decode cc pc = .ok (.dup2, 1)) (hv : zcat v = 1) (hw : zcat w = 1) (k : X E cc μ q Qf kc ks σ als (pc + 1) (v :: w :: v :: w :: ast) f) : X E cc μ q Qf kc ks σ als pc (v :: w :: ast) f := by
  intro r hf hA hq adr H locs ls hR hE hS hl hs hls
  obtain ⟨⟨p, l, e, R, s, m, args, below, meth, c⟩, E2⟩ := E
  exact lv_dup2_11 hA.1 hA.2.1 hdg (by rw [zcat_eq]; exact hv) (by rw [zcat_eq]; exact hw) (k r hf hA hq adr H locs ls hR hE hS hl (zvs.cons hs.hd (zvs.cons hs.tl.hd hs)) hls)
theorem x_if_eq {x : Int32} {off : Int} (tgt : Nat) (hdg : decode cc pc = .ok (.ifCond .eq off, 3)) (ht : (pc : Int) + off = (tgt : Int)) {_ : Decidable (x = 0)} (kt : x = 0 → X E cc μ q Qf kc ks σ als tgt ast f1) (kf : ¬ (x = 0) → X E cc μ q Qf kc ks σ als (pc + 3) ast f2) : X E cc μ q Qf kc ks σ als pc (aI x :: ast) (if x = 0 then f1 else f2) := by
  intro r hf hA hq adr H locs ls hR hE hS hl hs hls
  obtain ⟨⟨p, l, e, R, s, m, args, below, meth, c⟩, E2⟩ := E
  exact lv_if_eq hA.1 hA.2.1 hdg ht (fun hc => (kt hc r (by rw [if_pos hc] at hf; exact hf) hA hq adr H locs ls hR hE hS hl hs.tl hls)) (fun hc => (kf hc r (by rw [if_neg hc] at hf; exact hf) hA hq adr H locs ls hR hE hS hl hs.tl hls))
theorem x_if_ne {x : Int32} {off : Int} (tgt : Nat) (hdg : decode cc pc = .ok (.ifCond .ne off, 3)) (ht : (pc : Int) + off = (tgt : Int)) {_ : Decidable (x = 0)} (kt : ¬ (x = 0) → X E cc μ q Qf kc ks σ als tgt ast f2) (kf : (x = 0) → X E cc μ q Qf kc ks σ als (pc + 3) ast f1) : X E cc μ q Qf kc ks σ als pc (aI x :: ast) (if x = 0 then f1 else f2) := by
  intro r hf hA hq adr H locs ls hR hE hS hl hs hls
  obtain ⟨⟨p, l, e, R, s, m, args, below, meth, c⟩, E2⟩ := E
  exact lv_if_ne hA.1 hA.2.1 hdg ht (fun hc => (kt hc r (by rw [if_neg hc] at hf; exact hf) hA hq adr H locs ls hR hE hS hl hs.tl hls)) (fun hc => (kf hc r (by rw [if_pos hc] at hf; exact hf) hA hq adr H locs ls hR hE hS hl hs.tl hls))
theorem x_if_lt {x : Int32} {off : Int} (tgt : Nat) (hdg : decode cc pc = .ok (.ifCond .lt off, 3)) (ht : (pc : Int) + off = (tgt : Int)) {_ : Decidable (x < 0)} (kt : x < 0 → X E cc μ q Qf kc ks σ als tgt ast f1) (kf : ¬ (x < 0) → X E cc μ q Qf kc ks σ als (pc + 3) ast f2) : X E cc μ q Qf kc ks σ als pc (aI x :: ast) (if x < 0 then f1 else f2) := by
  intro r hf hA hq adr H locs ls hR hE hS hl hs hls
  obtain ⟨⟨p, l, e, R, s, m, args, below, meth, c⟩, E2⟩ := E
  exact lv_if_lt hA.1 hA.2.1 hdg ht (fun hc => (kt hc r (by rw [if_pos hc] at hf; exact hf) hA hq adr H locs ls hR hE hS hl hs.tl hls)) (fun hc => (kf hc r (by rw [if_neg hc] at hf; exact hf) hA hq adr H locs ls hR hE hS hl hs.tl hls))
theorem x_if_ge {x : Int32} {off : Int} (tgt : Nat) (hdg : decode cc pc = .ok (.ifCond .ge off, 3)) (ht : (pc : Int) + off = (tgt : Int)) {_ : Decidable (0 ≤ x)} (kt : 0 ≤ x → X E cc μ q Qf kc ks σ als tgt ast f1) (kf : ¬ (0 ≤ x) → X E cc μ q Qf kc ks σ als (pc + 3) ast f2) : X E cc μ q Qf kc ks σ als pc (aI x :: ast) (if 0 ≤ x then f1 else f2) := by
  intro r hf hA hq adr H locs ls hR hE hS hl hs hls
  obtain ⟨⟨p, l, e, R, s, m, args, below, meth, c⟩, E2⟩ := E
  exact lv_if_ge hA.1 hA.2.1 hdg ht (fun hc => (kt hc r (by rw [if_pos hc] at hf; exact hf) hA hq adr H locs ls hR hE hS hl hs.tl hls)) (fun hc => (kf hc r (by rw [if_neg hc] at hf; exact hf) hA hq adr H locs ls hR hE hS hl hs.tl hls))
theorem x_if_gt {x : Int32} {off : Int} (tgt : Nat) (hdg : decode cc pc = .ok (.ifCond .gt off, 3)) (ht : (pc : Int) + off = (tgt : Int)) {_ : Decidable (0 < x)} (kt : 0 < x → X E cc μ q Qf kc ks σ als tgt ast f1) (kf : ¬ (0 < x) → X E cc μ q Qf kc ks σ als (pc + 3) ast f2) : X E cc μ q Qf kc ks σ als pc (aI x :: ast) (if 0 < x then f1 else f2) := by
  intro r hf hA hq adr H locs ls hR hE hS hl hs hls
  obtain ⟨⟨p, l, e, R, s, m, args, below, meth, c⟩, E2⟩ := E
  exact lv_if_gt hA.1 hA.2.1 hdg ht (fun hc => (kt hc r (by rw [if_pos hc] at hf; exact hf) hA hq adr H locs ls hR hE hS hl hs.tl hls)) (fun hc => (kf hc r (by rw [if_neg hc] at hf; exact hf) hA hq adr H locs ls hR hE hS hl hs.tl hls))
theorem x_if_le {x : Int32} {off : Int} (tgt : Nat) (hdg : decode cc pc = .ok (.ifCond .le off, 3)) (ht : (pc : Int) + off = (tgt : Int)) {_ : Decidable (x ≤ 0)} (kt : x ≤ 0 → X E cc μ q Qf kc ks σ als tgt ast f1) (kf : ¬ (x ≤ 0) → X E cc μ q Qf kc ks σ als (pc + 3) ast f2) : X E cc μ q Qf kc ks σ als pc (aI x :: ast) (if x ≤ 0 then f1 else f2) := by
  intro r hf hA hq adr H locs ls hR hE hS hl hs hls
  obtain ⟨⟨p, l, e, R, s, m, args, below, meth, c⟩, E2⟩ := E
  exact lv_if_le hA.1 hA.2.1 hdg ht (fun hc => (kt hc r (by rw [if_pos hc] at hf; exact hf) hA hq adr H locs ls hR hE hS hl hs.tl hls)) (fun hc => (kf hc r (by rw [if_neg hc] at hf; exact hf) hA hq adr H locs ls hR hE hS hl hs.tl hls))
theorem x_icmp_eq {x y : Int32} {off : Int} (tgt : Nat) (hdg : decode cc pc = .ok (.if_icmp .eq off, 3)) (ht : (pc : Int) + off = (tgt : Int)) {_ : Decidable (x = y)} (kt : x = y → X E cc μ q Qf kc ks σ als tgt ast f1) (kf : ¬ (x = y) → X E cc μ q Qf kc ks σ als (pc + 3) ast f2) : X E cc μ q Qf kc ks σ als pc (aI y :: aI x :: ast) (if x = y then f1 else f2) := by
  intro r hf hA hq adr H locs ls hR hE hS hl hs hls
  obtain ⟨⟨p, l, e, R, s, m, args, below, meth, c⟩, E2⟩ := E
  exact lv_icmp_eq hA.1 hA.2.1 hdg ht (fun hc => (kt hc r (by rw [if_pos hc] at hf; exact hf) hA hq adr H locs ls hR hE hS hl hs.tl.tl hls)) (fun hc => (kf hc r (by rw [if_neg hc] at hf; exact hf) hA hq adr H locs ls hR hE hS hl hs.tl.tl hls))
theorem x_icmp_ne {x y : Int32} {off : Int} (tgt : Nat) (hdg : decode cc pc = .ok (.if_icmp .ne off, 3)) (ht : (pc : Int) + off = (tgt : Int)) {_ : Decidable (x = y)} (kt : ¬ (x = y) → X E cc μ q Qf kc ks σ als tgt ast f2) (kf : (x = y) → X E cc μ q Qf kc ks σ als (pc + 3) ast f1) : X E cc μ q Qf kc ks σ als pc (aI y :: aI x :: ast) (if x = y then f1 else f2) := by
  intro r hf hA hq adr H locs ls hR hE hS hl hs hls
  obtain ⟨⟨p, l, e, R, s, m, args, below, meth, c⟩, E2⟩ := E
  exact lv_icmp_ne hA.1 hA.2.1 hdg ht (fun hc => (kt hc r (by rw [if_neg hc] at hf; exact hf) hA hq adr H locs ls hR hE hS hl hs.tl.tl hls)) (fun hc => (kf hc r (by rw [if_pos hc] at hf; exact hf) hA hq adr H locs ls hR hE hS hl hs.tl.tl hls))
theorem x_icmp_lt {x y : Int32} {off : Int} (tgt : Nat) (hdg : decode cc pc = .ok (.if_icmp .lt off, 3)) (ht : (pc : Int) + off = (tgt : Int)) {_ : Decidable (x < y)} (kt : x < y → X E cc μ q Qf kc ks σ als tgt ast f1) (kf : ¬ (x < y) → X E cc μ q Qf kc ks σ als (pc + 3) ast f2) : X E cc μ q Qf kc ks σ als pc (aI y :: aI x :: ast) (if x < y then f1 else f2) := by
  intro r hf hA hq adr H locs ls hR hE hS hl hs hls
  obtain ⟨⟨p, l, e, R, s, m, args, below, meth, c⟩, E2⟩ := E
  exact lv_icmp_lt hA.1 hA.2.1 hdg ht (fun hc => (kt hc r (by rw [if_pos hc] at hf; exact hf) hA hq adr H locs ls hR hE hS hl hs.tl.tl hls)) (fun hc => (kf hc r (by rw [if_neg hc] at hf; exact hf) hA hq adr H locs ls hR hE hS hl hs.tl.tl hls))
theorem x_icmp_ge {x y : Int32} {off : Int} (tgt : Nat) (hdg : decode cc pc = .ok (.if_icmp .ge off, 3)) (ht : (pc : Int) + off = (tgt : Int)) {_ : Decidable (y ≤ x)} (kt : y ≤ x → X E cc μ q Qf kc ks σ als tgt ast f1) (kf : ¬ (y ≤ x) → X E cc μ q Qf kc ks σ als (pc + 3) ast f2) : X E cc μ q Qf kc ks σ als pc (aI y :: aI x :: ast) (if y ≤ x then f1 else f2) := by
  intro r hf hA hq adr H locs ls hR hE hS hl hs hls
  obtain ⟨⟨p, l, e, R, s, m, args, below, meth, c⟩, E2⟩ := E
  exact lv_icmp_ge hA.1 hA.2.1 hdg ht (fun hc => (kt hc r (by rw [if_pos hc] at hf; exact hf) hA hq adr H locs ls hR hE hS hl hs.tl.tl hls)) (fun hc => (kf hc r (by rw [if_neg hc] at hf; exact hf) hA hq adr H locs ls hR hE hS hl hs.tl.tl hls))
theorem x_icmp_gt {x y : Int32} {off : Int} (tgt : Nat) (hdg : decode cc pc = .ok (.if_icmp .gt off, 3)) (ht : (pc : Int) + off = (tgt : Int)) {_ : Decidable (y < x)} (kt : y < x → X E cc μ q Qf kc ks σ als tgt ast f1) (kf : ¬ (y < x) → X E cc μ q Qf kc ks σ als (pc + 3) ast f2) : X E cc μ q Qf kc ks σ als pc (aI y :: aI x :: ast) (if y < x then f1 else f2) := by
  intro r hf hA hq adr H locs ls hR hE hS hl hs hls
  obtain ⟨⟨p, l, e, R, s, m, args, below, meth, c⟩, E2⟩ := E
  exact lv_icmp_gt hA.1 hA.2.1 hdg ht (fun hc => (kt hc r (by rw [if_pos hc] at hf; exact hf) hA hq adr H locs ls hR hE hS hl hs.tl.tl hls)) (fun hc => (kf hc r (by rw [if_neg hc] at hf; exact hf) hA hq adr H locs ls hR hE hS hl hs.tl.tl hls))
theorem x_icmp_le {x y : Int32} {off : Int} (tgt : Nat) (hdg : decode cc pc = .ok (.if_icmp .le off, 3)) (ht : (pc : Int) + off = (tgt : Int)) {_ : Decidable (x ≤ y)} (kt : x ≤ y → X E cc μ q Qf kc ks σ als tgt ast f1) (kf : ¬ (x ≤ y) → X E cc μ q Qf kc ks σ als (pc + 3) ast f2) : X E cc μ q Qf kc ks σ als pc (aI y :: aI x :: ast) (if x ≤ y then f1 else f2) := by
  intro r hf hA hq adr H locs ls hR hE hS hl hs hls
  obtain ⟨⟨p, l, e, R, s, m, args, below, meth, c⟩, E2⟩ := E
  exact lv_icmp_le hA.1 hA.2.1 hdg ht (fun hc => (kt hc r (by rw [if_pos hc] at hf; exact hf) hA hq adr H locs ls hR hE hS hl hs.tl.tl hls)) (fun hc => (kf hc r (by rw [if_neg hc] at hf; exact hf) hA hq adr H locs ls hR hE hS hl hs.tl.tl hls))
theorem x_goto {off : Int} (tgt : Nat) (hdg : decode cc pc = .ok (.goto off, 3)) (ht : (pc : Int) + off = (tgt : Int)) (k : X E cc μ q Qf kc ks σ als tgt ast f) : X E cc μ q Qf kc ks σ als pc ast f := by
  intro r hf hA hq adr H locs ls hR hE hS hl hs hls
  obtain ⟨⟨p, l, e, R, s, m, args, below, meth, c⟩, E2⟩ := E
  exact lv_goto hA.1 hA.2.1 hdg ht (k r hf hA hq adr H locs ls hR hE hS hl hs hls)
theorem x_ifnullN {t : Nat} {off : Int} (tgt : Nat) (hdg : decode cc pc = .ok (.ifnull off, 3)) (ht : (pc : Int) + off = (tgt : Int)) {g : Nat → Option ρ} (k : X E cc μ q Qf kc ks σ als tgt ast f) : X E cc μ q Qf kc ks σ als pc (aR t none :: ast) (zoc none f g) := by
  intro r hf hA hq adr H locs ls hR hE hS hl hs hls
  obtain ⟨⟨p, l, e, R, s, m, args, below, meth, c⟩, E2⟩ := E
  exact lv_ifnullN hA.1 hA.2.1 hdg ht (k r hf hA hq adr H locs ls hR hE hS hl hs.tl hls)
theorem x_ifnullS {t j : Nat} {off : Int} (hdg : decode cc pc = .ok (.ifnull off, 3)) {g : Nat → Option ρ} (k : X E cc μ q Qf kc ks σ als (pc + 3) ast (g j)) : X E cc μ q Qf kc ks σ als pc (aR t (some j) :: ast) (zoc (some j) f g) := by
  intro r hf hA hq adr H locs ls hR hE hS hl hs hls
  obtain ⟨⟨p, l, e, R, s, m, args, below, meth, c⟩, E2⟩ := E
  exact lv_ifnull hA.1 hA.2.1 hdg (k r hf hA hq adr H locs ls hR hE hS hl hs.tl hls)
theorem x_ifnonnullN {t : Nat} {off : Int} (hdg : decode cc pc = .ok (.ifnonnull off, 3)) {g : Nat → Option ρ} (k : X E cc μ q Qf kc ks σ als (pc + 3) ast f) : X E cc μ q Qf kc ks σ als pc (aR t none :: ast) (zoc none f g) := by
  intro r hf hA hq adr H locs ls hR hE hS hl hs hls
  obtain ⟨⟨p, l, e, R, s, m, args, below, meth, c⟩, E2⟩ := E
  exact lv_ifnonnullN hA.1 hA.2.1 hdg (k r hf hA hq adr H locs ls hR hE hS hl hs.tl hls)
theorem x_ifnonnullS {t j : Nat} {off : Int} (tgt : Nat) (hdg : decode cc pc = .ok (.ifnonnull off, 3)) (ht : (pc : Int) + off = (tgt : Int)) {g : Nat → Option ρ} (k : X E cc μ q Qf kc ks σ als tgt ast (g j)) : X E cc μ q Qf kc ks σ als pc (aR t (some j) :: ast) (zoc (some j) f g) := by
  intro r hf hA hq adr H locs ls hR hE hS hl hs hls
  obtain ⟨⟨p, l, e, R, s, m, args, below, meth, c⟩, E2⟩ := E
  exact lv_ifnonnull hA.1 hA.2.1 hdg ht (k r hf hA hq adr H locs ls hR hE hS hl hs.tl hls)
def ztoff (lo hi : Int) (offs : Array Int) (dflt : Int) (x : Int32) : Int := if x.toInt < lo ∨ hi < x.toInt then dflt else (offs[(x.toInt - lo).toNat]?).getD dflt
theorem x_table {x : Int32} {dflt lo hi : Int} {offs : Array Int} {len : Nat} (hdg : decode cc pc = .ok (.tableswitch dflt lo hi offs, len)) (hn : (hi - lo + 1).toNat = offs.size) (kk : ∀ tgt : Nat, (pc : Int) + ztoff lo hi offs dflt x = (tgt : Int) → X E cc μ q Qf kc ks σ als tgt ast f) (hpos : ∀ x, 0 ≤ (pc : Int) + ztoff lo hi offs dflt x) : X E cc μ q Qf kc ks σ als pc (aI x :: ast) f := by
  intro r hf hA hq adr H locs ls hR hE hS hl hs hls
  obtain ⟨⟨p, l, e, R, s, m, args, below, meth, c⟩, E2⟩ := E
  have h0 := hpos x
  obtain ⟨tgt, ht⟩ : ∃ tgt : Nat, (pc : Int) + ztoff lo hi offs dflt x = (tgt : Int) := ⟨((pc : Int) + ztoff lo hi offs dflt x).toNat, by omega⟩
  have k := (kk tgt ht r hf hA hq adr H locs ls hR hE hS hl hs.tl hls)
  by_cases h : x.toInt < lo ∨ hi < x.toInt
  · unfold ztoff at ht
    rw [if_pos h] at ht
    exact lv_tableOut hA.1 hA.2.1 hdg h ht k
  · have h1 : ¬ x.toInt < lo := fun z => h (Or.inl z)
    have h2 : ¬ hi < x.toInt := fun z => h (Or.inr z)
    unfold ztoff at ht
    rw [if_neg h] at ht
    have hlt : (x.toInt - lo).toNat < offs.size := by omega
    rw [Array.getElem?_eq_getElem hlt] at ht
    exact lv_tableIn hA.1 hA.2.1 hdg h1 h2 (Array.getElem?_eq_getElem hlt) ht k
theorem x_lookup {x : Int32} {dflt : Int} {ps : Array (Int × Int)} {len : Nat} (hdg : decode cc pc = .ok (.lookupswitch dflt ps, len)) (hp : (ps.toList.zip (ps.toList.drop 1)).all (fun (a, next) => a.1 < next.1) = true) (kk : ∀ tgt : Nat, (pc : Int) + Op.lookupswitch.offset ps.toList dflt x.toInt = (tgt : Int) → X E cc μ q Qf kc ks σ als tgt ast f) (hpos : ∀ x, 0 ≤ (pc : Int) + Op.lookupswitch.offset ps.toList dflt x) : X E cc μ q Qf kc ks σ als pc (aI x :: ast) f := by
  intro r hf hA hq adr H locs ls hR hE hS hl hs hls
  obtain ⟨⟨p, l, e, R, s, m, args, below, meth, c⟩, E2⟩ := E
  have h0 := hpos x.toInt
  obtain ⟨tgt, ht⟩ : ∃ tgt : Nat, (pc : Int) + Op.lookupswitch.offset ps.toList dflt x.toInt = (tgt : Int) := ⟨((pc : Int) + Op.lookupswitch.offset ps.toList dflt x.toInt).toNat, by omega⟩
  exact lv_lookup hA.1 hA.2.1 hdg hp rfl ht (kk tgt ht r hf hA hq adr H locs ls hR hE hS hl hs.tl hls)
theorem x_ldc {idx : Nat} {v : Int32} (hdg : decode cc pc = .ok (.ldc idx, 2)) (hw : Cond.constant μ.1 idx v ∈ tblG) (k : X E cc μ q Qf kc ks σ als (pc + 2) (aI v :: ast) f) : X E cc μ q Qf kc ks σ als pc ast f := by
  intro r hf hA hq adr H locs ls hR hE hS hl hs hls
  obtain ⟨⟨p, l, e, R, s, m, args, below, meth, c⟩, E2⟩ := E
  exact lv_ldc hA.1 hA.2.1 hA.2.2.2.1 (hA.2.2.2.2.1 _ hw) hdg (k r hf hA hq adr H locs ls hR hE hS hl (zvs.cons trivial hs) hls)
theorem x_ldcw {idx : Nat} {v : Int32} (hdg : decode cc pc = .ok (.ldc_w idx, 3)) (hw : Cond.constant μ.1 idx v ∈ tblG) (k : X E cc μ q Qf kc ks σ als (pc + 3) (aI v :: ast) f) : X E cc μ q Qf kc ks σ als pc ast f := by
  intro r hf hA hq adr H locs ls hR hE hS hl hs hls
  obtain ⟨⟨p, l, e, R, s, m, args, below, meth, c⟩, E2⟩ := E
  exact lv_ldcw hA.1 hA.2.1 hA.2.2.2.1 (hA.2.2.2.2.1 _ hw) hdg (k r hf hA hq adr H locs ls hR hE hS hl (zvs.cons trivial hs) hls)
theorem x_ldc2 {idx : Nat} {v : Int64} (hdg : decode cc pc = .ok (.ldc2_w idx, 3)) (hw : Cond.constantLong μ.1 idx v ∈ tblG) (k : X E cc μ q Qf kc ks σ als (pc + 3) (aL v :: ast) f) : X E cc μ q Qf kc ks σ als pc ast f := by
  intro r hf hA hq adr H locs ls hR hE hS hl hs hls
  obtain ⟨⟨p, l, e, R, s, m, args, below, meth, c⟩, E2⟩ := E
  exact lv_ldc2 hA.1 hA.2.1 hA.2.2.2.1 (hA.2.2.2.2.1 _ hw) hdg (k r hf hA hq adr H locs ls hR hE hS hl (zvs.cons trivial hs) hls)
end XR
