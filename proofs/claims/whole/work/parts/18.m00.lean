abbrev rJ7_fill_53178 : Room := { frames := 0, cells := 0, slots := 0, locals := 0 }
abbrev mJ7_fill_53178 : zMu := (RJ7, 4, none, rJ7_fill_53178, false)
set_option maxRecDepth 20000 in
theorem xlJ7_fill_53178_5 (E : zEn)  (q : Bool) (h0 : Nat) (h1 : Int32) (h3 : Int32)   : ∀ (n : Nat) (v2 : Int32) (σ : zSt), X E cJ7_fill_53178 mJ7_fill_53178 q (zQw E q eV rJ7_fill_53178) 0 0 σ [(0, aR 100 (some h0)), (1, aI h1), (2, aI v2), (3, aI h3)] 5 [] (fJ7_fill_53178_L5 h0 h1 h3 n v2 σ) := by
  intro n
  induction n with
  | zero => intros; exact x_none
  | succ n ih =>
    intro v2 σ
    rw [fJ7_fill_53178_L5]
    refine x_iload_n (pc := 5) 2 dJ7_fill_53178_5 rfl rfl ?_
    refine x_iload_n (pc := 6) 3 dJ7_fill_53178_6 rfl rfl ?_
    refine x_icmp_ge (pc := 7) 20 dJ7_fill_53178_7 (by decide) (fun _ => ?_) (fun _ => ?_)
    ·
      exact x_vret (rm := rJ7_fill_53178) rfl rfl dJ7_fill_53178_20
    ·
      refine x_aload_n (pc := 10) 0 dJ7_fill_53178_10 rfl rfl ?_
      refine x_iload_n (pc := 11) 2 dJ7_fill_53178_11 rfl rfl ?_
      refine x_iload_n (pc := 12) 1 dJ7_fill_53178_12 rfl rfl ?_
      refine x_iast (pc := 13) ar_100 dJ7_fill_53178_13 (fun m2 => ?_)
      refine x_nameS (fun s3 => ?_)
      refine x_iinc (pc := 14) (als' := [(2, aI (v2 + 1)), (0, aR 100 (some h0)), (1, aI h1), (3, aI h3)]) 2 2 (c := 1) dJ7_fill_53178_14 rfl rfl (by decide) rfl ?_
      refine x_nameV (g := fun y5 => [(2, aI y5), (0, aR 100 (some h0)), (1, aI h1), (3, aI h3)]) (fun x4 => ?_) rfl
      refine x_goto (pc := 17) 5 dJ7_fill_53178_17 (by decide) ?_
      exact x_sub [1, 2, 0, 3] rfl (ih x4 s3)
set_option maxRecDepth 20000 in
theorem xJ7_fill_53178 (E : zEn)  (q : Bool) (h0 : Nat) (v1 : Int32) (σ : zSt) : X E cJ7_fill_53178 mJ7_fill_53178 q (zQw E q eV rJ7_fill_53178) 0 0 σ [(0, aR 100 (some h0)), (1, aI v1)] 0 [] (fJ7_fill_53178 h0 v1 σ) := by
  unfold fJ7_fill_53178
  refine x_iconst (pc := 0) 0 dJ7_fill_53178_0 rfl ?_
  refine x_istore_n (pc := 1) (als' := [(2, aI 0), (0, aR 100 (some h0)), (1, aI v1)]) 2 dJ7_fill_53178_1 rfl (by decide) rfl ?_
  refine x_aload_n (pc := 2) 0 dJ7_fill_53178_2 rfl rfl ?_
  refine x_alen (pc := 3) ar_100 (by decide) dJ7_fill_53178_3 ?_
  refine x_nameI (fun x1 => ?_)
  refine x_istore_n (pc := 4) (als' := [(3, aI x1), (2, aI 0), (0, aR 100 (some h0)), (1, aI v1)]) 3 dJ7_fill_53178_4 rfl (by decide) rfl ?_
  refine x_sub [2, 3, 1, 0] rfl (xlJ7_fill_53178_5 E q h0 v1 x1 zfuel 0 σ)
theorem c_J7_fill_53178 (l : Launch)  (q : Bool) (h0 : Nat) (v1 : Int32) (σ : zSt) : zMet l yJ7_fill_53178 cJ7_fill_53178 4 none rJ7_fill_53178 q eV [aR 100 (some h0), aI v1] σ (fJ7_fill_53178 h0 v1 σ) :=
  zMet_of [(0, aR 100 (some h0)), (1, aI v1)] (by decide +kernel) (fun h => by cases h) (Nat.le_of_ble_eq_true rfl) rfl fun E _ => xJ7_fill_53178 E  q h0 v1 σ
abbrev r0_init : Room := { frames := 1, cells := 6, slots := 408, locals := 23 }
abbrev m0_init : zMu := (RX0, 1, none, r0_init, true)
set_option maxRecDepth 20000 in
theorem x0_init (E : zEn)  (h : Nat) (σ : zSt) : X E cX0_init m0_init false (zQw E false eV r0_init) 0 0 σ [(0, aR 0 (some h))] 0 [] (f0_init h σ) := by
  unfold f0_init
  refine x_aload_n (pc := 0) 0 dX0_init_0 rfl rfl ?_
  refine x_objInit (pc := 1) tk_116 tk_28 tk_29 dX0_init_1 (by decide) ?_
  refine x_aload_n (pc := 4) 0 dX0_init_4 rfl rfl ?_
  refine x_bipush (pc := 5) 10 dX0_init_5 rfl ?_
  refine x_newaI (pc := 7) 100 (n := 10) ar_100 rfl (by decide) tk_52 dX0_init_7 rfl (by decide) ?_
  refine x_nameN (fun i1 => ?_)
  refine x_nameS (fun s2 => ?_)
  refine x_putR (pc := 9) fd_0_0 pt_0_0 (Or.inr ⟨_, rfl⟩) tk_121 dX0_init_9 (Or.inr ⟨rfl, rfl⟩) (Or.inl rfl) ?_
  refine x_nameS (fun s3 => ?_)
  refine x_aload_n (pc := 12) 0 dX0_init_12 rfl rfl ?_
  refine x_bipush (pc := 13) 7 dX0_init_13 rfl ?_
  refine x_newq (pc := 15) 101 (n := 7) ar_101 (by decide) rfl (by decide +kernel) rfl (by decide) tk_117 dX0_init_15 rfl (by decide) ?_
  refine x_nameN (fun i4 => ?_)
  refine x_nameS (fun s5 => ?_)
  refine x_putR (pc := 18) fd_0_1 pt_0_1 (Or.inr ⟨_, rfl⟩) tk_123 dX0_init_18 (Or.inr ⟨rfl, rfl⟩) (Or.inl rfl) ?_
  refine x_nameS (fun s6 => ?_)
  refine x_aload_n (pc := 21) 0 dX0_init_21 rfl rfl ?_
  refine x_bipush (pc := 22) 7 dX0_init_22 rfl ?_
  refine x_newaI (pc := 24) 103 (n := 7) ar_103 rfl (by decide) tk_52 dX0_init_24 rfl (by decide) ?_
  refine x_nameN (fun i7 => ?_)
  refine x_nameS (fun s8 => ?_)
  refine x_putR (pc := 26) fd_0_3 pt_0_3 (Or.inr ⟨_, rfl⟩) tk_126 dX0_init_26 (Or.inr ⟨rfl, rfl⟩) (Or.inl rfl) ?_
  refine x_nameS (fun s9 => ?_)
  refine x_aload_n (pc := 29) 0 dX0_init_29 rfl rfl ?_
  refine x_sipush (pc := 30) 128 dX0_init_30 rfl ?_
  refine x_newaL (pc := 33) 105 (n := 128) ar_105 rfl (by decide) tk_150 dX0_init_33 rfl (by decide) ?_
  refine x_nameN (fun i10 => ?_)
  refine x_nameS (fun s11 => ?_)
  refine x_putR (pc := 35) fd_0_5 pt_0_5 (Or.inr ⟨_, rfl⟩) tk_130 dX0_init_35 (Or.inr ⟨rfl, rfl⟩) (Or.inl rfl) ?_
  refine x_nameS (fun s12 => ?_)
  refine x_aload_n (pc := 38) 0 dX0_init_38 rfl rfl ?_
  refine x_sipush (pc := 39) 128 dX0_init_39 rfl ?_
  refine x_newaL (pc := 42) 106 (n := 128) ar_106 rfl (by decide) tk_150 dX0_init_42 rfl (by decide) ?_
  refine x_nameN (fun i13 => ?_)
  refine x_nameS (fun s14 => ?_)
  refine x_putR (pc := 44) fd_0_6 pt_0_6 (Or.inr ⟨_, rfl⟩) tk_131 dX0_init_44 (Or.inr ⟨rfl, rfl⟩) (Or.inl rfl) ?_
  refine x_nameS (fun s15 => ?_)
  refine x_aload_n (pc := 47) 0 dX0_init_47 rfl rfl ?_
  refine x_sipush (pc := 48) 128 dX0_init_48 rfl ?_
  refine x_newaZ (pc := 51) 107 (n := 128) ar_107 rfl (by decide) tk_151 dX0_init_51 rfl (by decide) ?_
  refine x_nameN (fun i16 => ?_)
  refine x_nameS (fun s17 => ?_)
  refine x_putR (pc := 53) fd_0_7 pt_0_7 (Or.inr ⟨_, rfl⟩) tk_132 dX0_init_53 (Or.inr ⟨rfl, rfl⟩) (Or.inl rfl) ?_
  refine x_nameS (fun s18 => ?_)
  refine x_aload_n (pc := 56) 0 dX0_init_56 rfl rfl ?_
  refine x_getR (pc := 57) fd_0_0 tk_121 dX0_init_57 ?_
  refine x_nameR (fun o19 => ?_)
  refine x_iconst (pc := 60) 1 dX0_init_60 rfl ?_
  rcases o19 with _ | i20
  · exact x_none
  ·
    skip
    refine x_zocS ?_
    refine x_callS (pc := 61) (as := [aR 100 (some i20), aI 1]) (rest := []) (fun l => c_J7_fill_53178 l false i20 1 s18) md_J7_fill_53178 tk_119 tk_118 dX0_init_61 rfl ⟨by decide, by decide, by decide, by decide⟩ ⟨(fun h => nomatch h), (fun h => nomatch h)⟩ rfl (Nat.le_of_ble_eq_true rfl) (fun _ s22 => ?_)
    show X E _ _ _ _ 6 408 _ _ _ [] _
    exact x_vret (rm := r0_init) rfl rfl dX0_init_64
theorem c_0_init (l : Launch)  (h : Nat) (σ : zSt) : zMet l yX0_init cX0_init 1 none r0_init false eV [aR 0 (some h)] σ (f0_init h σ) :=
  zMet_of [(0, aR 0 (some h))] (by decide +kernel) (fun _ => rfl) (Nat.le_of_ble_eq_true rfl) rfl fun E _ => x0_init E  h σ
abbrev r0_has : Room := { frames := 0, cells := 0, slots := 0, locals := 0 }
abbrev m0_has : zMu := (RX0, 3, (some .boolean), r0_has, false)
set_option maxRecDepth 20000 in
theorem xl0_has_2 (E : zEn)   (h1 : Nat) (σ : zSt)   : ∀ (n : Nat) (v2 : Int32), X E cX0_has m0_has true (zQr E true eI r0_has σ) 0 0 σ [(0, aR 0 (some 0)), (1, aR 1 (some h1)), (2, aI v2)] 2 [] (f0_has_L2 h1 σ n v2) := by
  intro n
  induction n with
  | zero => intros; exact x_none
  | succ n ih =>
    intro v2
    rw [f0_has_L2]
    refine x_iload_n (pc := 2) 2 dX0_has_2 rfl rfl ?_
    refine x_aload_n (pc := 3) 0 dX0_has_3 rfl rfl ?_
    refine x_getI (pc := 4) fd_0_2 tk_124 dX0_has_4 ?_
    refine x_icmp_ge (pc := 7) 28 dX0_has_7 (by decide) (fun _ => ?_) (fun _ => ?_)
    ·
      refine x_iconst (pc := 28) 0 dX0_has_28 rfl ?_
      exact x_zretC (rm := r0_has) rfl rfl (by decide) dX0_has_29
    ·
      refine x_aload_n (pc := 10) 0 dX0_has_10 rfl rfl ?_
      refine x_getF (pc := 11) (j := 0) fd_0_1 rfl rfl tk_123 dX0_has_11 ?_
      refine x_iload_n (pc := 14) 2 dX0_has_14 rfl rfl ?_
      refine x_aald (pc := 15) (g0 := 1) ar_101 (by decide) rfl dX0_has_15 (fun m1 => ?_)
      refine x_nameR (fun o2 => ?_)
      refine x_aload_n (pc := 16) 1 dX0_has_16 rfl rfl ?_
      refine x_acmp_ne (pc := 17) 22 (by decide) dX0_has_17 (by decide) (fun _ => ?_) (fun _ => ?_)
      ·
        refine x_iinc (pc := 22) (als' := [(2, aI (v2 + 1)), (0, aR 0 (some 0)), (1, aR 1 (some h1))]) 2 2 (c := 1) dX0_has_22 rfl rfl (by decide) rfl ?_
        refine x_nameV (g := fun y4 => [(2, aI y4), (0, aR 0 (some 0)), (1, aR 1 (some h1))]) (fun x3 => ?_) rfl
        refine x_goto (pc := 25) 2 dX0_has_25 (by decide) ?_
        exact x_sub [1, 2, 0] rfl (ih x3)
      ·
        refine x_iconst (pc := 20) 1 dX0_has_20 rfl ?_
        exact x_zretC (rm := r0_has) rfl rfl (by decide) dX0_has_21
set_option maxRecDepth 20000 in
theorem x0_has (E : zEn)  (h1 : Nat) (σ : zSt) : X E cX0_has m0_has true (zQr E true eI r0_has σ) 0 0 σ [(0, aR 0 (some 0)), (1, aR 1 (some h1))] 0 [] (f0_has h1 σ) := by
  unfold f0_has
  refine x_iconst (pc := 0) 0 dX0_has_0 rfl ?_
  refine x_istore_n (pc := 1) (als' := [(2, aI 0), (0, aR 0 (some 0)), (1, aR 1 (some h1))]) 2 dX0_has_1 rfl (by decide) rfl ?_
  refine x_sub [1, 2, 0] rfl (xl0_has_2 E h1 σ zfuel 0)
theorem c_0_has (l : Launch)  (h1 : Nat) (σ : zSt) : zMet l yX0_has cX0_has 3 (some .boolean) r0_has true eI [aR 0 (some 0), aR 1 (some h1)] σ (zro (f0_has h1 σ) σ) :=
  zMet_ofR [(0, aR 0 (some 0)), (1, aR 1 (some h1))] (by decide +kernel) (fun h => by cases h) (Nat.le_of_ble_eq_true rfl) rfl fun E _ => x0_has E  h1 σ
abbrev r0_add : Room := { frames := 0, cells := 0, slots := 0, locals := 0 }
abbrev m0_add : zMu := (RX0, 2, (some .boolean), r0_add, false)
set_option maxRecDepth 20000 in
theorem x0_add (E : zEn)  (h1 : Nat) (σ : zSt) : X E cX0_add m0_add true (zQw E true eI r0_add) 0 0 σ [(0, aR 0 (some 0)), (1, aR 1 (some h1))] 0 [] (f0_add h1 σ) := by
  unfold f0_add
  refine x_aload_n (pc := 0) 0 dX0_add_0 rfl rfl ?_
  refine x_getI (pc := 1) fd_0_2 tk_124 dX0_add_1 ?_
  refine x_bipush (pc := 4) 7 dX0_add_4 rfl ?_
  refine x_icmp_lt (pc := 6) 11 dX0_add_6 (by decide) (fun _ => ?_) (fun _ => ?_)
  ·
    refine x_aload_n (pc := 11) 0 dX0_add_11 rfl rfl ?_
    refine x_getF (pc := 12) (j := 0) fd_0_1 rfl rfl tk_123 dX0_add_12 ?_
    refine x_aload_n (pc := 15) 0 dX0_add_15 rfl rfl ?_
    refine x_getI (pc := 16) fd_0_2 tk_124 dX0_add_16 ?_
    refine x_aload_n (pc := 19) 1 dX0_add_19 rfl rfl ?_
    refine x_aast (pc := 20) 1 ar_101 (by decide) rfl dX0_add_20 (fun m1 => ?_)
    refine x_nameS (fun s2 => ?_)
    refine x_aload_n (pc := 21) 0 dX0_add_21 rfl rfl ?_
    refine x_dup (pc := 22) dX0_add_22 rfl ?_
    refine x_getI (pc := 23) fd_0_2 tk_124 dX0_add_23 ?_
    refine x_iconst (pc := 26) 1 dX0_add_26 rfl ?_
    refine x_iadd (pc := 27) dX0_add_27 ?_
    refine x_putI (pc := 28) fd_0_2 pt_0_2 tk_124 dX0_add_28 (Or.inl rfl) ?_
    refine x_nameS (fun s3 => ?_)
    refine x_iconst (pc := 31) 1 dX0_add_31 rfl ?_
    exact x_zretC (rm := r0_add) rfl rfl (by decide) dX0_add_32
  ·
    refine x_iconst (pc := 9) 0 dX0_add_9 rfl ?_
    exact x_zretC (rm := r0_add) rfl rfl (by decide) dX0_add_10
theorem c_0_add (l : Launch)  (h1 : Nat) (σ : zSt) : zMet l yX0_add cX0_add 2 (some .boolean) r0_add true eI [aR 0 (some 0), aR 1 (some h1)] σ (f0_add h1 σ) :=
  zMet_of [(0, aR 0 (some 0)), (1, aR 1 (some h1))] (by decide +kernel) (fun h => by cases h) (Nat.le_of_ble_eq_true rfl) rfl fun E _ => x0_add E  h1 σ
abbrev r11_isIn : Room := { frames := 0, cells := 0, slots := 0, locals := 0 }
abbrev m11_isIn : zMu := (RX11, 2, (some .boolean), r11_isIn, false)
set_option maxRecDepth 20000 in
theorem x11_isIn (E : zEn)  (q : Bool) (v0 : Int32) (v1 : Int32) (σ : zSt) : X E cX11_isIn m11_isIn q (zQr E q eI r11_isIn σ) 0 0 σ [(0, aI v0), (1, aI v1)] 0 [] (f11_isIn v0 v1 σ) := by
  unfold f11_isIn
  refine x_iload_n (pc := 0) 0 dX11_isIn_0 rfl rfl ?_
  refine x_join (P := fun (j1 : Option Int32) => X E cX11_isIn m11_isIn q (zQr E q eI r11_isIn σ) 0 0 σ [] 13 [] j1) ?_ ?_
  ·
    refine x_iconst (pc := 13) 0 dX11_isIn_13 rfl ?_
    exact x_zretC (rm := r11_isIn) rfl rfl (by decide) dX11_isIn_14
  · intro j1 hj2
    refine x_if_lt (pc := 1) 13 dX11_isIn_1 (by decide) (fun _ => ?_) (fun _ => ?_)
    ·
      exact x_sub [] rfl (hj2)
    ·
      refine x_iload_n (pc := 4) 0 dX11_isIn_4 rfl rfl ?_
      refine x_iload_n (pc := 5) 1 dX11_isIn_5 rfl rfl ?_
      refine x_icmp_ge (pc := 6) 13 dX11_isIn_6 (by decide) (fun _ => ?_) (fun _ => ?_)
      ·
        exact x_sub [] rfl (hj2)
      ·
        refine x_iconst (pc := 9) 1 dX11_isIn_9 rfl ?_
        refine x_goto (pc := 10) 14 dX11_isIn_10 (by decide) ?_
        exact x_zretC (rm := r11_isIn) rfl rfl (by decide) dX11_isIn_14
theorem c_11_isIn (l : Launch)  (q : Bool) (v0 : Int32) (v1 : Int32) (σ : zSt) : zMet l yX11_isIn cX11_isIn 2 (some .boolean) r11_isIn q eI [aI v0, aI v1] σ (zro (f11_isIn v0 v1 σ) σ) :=
  zMet_ofR [(0, aI v0), (1, aI v1)] (by decide +kernel) (fun h => by cases h) (Nat.le_of_ble_eq_true rfl) rfl fun E _ => x11_isIn E  q v0 v1 σ
abbrev r0_areEnough : Room := { frames := 1, cells := 0, slots := 0, locals := 21 }
abbrev m0_areEnough : zMu := (RX0, 6, (some .boolean), r0_areEnough, false)
set_option maxRecDepth 20000 in
theorem xl0_areEnough_29 (E : zEn)   (h1 : Int32) (h2 : Int32) (h3 : Int32) (σ : zSt) {K81 : Int32 → Option Int32} (hK81 : ∀ (v4 : Int32), X E cX0_areEnough m0_areEnough true (zQr E true eI r0_areEnough σ) 0 0 σ [(0, aR 0 (some 0)), (1, aI h1), (2, aI h2), (3, aI h3), (4, aI v4)] 81 [] (K81 v4)) : ∀ (n : Nat) (v4 : Int32) (v5 : Int32), X E cX0_areEnough m0_areEnough true (zQr E true eI r0_areEnough σ) 0 0 σ [(0, aR 0 (some 0)), (1, aI h1), (2, aI h2), (3, aI h3), (4, aI v4), (5, aI v5)] 29 [] (f0_areEnough_L29 h1 h2 h3 σ K81 n v4 v5) := by
  intro n
  induction n with
  | zero => intros; exact x_none
  | succ n ih =>
    intro v4 v5
    rw [f0_areEnough_L29]
    refine x_iload (pc := 29) 5 dX0_areEnough_29 rfl ?_
    refine x_aload_n (pc := 31) 0 dX0_areEnough_31 rfl rfl ?_
    refine x_getI (pc := 32) fd_0_2 tk_124 dX0_areEnough_32 ?_
    refine x_icmp_ge (pc := 35) 81 dX0_areEnough_35 (by decide) (fun _ => ?_) (fun _ => ?_)
    ·
      exact x_sub [0, 1, 2, 3, 4] rfl (hK81 v4)
    ·
      refine x_iload (pc := 38) 4 dX0_areEnough_38 rfl ?_
      refine x_iload_n (pc := 40) 1 dX0_areEnough_40 rfl rfl ?_
      refine x_iload (pc := 41) 5 dX0_areEnough_41 rfl ?_
      refine x_ishr (pc := 43) dX0_areEnough_43 ?_
      refine x_iconst (pc := 44) 1 dX0_areEnough_44 rfl ?_
      refine x_iand (pc := 45) dX0_areEnough_45 ?_
      refine x_iconst (pc := 46) 1 dX0_areEnough_46 rfl ?_
      refine x_join (P := fun (j8 : Int32 → Option Int32) => ∀ (a7 : Int32), X E cX0_areEnough m0_areEnough true (zQr E true eI r0_areEnough σ) 0 0 σ [(0, aR 0 (some 0)), (1, aI h1), (2, aI h2), (3, aI h3), (5, aI v5)] 72 [aI a7, aI v4] (j8 a7)) ?_ ?_
      · intro a7
        refine x_iadd (pc := 72) dX0_areEnough_72 ?_
        refine x_nameI (fun x10 => ?_)
        refine x_istore (pc := 73) (als' := [(4, aI x10), (0, aR 0 (some 0)), (1, aI h1), (2, aI h2), (3, aI h3), (5, aI v5)]) 4 dX0_areEnough_73 (by decide) rfl ?_
        refine x_iinc (pc := 75) (als' := [(5, aI (v5 + 1)), (4, aI x10), (0, aR 0 (some 0)), (1, aI h1), (2, aI h2), (3, aI h3)]) 5 5 (c := 1) dX0_areEnough_75 rfl rfl (by decide) rfl ?_
        refine x_nameV (g := fun y12 => [(5, aI y12), (4, aI x10), (0, aR 0 (some 0)), (1, aI h1), (2, aI h2), (3, aI h3)]) (fun x11 => ?_) rfl
        refine x_goto (pc := 78) 29 dX0_areEnough_78 (by decide) ?_
        exact x_sub [2, 3, 4, 5, 1, 0] rfl (ih x10 x11)
      · intro j8 hj9
        refine x_join (P := fun (j13 : Option Int32) => X E cX0_areEnough m0_areEnough true (zQr E true eI r0_areEnough σ) 0 0 σ [(0, aR 0 (some 0)), (1, aI h1), (2, aI h2), (3, aI h3), (5, aI v5)] 71 [aI v4] j13) ?_ ?_
        ·
          refine x_iconst (pc := 71) 0 dX0_areEnough_71 rfl ?_
          exact hj9 0
        · intro j13 hj14
          refine x_icmp_ne (pc := 47) 71 dX0_areEnough_47 (by decide) (fun _ => ?_) (fun _ => ?_)
          ·
            exact x_sub [0, 1, 2, 3, 5] rfl (hj14)
          ·
            refine x_aload_n (pc := 50) 0 dX0_areEnough_50 rfl rfl ?_
            refine x_getF (pc := 51) (j := 0) fd_0_1 rfl rfl tk_123 dX0_areEnough_51 ?_
            refine x_iload (pc := 54) 5 dX0_areEnough_54 rfl ?_
            refine x_aald (pc := 56) (g0 := 1) ar_101 (by decide) rfl dX0_areEnough_56 (fun m15 => ?_)
            refine x_nameR (fun o16 => ?_)
            rcases o16 with _ | i17
            · exact x_none
            ·
              skip
              refine x_zocS ?_
              refine x_getR (pc := 57) fd_1_4 tk_438 dX0_areEnough_57 ?_
              refine x_nameR (fun o18 => ?_)
              rcases o18 with _ | i19
              · exact x_none
              ·
                skip
                refine x_zocS ?_
                refine x_getI (pc := 60) fd_7_0 tk_364 dX0_areEnough_60 ?_
                refine x_iload_n (pc := 63) 3 dX0_areEnough_63 rfl rfl ?_
                refine x_icmp_ne (pc := 64) 71 dX0_areEnough_64 (by decide) (fun _ => ?_) (fun _ => ?_)
                ·
                  exact x_sub [0, 1, 2, 3, 5] rfl (hj14)
                ·
                  refine x_iconst (pc := 67) 1 dX0_areEnough_67 rfl ?_
                  refine x_goto (pc := 68) 72 dX0_areEnough_68 (by decide) ?_
                  exact x_sub [0, 1, 2, 3, 5] rfl (hj9 1)
set_option maxRecDepth 20000 in
theorem xl0_areEnough_2 (E : zEn)   (h1 : Int32) (σ : zSt)   : ∀ (n : Nat) (v2 : Int32), X E cX0_areEnough m0_areEnough true (zQr E true eI r0_areEnough σ) 0 0 σ [(0, aR 0 (some 0)), (1, aI h1), (2, aI v2)] 2 [] (f0_areEnough_L2 h1 σ n v2) := by
  intro n
  induction n with
  | zero => intros; exact x_none
  | succ n ih =>
    intro v2
    rw [f0_areEnough_L2]
    refine x_iload_n (pc := 2) 2 dX0_areEnough_2 rfl rfl ?_
    refine x_aload_n (pc := 3) 0 dX0_areEnough_3 rfl rfl ?_
    refine x_getI (pc := 4) fd_0_2 tk_124 dX0_areEnough_4 ?_
    refine x_icmp_ge (pc := 7) 109 dX0_areEnough_7 (by decide) (fun _ => ?_) (fun _ => ?_)
    ·
      refine x_iconst (pc := 109) 1 dX0_areEnough_109 rfl ?_
      exact x_zretC (rm := r0_areEnough) rfl rfl (by decide) dX0_areEnough_110
    ·
      refine x_aload_n (pc := 10) 0 dX0_areEnough_10 rfl rfl ?_
      refine x_getF (pc := 11) (j := 0) fd_0_1 rfl rfl tk_123 dX0_areEnough_11 ?_
      refine x_iload_n (pc := 14) 2 dX0_areEnough_14 rfl rfl ?_
      refine x_aald (pc := 15) (g0 := 1) ar_101 (by decide) rfl dX0_areEnough_15 (fun m1 => ?_)
      refine x_nameR (fun o2 => ?_)
      rcases o2 with _ | i3
      · exact x_none
      ·
        skip
        refine x_zocS ?_
        refine x_getR (pc := 16) fd_1_4 tk_438 dX0_areEnough_16 ?_
        refine x_nameR (fun o4 => ?_)
        rcases o4 with _ | i5
        · exact x_none
        ·
          skip
          refine x_zocS ?_
          refine x_getI (pc := 19) fd_7_0 tk_364 dX0_areEnough_19 ?_
          refine x_nameI (fun x6 => ?_)
          refine x_istore_n (pc := 22) (als' := [(3, aI x6), (0, aR 0 (some 0)), (1, aI h1), (2, aI v2)]) 3 dX0_areEnough_22 rfl (by decide) rfl ?_
          refine x_iconst (pc := 23) 0 dX0_areEnough_23 rfl ?_
          refine x_istore (pc := 24) (als' := [(4, aI 0), (3, aI x6), (0, aR 0 (some 0)), (1, aI h1), (2, aI v2)]) 4 dX0_areEnough_24 (by decide) rfl ?_
          refine x_iconst (pc := 26) 0 dX0_areEnough_26 rfl ?_
          refine x_istore (pc := 27) (als' := [(5, aI 0), (4, aI 0), (3, aI x6), (0, aR 0 (some 0)), (1, aI h1), (2, aI v2)]) 5 dX0_areEnough_27 (by decide) rfl ?_
          refine x_sub [3, 4, 5, 2, 1, 0] rfl (xl0_areEnough_29 E h1 v2 x6 σ (fun a20 => ?_) zfuel 0 0)
          ·
            refine x_iload_n (pc := 81) 3 dX0_areEnough_81 rfl rfl ?_
            refine x_bipush (pc := 82) 10 dX0_areEnough_82 rfl ?_
            refine x_callSNr (pc := 84) (as := [aI x6, aI 10]) (rest := []) (fun l => c_11_isIn l true x6 10 σ) md_X11_isIn tk_219 (host := RX11) (by decide +kernel) dX0_areEnough_84 rfl ⟨by decide, by decide, by decide, by decide⟩ ⟨fun _ => rfl, fun _ => Or.inl rfl⟩ rfl (Nat.le_of_ble_eq_true rfl) (fun r21 => ?_)
            show X E _ _ _ _ 0 0 _ _ _ [aI r21] _
            refine x_join (P := fun (j22 : Option Int32) => X E cX0_areEnough m0_areEnough true (zQr E true eI r0_areEnough σ) 0 0 σ [(0, aR 0 (some 0)), (1, aI h1), (2, aI v2)] 103 [] j22) ?_ ?_
            ·
              refine x_iinc (pc := 103) (als' := [(2, aI (v2 + 1)), (0, aR 0 (some 0)), (1, aI h1)]) 2 2 (c := 1) dX0_areEnough_103 rfl rfl (by decide) rfl ?_
              refine x_nameV (g := fun y25 => [(2, aI y25), (0, aR 0 (some 0)), (1, aI h1)]) (fun x24 => ?_) rfl
              refine x_goto (pc := 106) 2 dX0_areEnough_106 (by decide) ?_
              exact x_sub [1, 2, 0] rfl (ih x24)
            · intro j22 hj23
              refine x_if_eq (pc := 87) 103 dX0_areEnough_87 (by decide) (fun _ => ?_) (fun _ => ?_)
              ·
                exact x_sub [0, 1, 2] rfl (hj23)
              ·
                refine x_iload (pc := 90) 4 dX0_areEnough_90 rfl ?_
                refine x_aload_n (pc := 92) 0 dX0_areEnough_92 rfl rfl ?_
                refine x_getF (pc := 93) (j := 0) fd_0_0 rfl rfl tk_121 dX0_areEnough_93 ?_
                refine x_iload_n (pc := 96) 3 dX0_areEnough_96 rfl rfl ?_
                refine x_iald (pc := 97) ar_100 dX0_areEnough_97 (fun m26 => ?_)
                refine x_icmp_le (pc := 98) 103 dX0_areEnough_98 (by decide) (fun _ => ?_) (fun _ => ?_)
                ·
                  exact x_sub [0, 1, 2] rfl (hj23)
                ·
                  refine x_iconst (pc := 101) 0 dX0_areEnough_101 rfl ?_
                  exact x_zretC (rm := r0_areEnough) rfl rfl (by decide) dX0_areEnough_102
set_option maxRecDepth 20000 in
theorem x0_areEnough (E : zEn)  (v1 : Int32) (σ : zSt) : X E cX0_areEnough m0_areEnough true (zQr E true eI r0_areEnough σ) 0 0 σ [(0, aR 0 (some 0)), (1, aI v1)] 0 [] (f0_areEnough v1 σ) := by
  unfold f0_areEnough
  refine x_iconst (pc := 0) 0 dX0_areEnough_0 rfl ?_
  refine x_istore_n (pc := 1) (als' := [(2, aI 0), (0, aR 0 (some 0)), (1, aI v1)]) 2 dX0_areEnough_1 rfl (by decide) rfl ?_
  refine x_sub [1, 2, 0] rfl (xl0_areEnough_2 E v1 σ zfuel 0)
theorem c_0_areEnough (l : Launch)  (v1 : Int32) (σ : zSt) : zMet l yX0_areEnough cX0_areEnough 6 (some .boolean) r0_areEnough true eI [aR 0 (some 0), aI v1] σ (zro (f0_areEnough v1 σ) σ) :=
  zMet_ofR [(0, aR 0 (some 0)), (1, aI v1)] (by decide +kernel) (fun h => by cases h) (Nat.le_of_ble_eq_true rfl) rfl fun E _ => x0_areEnough E  v1 σ
abbrev r0_firstOf : Room := { frames := 0, cells := 0, slots := 0, locals := 0 }
abbrev m0_firstOf : zMu := (RX0, 3, (some .int), r0_firstOf, false)
set_option maxRecDepth 20000 in
theorem xl0_firstOf_2 (E : zEn)  (q : Bool) (h1 : Int32) (σ : zSt)   : ∀ (n : Nat) (v2 : Int32), X E cX0_firstOf m0_firstOf q (zQr E q eI r0_firstOf σ) 0 0 σ [(0, aR 0 (some 0)), (1, aI h1), (2, aI v2)] 2 [] (f0_firstOf_L2 h1 σ n v2) := by
  intro n
  induction n with
  | zero => intros; exact x_none
  | succ n ih =>
    intro v2
    rw [f0_firstOf_L2]
    refine x_iload_n (pc := 2) 2 dX0_firstOf_2 rfl rfl ?_
    refine x_aload_n (pc := 3) 0 dX0_firstOf_3 rfl rfl ?_
    refine x_getI (pc := 4) fd_0_2 tk_124 dX0_firstOf_4 ?_
    refine x_iconst (pc := 7) 1 dX0_firstOf_7 rfl ?_
    refine x_isub (pc := 8) dX0_firstOf_8 ?_
    refine x_icmp_ge (pc := 9) 26 dX0_firstOf_9 (by decide) (fun _ => ?_) (fun _ => ?_)
    ·
      refine x_iload_n (pc := 26) 2 dX0_firstOf_26 rfl rfl ?_
      exact x_iret (rm := r0_firstOf) rfl rfl dX0_firstOf_27
    ·
      refine x_iload_n (pc := 12) 1 dX0_firstOf_12 rfl rfl ?_
      refine x_iload_n (pc := 13) 2 dX0_firstOf_13 rfl rfl ?_
      refine x_ishr (pc := 14) dX0_firstOf_14 ?_
      refine x_iconst (pc := 15) 1 dX0_firstOf_15 rfl ?_
      refine x_iand (pc := 16) dX0_firstOf_16 ?_
      refine x_if_ne (pc := 17) 26 dX0_firstOf_17 (by decide) (fun _ => ?_) (fun _ => ?_)
      ·
        refine x_iload_n (pc := 26) 2 dX0_firstOf_26 rfl rfl ?_
        exact x_iret (rm := r0_firstOf) rfl rfl dX0_firstOf_27
      ·
        refine x_iinc (pc := 20) (als' := [(2, aI (v2 + 1)), (0, aR 0 (some 0)), (1, aI h1)]) 2 2 (c := 1) dX0_firstOf_20 rfl rfl (by decide) rfl ?_
        refine x_nameV (g := fun y2 => [(2, aI y2), (0, aR 0 (some 0)), (1, aI h1)]) (fun x1 => ?_) rfl
        refine x_goto (pc := 23) 2 dX0_firstOf_23 (by decide) ?_
        exact x_sub [1, 2, 0] rfl (ih x1)
set_option maxRecDepth 20000 in
theorem x0_firstOf (E : zEn)  (q : Bool) (v1 : Int32) (σ : zSt) : X E cX0_firstOf m0_firstOf q (zQr E q eI r0_firstOf σ) 0 0 σ [(0, aR 0 (some 0)), (1, aI v1)] 0 [] (f0_firstOf v1 σ) := by
  unfold f0_firstOf
  refine x_iconst (pc := 0) 0 dX0_firstOf_0 rfl ?_
  refine x_istore_n (pc := 1) (als' := [(2, aI 0), (0, aR 0 (some 0)), (1, aI v1)]) 2 dX0_firstOf_1 rfl (by decide) rfl ?_
  refine x_sub [1, 2, 0] rfl (xl0_firstOf_2 E q v1 σ zfuel 0)
theorem c_0_firstOf (l : Launch)  (q : Bool) (v1 : Int32) (σ : zSt) : zMet l yX0_firstOf cX0_firstOf 3 (some .int) r0_firstOf q eI [aR 0 (some 0), aI v1] σ (zro (f0_firstOf v1 σ) σ) :=
  zMet_ofR [(0, aR 0 (some 0)), (1, aI v1)] (by decide +kernel) (fun h => by cases h) (Nat.le_of_ble_eq_true rfl) rfl fun E _ => x0_firstOf E  q v1 σ
abbrev r0_digit : Room := { frames := 0, cells := 0, slots := 0, locals := 0 }
abbrev m0_digit : zMu := (RX0, 4, (some .long), r0_digit, false)
set_option maxRecDepth 20000 in
theorem xl0_digit_4 (E : zEn)  (q : Bool) (σ : zSt)   : ∀ (n : Nat) (v1 : Int64) (v3 : Int32), X E cX0_digit m0_digit q (zQr E q eL r0_digit σ) 0 0 σ [(1, aL v1), (3, aI v3)] 4 [] (f0_digit_L4 σ n v1 v3) := by
  intro n
  induction n with
  | zero => intros; exact x_none
  | succ n ih =>
    intro v1 v3
    rw [f0_digit_L4]
    refine x_iload_n (pc := 4) 3 dX0_digit_4 rfl rfl ?_
    refine x_bipush (pc := 5) 6 dX0_digit_5 rfl ?_
    refine x_icmp_ge (pc := 7) 22 dX0_digit_7 (by decide) (fun _ => ?_) (fun _ => ?_)
    ·
      refine x_lload_n (pc := 22) 1 dX0_digit_22 rfl rfl ?_
      exact x_lret (rm := r0_digit) rfl rfl dX0_digit_23
    ·
      refine x_lload_n (pc := 10) 1 dX0_digit_10 rfl rfl ?_
      refine x_ldc2 (pc := 11) (v := 15) dX0_digit_11 tk_789 ?_
      refine x_lmul (pc := 14) dX0_digit_14 ?_
      refine x_nameL (fun l1 => ?_)
      refine x_lstore_n (pc := 15) (als' := [(1, aL l1), (3, aI v3)]) 1 dX0_digit_15 rfl (by decide) rfl ?_
      refine x_iinc (pc := 16) (als' := [(3, aI (v3 + 1)), (1, aL l1)]) 3 1 (c := 1) dX0_digit_16 rfl rfl (by decide) rfl ?_
      refine x_nameV (g := fun y3 => [(3, aI y3), (1, aL l1)]) (fun x2 => ?_) rfl
      refine x_goto (pc := 19) 4 dX0_digit_19 (by decide) ?_
      exact x_sub [1, 0] rfl (ih l1 x2)
set_option maxRecDepth 20000 in
theorem x0_digit (E : zEn)  (q : Bool) (v0 : Int32) (σ : zSt) : X E cX0_digit m0_digit q (zQr E q eL r0_digit σ) 0 0 σ [(0, aI v0)] 0 [] (f0_digit v0 σ) := by
  unfold f0_digit
  refine x_lconst (pc := 0) 1 dX0_digit_0 rfl ?_
  refine x_lstore_n (pc := 1) (als' := [(1, aL 1), (0, aI v0)]) 1 dX0_digit_1 rfl (by decide) rfl ?_
  refine x_iload_n (pc := 2) 0 dX0_digit_2 rfl rfl ?_
  refine x_istore_n (pc := 3) (als' := [(3, aI v0), (1, aL 1), (0, aI v0)]) 3 dX0_digit_3 rfl (by decide) rfl ?_
  refine x_sub [1, 0] rfl (xl0_digit_4 E q σ zfuel 1 v0)
theorem c_0_digit (l : Launch)  (q : Bool) (v0 : Int32) (σ : zSt) : zMet l yX0_digit cX0_digit 4 (some .long) r0_digit q eL [aI v0] σ (zro (f0_digit v0 σ) σ) :=
  zMet_ofR [(0, aI v0)] (by decide +kernel) (fun h => by cases h) (Nat.le_of_ble_eq_true rfl) rfl fun E _ => x0_digit E  q v0 σ
abbrev r5_isInOn : Room := { frames := 0, cells := 0, slots := 0, locals := 0 }
abbrev m5_isInOn : zMu := (RX5, 2, (some .boolean), r5_isInOn, false)
set_option maxRecDepth 20000 in
theorem x5_isInOn (E : zEn)  (q : Bool) (h : Nat) (v1 : Int32) (σ : zSt) : X E cX5_isInOn m5_isInOn q (zQr E q eI r5_isInOn σ) 0 0 σ [(0, aR 5 (some h)), (1, aI v1)] 0 [] (f5_isInOn h v1 σ) := by
  unfold f5_isInOn
  refine x_aload_n (pc := 0) 0 dX5_isInOn_0 rfl rfl ?_
  refine x_getI (pc := 1) fd_5_5 tk_239 dX5_isInOn_1 ?_
  refine x_iload_n (pc := 4) 1 dX5_isInOn_4 rfl rfl ?_
  refine x_bipush (pc := 5) 7 dX5_isInOn_5 rfl ?_
  refine x_iremC (pc := 7) dX5_isInOn_7 (by decide) ?_
  refine x_ishr (pc := 8) dX5_isInOn_8 ?_
  refine x_iconst (pc := 9) 1 dX5_isInOn_9 rfl ?_
  refine x_iand (pc := 10) dX5_isInOn_10 ?_
  refine x_iconst (pc := 11) 1 dX5_isInOn_11 rfl ?_
  refine x_icmp_ne (pc := 12) 19 dX5_isInOn_12 (by decide) (fun _ => ?_) (fun _ => ?_)
  ·
    refine x_iconst (pc := 19) 0 dX5_isInOn_19 rfl ?_
    exact x_zretC (rm := r5_isInOn) rfl rfl (by decide) dX5_isInOn_20
  ·
    refine x_iconst (pc := 15) 1 dX5_isInOn_15 rfl ?_
    refine x_goto (pc := 16) 20 dX5_isInOn_16 (by decide) ?_
    exact x_zretC (rm := r5_isInOn) rfl rfl (by decide) dX5_isInOn_20
theorem c_5_isInOn (l : Launch)  (q : Bool) (h : Nat) (v1 : Int32) (σ : zSt) : zMet l yX5_isInOn cX5_isInOn 2 (some .boolean) r5_isInOn q eI [aR 5 (some h), aI v1] σ (zro (f5_isInOn h v1 σ) σ) :=
  zMet_ofR [(0, aR 5 (some h)), (1, aI v1)] (by decide +kernel) (fun h => by cases h) (Nat.le_of_ble_eq_true rfl) rfl fun E _ => x5_isInOn E  q h v1 σ
abbrev r0_priceDay : Room := { frames := 1, cells := 0, slots := 0, locals := 23 }
abbrev m0_priceDay : zMu := (RX0, 10, none, r0_priceDay, false)
set_option maxRecDepth 20000 in
theorem xl0_priceDay_10 (E : zEn)   (h1 : Int32) (h2 : Int32) (h3 : Int32)   : ∀ (n : Nat) (v4 : Int32) (σ : zSt), X E cX0_priceDay m0_priceDay true (zQw E true eV r0_priceDay) 0 0 σ [(0, aR 0 (some 0)), (1, aI h1), (2, aI h2), (3, aI h3), (4, aI v4)] 10 [] (f0_priceDay_L10 h1 h2 h3 n v4 σ) := by
  intro n
  induction n with
  | zero => intros; exact x_none
  | succ n ih =>
    intro v4 σ
    rw [f0_priceDay_L10]
    refine x_iload (pc := 10) 4 dX0_priceDay_10 rfl ?_
    refine x_iload_n (pc := 12) 1 dX0_priceDay_12 rfl rfl ?_
    refine x_icmp_ge (pc := 13) 156 dX0_priceDay_13 (by decide) (fun _ => ?_) (fun _ => ?_)
    ·
      exact x_vret (rm := r0_priceDay) rfl rfl dX0_priceDay_156
    ·
      refine x_aload_n (pc := 16) 0 dX0_priceDay_16 rfl rfl ?_
      refine x_iload (pc := 17) 4 dX0_priceDay_17 rfl ?_
      refine x_callVr (pc := 19) (as := [aI v4]) (rest := []) (fun l => c_0_firstOf l true v4 σ) md_X0_firstOf ⟨_, _, rfl, by decide⟩ tk_782 tp_26 tk_780 dX0_priceDay_19 rfl ⟨by decide, by decide, by decide, by decide⟩ ⟨fun _ => rfl, fun _ => Or.inl rfl⟩ rfl (Nat.le_of_ble_eq_true rfl) (fun r3 => ?_)
      show X E _ _ _ _ 0 0 _ _ _ [aI r3] _
      refine x_istore (pc := 22) (als' := [(5, aI r3), (0, aR 0 (some 0)), (1, aI h1), (2, aI h2), (3, aI h3), (4, aI v4)]) 5 dX0_priceDay_22 (by decide) rfl ?_
      refine x_aload_n (pc := 24) 0 dX0_priceDay_24 rfl rfl ?_
      refine x_getF (pc := 25) (j := 0) fd_0_1 rfl rfl tk_123 dX0_priceDay_25 ?_
      refine x_iload (pc := 28) 5 dX0_priceDay_28 rfl ?_
      refine x_aald (pc := 30) (g0 := 1) ar_101 (by decide) rfl dX0_priceDay_30 (fun m4 => ?_)
      refine x_nameR (fun o5 => ?_)
      refine x_astore (pc := 31) (als' := [(6, aR 1 o5), (5, aI r3), (0, aR 0 (some 0)), (1, aI h1), (2, aI h2), (3, aI h3), (4, aI v4)]) 6 dX0_priceDay_31 (by decide) rfl ?_
      refine x_aload (pc := 33) 6 dX0_priceDay_33 rfl ?_
      rcases o5 with _ | i6
      · exact x_none
      ·
        skip
        refine x_zocS ?_
        refine x_getI (pc := 35) fd_1_12 tk_456 dX0_priceDay_35 ?_
        refine x_iload_n (pc := 38) 2 dX0_priceDay_38 rfl rfl ?_
        refine x_iload_n (pc := 39) 3 dX0_priceDay_39 rfl rfl ?_
        refine x_iadd (pc := 40) dX0_priceDay_40 ?_
        refine x_join (P := fun (j8 : Int64 → Option (Unit × zSt)) => ∀ (a7 : Int64), X E cX0_priceDay m0_priceDay true (zQw E true eV r0_priceDay) 0 0 σ [(0, aR 0 (some 0)), (1, aI h1), (2, aI h2), (3, aI h3), (4, aI v4), (5, aI r3), (6, aR 1 (some i6))] 58 [aL a7] (j8 a7)) ?_ ?_
        · intro a7
          refine x_lstore (pc := 58) (als' := [(7, aL a7), (0, aR 0 (some 0)), (1, aI h1), (2, aI h2), (3, aI h3), (4, aI v4), (5, aI r3), (6, aR 1 (some i6))]) 7 dX0_priceDay_58 (by decide) rfl ?_
          refine x_lload (pc := 60) 7 dX0_priceDay_60 rfl ?_
          refine x_iload_n (pc := 62) 3 dX0_priceDay_62 rfl rfl ?_
          refine x_i2l (pc := 63) dX0_priceDay_63 ?_
          refine x_ldc2 (pc := 64) (v := 170859375) dX0_priceDay_64 tk_785 ?_
          refine x_lmul (pc := 67) dX0_priceDay_67 ?_
          refine x_iload_n (pc := 68) 3 dX0_priceDay_68 rfl rfl ?_
          refine x_i2l (pc := 69) dX0_priceDay_69 ?_
          refine x_iload (pc := 70) 5 dX0_priceDay_70 rfl ?_
          refine x_callSr (pc := 72) (as := [aI r3]) (rest := [aL (Int32.toInt64 h3), aL ((Int32.toInt64 h3) * 170859375), aL a7]) (fun l => c_0_digit l true r3 σ) md_X0_digit tk_787 tk_786 dX0_priceDay_72 rfl ⟨by decide, by decide, by decide, by decide⟩ ⟨fun _ => rfl, fun _ => Or.inl rfl⟩ rfl (Nat.le_of_ble_eq_true rfl) (fun r10 => ?_)
          show X E _ _ _ _ 0 0 _ _ _ [aL r10, aL (Int32.toInt64 h3), aL ((Int32.toInt64 h3) * 170859375), aL a7] _
          refine x_lmul (pc := 75) dX0_priceDay_75 ?_
          refine x_ladd (pc := 76) dX0_priceDay_76 ?_
          refine x_ladd (pc := 77) dX0_priceDay_77 ?_
          refine x_nameL (fun l11 => ?_)
          refine x_lstore (pc := 78) (als' := [(7, aL l11), (0, aR 0 (some 0)), (1, aI h1), (2, aI h2), (3, aI h3), (4, aI v4), (5, aI r3), (6, aR 1 (some i6))]) 7 dX0_priceDay_78 (by decide) rfl ?_
          refine x_aload_n (pc := 80) 0 dX0_priceDay_80 rfl rfl ?_
          refine x_getF (pc := 81) (j := 0) fd_0_7 rfl rfl tk_132 dX0_priceDay_81 ?_
          refine x_iload (pc := 84) 4 dX0_priceDay_84 rfl ?_
          refine x_zald (pc := 86) ar_107 dX0_priceDay_86 (fun m12 => ?_)
          refine x_join (P := fun (j14 : Int32 → Option (Unit × zSt)) => ∀ (a13 : Int32), X E cX0_priceDay m0_priceDay true (zQw E true eV r0_priceDay) 0 0 σ [(0, aR 0 (some 0)), (1, aI h1), (2, aI h2), (3, aI h3), (4, aI v4), (7, aL l11)] 109 [aI a13] (j14 a13)) ?_ ?_
          · intro a13
            refine x_istore (pc := 109) (als' := [(9, aI a13), (0, aR 0 (some 0)), (1, aI h1), (2, aI h2), (3, aI h3), (4, aI v4), (7, aL l11)]) 9 dX0_priceDay_109 (by decide) rfl ?_
            refine x_aload_n (pc := 111) 0 dX0_priceDay_111 rfl rfl ?_
            refine x_getF (pc := 112) (j := 0) fd_0_6 rfl rfl tk_131 dX0_priceDay_112 ?_
            refine x_iload (pc := 115) 4 dX0_priceDay_115 rfl ?_
            refine x_iload (pc := 117) 9 dX0_priceDay_117 rfl ?_
            refine x_join (P := fun (j17 : Int64 → Option (Unit × zSt)) => ∀ (a16 : Int64), X E cX0_priceDay m0_priceDay true (zQw E true eV r0_priceDay) 0 0 σ [(0, aR 0 (some 0)), (1, aI h1), (2, aI h2), (3, aI h3), (4, aI v4)] 149 [aL a16, aI v4, aR 106 (some 0)] (j17 a16)) ?_ ?_
            · intro a16
              refine x_last (pc := 149) ar_106 dX0_priceDay_149 (fun m19 => ?_)
              refine x_nameS (fun s20 => ?_)
              refine x_iinc (pc := 150) (als' := [(4, aI (v4 + 1)), (0, aR 0 (some 0)), (1, aI h1), (2, aI h2), (3, aI h3)]) 4 4 (c := 1) dX0_priceDay_150 rfl rfl (by decide) rfl ?_
              refine x_nameV (g := fun y22 => [(4, aI y22), (0, aR 0 (some 0)), (1, aI h1), (2, aI h2), (3, aI h3)]) (fun x21 => ?_) rfl
              refine x_goto (pc := 153) 10 dX0_priceDay_153 (by decide) ?_
              exact x_sub [1, 2, 3, 4, 0] rfl (ih x21 s20)
            · intro j17 hj18
              refine x_if_eq (pc := 119) 146 dX0_priceDay_119 (by decide) (fun _ => ?_) (fun _ => ?_)
              ·
                refine x_ldc2 (pc := 146) (v := 174960000000000) dX0_priceDay_146 tk_775 ?_
                exact x_sub [1, 2, 3, 4, 5] rfl (hj18 174960000000000)
              ·
                refine x_ldc2 (pc := 122) (v := 174960000000000) dX0_priceDay_122 tk_775 ?_
                refine x_aload_n (pc := 125) 0 dX0_priceDay_125 rfl rfl ?_
                refine x_getF (pc := 126) (j := 0) fd_0_6 rfl rfl tk_131 dX0_priceDay_126 ?_
                refine x_iload (pc := 129) 4 dX0_priceDay_129 rfl ?_
                refine x_iload (pc := 131) 4 dX0_priceDay_131 rfl ?_
                refine x_iconst (pc := 133) 1 dX0_priceDay_133 rfl ?_
                refine x_isub (pc := 134) dX0_priceDay_134 ?_
                refine x_iand (pc := 135) dX0_priceDay_135 ?_
                refine x_lald (pc := 136) ar_106 dX0_priceDay_136 (fun m23 => ?_)
                refine x_lload (pc := 137) 7 dX0_priceDay_137 rfl ?_
                refine x_ladd (pc := 139) dX0_priceDay_139 ?_
                refine x_zminl (pc := 140) (rest := [aI v4, aR 106 (some 0)]) tk_794 tk_795 tk_14 tk_796 dX0_priceDay_140 ⟨by decide, by decide, by decide, by decide⟩ (Nat.le_of_ble_eq_true rfl) ?_
                refine x_goto (pc := 143) 149 dX0_priceDay_143 (by decide) ?_
                exact x_sub [1, 2, 3, 4, 5] rfl (hj18 (zminl 174960000000000 ((gL σ 106 0 m23) + l11)))
          · intro j14 hj15
            refine x_join (P := fun (j24 : Option (Unit × zSt)) => X E cX0_priceDay m0_priceDay true (zQw E true eV r0_priceDay) 0 0 σ [(0, aR 0 (some 0)), (1, aI h1), (2, aI h2), (3, aI h3), (4, aI v4), (7, aL l11)] 108 [] j24) ?_ ?_
            ·
              refine x_iconst (pc := 108) 0 dX0_priceDay_108 rfl ?_
              exact hj15 0
            · intro j24 hj25
              refine x_if_eq (pc := 87) 108 dX0_priceDay_87 (by decide) (fun _ => ?_) (fun _ => ?_)
              ·
                exact x_sub [1, 2, 3, 4, 5, 0] rfl (hj25)
              ·
                refine x_aload (pc := 90) 6 dX0_priceDay_90 rfl ?_
                refine x_getR (pc := 92) fd_1_1 tk_431 dX0_priceDay_92 ?_
                refine x_nameR (fun o26 => ?_)
                refine x_iload_n (pc := 95) 2 dX0_priceDay_95 rfl rfl ?_
                refine x_iload_n (pc := 96) 3 dX0_priceDay_96 rfl rfl ?_
                refine x_iadd (pc := 97) dX0_priceDay_97 ?_
                rcases o26 with _ | i27
                · exact x_none
                ·
                  skip
                  refine x_zocS ?_
                  refine x_callVr (pc := 98) (as := [aI (h2 + h3)]) (rest := []) (fun l => c_5_isInOn l true i27 (h2 + h3) σ) md_X5_isInOn ⟨_, _, rfl, by decide⟩ tk_791 tk_792 tk_790 dX0_priceDay_98 rfl ⟨by decide, by decide, by decide, by decide⟩ ⟨fun _ => rfl, fun _ => Or.inl rfl⟩ rfl (Nat.le_of_ble_eq_true rfl) (fun r28 => ?_)
                  show X E _ _ _ _ 0 0 _ _ _ [aI r28] _
                  refine x_if_eq (pc := 101) 108 dX0_priceDay_101 (by decide) (fun _ => ?_) (fun _ => ?_)
                  ·
                    exact x_sub [1, 2, 3, 4, 5, 0] rfl (hj25)
                  ·
                    refine x_iconst (pc := 104) 1 dX0_priceDay_104 rfl ?_
                    refine x_goto (pc := 105) 109 dX0_priceDay_105 (by decide) ?_
                    exact x_sub [1, 2, 3, 4, 5, 0] rfl (hj15 1)
        · intro j8 hj9
          refine x_icmp_ge (pc := 41) 57 dX0_priceDay_41 (by decide) (fun _ => ?_) (fun _ => ?_)
          ·
            refine x_lconst (pc := 57) 0 dX0_priceDay_57 rfl ?_
            exact x_sub [2, 3, 4, 5, 6, 1, 0] rfl (hj9 0)
          ·
            refine x_aload (pc := 44) 6 dX0_priceDay_44 rfl ?_
            refine x_getI (pc := 46) fd_1_5 tk_441 dX0_priceDay_46 ?_
            refine x_i2l (pc := 49) dX0_priceDay_49 ?_
            refine x_ldc2 (pc := 50) (v := 174960000000) dX0_priceDay_50 tk_784 ?_
            refine x_lmul (pc := 53) dX0_priceDay_53 ?_
            refine x_goto (pc := 54) 58 dX0_priceDay_54 (by decide) ?_
            exact x_sub [2, 3, 4, 5, 6, 1, 0] rfl (hj9 ((Int32.toInt64 (gI σ 1 i6 5)) * 174960000000))
set_option maxRecDepth 20000 in
theorem x0_priceDay (E : zEn)  (v1 : Int32) (v2 : Int32) (v3 : Int32) (σ : zSt) : X E cX0_priceDay m0_priceDay true (zQw E true eV r0_priceDay) 0 0 σ [(0, aR 0 (some 0)), (1, aI v1), (2, aI v2), (3, aI v3)] 0 [] (f0_priceDay v1 v2 v3 σ) := by
  unfold f0_priceDay
  refine x_aload_n (pc := 0) 0 dX0_priceDay_0 rfl rfl ?_
  refine x_getF (pc := 1) (j := 0) fd_0_6 rfl rfl tk_131 dX0_priceDay_1 ?_
  refine x_iconst (pc := 4) 0 dX0_priceDay_4 rfl ?_
  refine x_lconst (pc := 5) 0 dX0_priceDay_5 rfl ?_
  refine x_last (pc := 6) ar_106 dX0_priceDay_6 (fun m1 => ?_)
  refine x_nameS (fun s2 => ?_)
  refine x_iconst (pc := 7) 1 dX0_priceDay_7 rfl ?_
  refine x_istore (pc := 8) (als' := [(4, aI 1), (0, aR 0 (some 0)), (1, aI v1), (2, aI v2), (3, aI v3)]) 4 dX0_priceDay_8 (by decide) rfl ?_
  refine x_sub [1, 2, 3, 4, 0] rfl (xl0_priceDay_10 E v1 v2 v3 zfuel 1 s2)
theorem c_0_priceDay (l : Launch)  (v1 : Int32) (v2 : Int32) (v3 : Int32) (σ : zSt) : zMet l yX0_priceDay cX0_priceDay 10 none r0_priceDay true eV [aR 0 (some 0), aI v1, aI v2, aI v3] σ (f0_priceDay v1 v2 v3 σ) :=
  zMet_of [(0, aR 0 (some 0)), (1, aI v1), (2, aI v2), (3, aI v3)] (by decide +kernel) (fun h => by cases h) (Nat.le_of_ble_eq_true rfl) rfl fun E _ => x0_priceDay E  v1 v2 v3 σ
abbrev r0_addDay : Room := { frames := 1, cells := 0, slots := 0, locals := 23 }
abbrev m0_addDay : zMu := (RX0, 4, none, r0_addDay, false)
set_option maxRecDepth 20000 in
theorem xl0_addDay_10 (E : zEn)   (h2 : Int32) {K53 : zSt → Option (Unit × zSt)} (hK53 : ∀ (σ : zSt), X E cX0_addDay m0_addDay true (zQw E true eV r0_addDay) 0 0 σ [(0, aR 0 (some 0)), (2, aI h2)] 53 [] (K53 σ)) : ∀ (n : Nat) (v3 : Int32) (σ : zSt), X E cX0_addDay m0_addDay true (zQw E true eV r0_addDay) 0 0 σ [(0, aR 0 (some 0)), (2, aI h2), (3, aI v3)] 10 [] (f0_addDay_L10 h2 K53 n v3 σ) := by
  intro n
  induction n with
  | zero => intros; exact x_none
  | succ n ih =>
    intro v3 σ
    rw [f0_addDay_L10]
    refine x_iload_n (pc := 10) 3 dX0_addDay_10 rfl rfl ?_
    refine x_if_le (pc := 11) 53 dX0_addDay_11 (by decide) (fun _ => ?_) (fun _ => ?_)
    ·
      exact x_sub [0, 1] rfl (hK53 σ)
    ·
      refine x_aload_n (pc := 14) 0 dX0_addDay_14 rfl rfl ?_
      refine x_getF (pc := 15) (j := 0) fd_0_5 rfl rfl tk_130 dX0_addDay_15 ?_
      refine x_iload_n (pc := 18) 2 dX0_addDay_18 rfl rfl ?_
      refine x_aload_n (pc := 19) 0 dX0_addDay_19 rfl rfl ?_
      refine x_getF (pc := 20) (j := 0) fd_0_5 rfl rfl tk_130 dX0_addDay_20 ?_
      refine x_iload_n (pc := 23) 2 dX0_addDay_23 rfl rfl ?_
      refine x_lald (pc := 24) ar_105 dX0_addDay_24 (fun m2 => ?_)
      refine x_aload_n (pc := 25) 0 dX0_addDay_25 rfl rfl ?_
      refine x_getF (pc := 26) (j := 0) fd_0_5 rfl rfl tk_130 dX0_addDay_26 ?_
      refine x_iload_n (pc := 29) 2 dX0_addDay_29 rfl rfl ?_
      refine x_iload_n (pc := 30) 3 dX0_addDay_30 rfl rfl ?_
      refine x_isub (pc := 31) dX0_addDay_31 ?_
      refine x_lald (pc := 32) ar_105 dX0_addDay_32 (fun m3 => ?_)
      refine x_aload_n (pc := 33) 0 dX0_addDay_33 rfl rfl ?_
      refine x_getF (pc := 34) (j := 0) fd_0_6 rfl rfl tk_131 dX0_addDay_34 ?_
      refine x_iload_n (pc := 37) 3 dX0_addDay_37 rfl rfl ?_
      refine x_lald (pc := 38) ar_106 dX0_addDay_38 (fun m4 => ?_)
      refine x_ladd (pc := 39) dX0_addDay_39 ?_
      refine x_zminl (pc := 40) (rest := [aI h2, aR 105 (some 0)]) tk_794 tk_795 tk_14 tk_796 dX0_addDay_40 ⟨by decide, by decide, by decide, by decide⟩ (Nat.le_of_ble_eq_true rfl) ?_
      refine x_last (pc := 43) ar_105 dX0_addDay_43 (fun m5 => ?_)
      refine x_nameS (fun s6 => ?_)
      refine x_iload_n (pc := 44) 3 dX0_addDay_44 rfl rfl ?_
      refine x_iconst (pc := 45) 1 dX0_addDay_45 rfl ?_
      refine x_isub (pc := 46) dX0_addDay_46 ?_
      refine x_iload_n (pc := 47) 2 dX0_addDay_47 rfl rfl ?_
      refine x_iand (pc := 48) dX0_addDay_48 ?_
      refine x_nameI (fun x7 => ?_)
      refine x_istore_n (pc := 49) (als' := [(3, aI x7), (0, aR 0 (some 0)), (2, aI h2)]) 3 dX0_addDay_49 rfl (by decide) rfl ?_
      refine x_goto (pc := 50) 10 dX0_addDay_50 (by decide) ?_
      exact x_sub [1, 2, 0] rfl (ih x7 s6)
set_option maxRecDepth 20000 in
theorem xl0_addDay_4 (E : zEn)      : ∀ (n : Nat) (v2 : Int32) (σ : zSt), X E cX0_addDay m0_addDay true (zQw E true eV r0_addDay) 0 0 σ [(0, aR 0 (some 0)), (2, aI v2)] 4 [] (f0_addDay_L4 n v2 σ) := by
  intro n
  induction n with
  | zero => intros; exact x_none
  | succ n ih =>
    intro v2 σ
    rw [f0_addDay_L4]
    refine x_iload_n (pc := 4) 2 dX0_addDay_4 rfl rfl ?_
    refine x_if_le (pc := 5) 59 dX0_addDay_5 (by decide) (fun _ => ?_) (fun _ => ?_)
    ·
      exact x_vret (rm := r0_addDay) rfl rfl dX0_addDay_59
    ·
      refine x_iload_n (pc := 8) 2 dX0_addDay_8 rfl rfl ?_
      refine x_istore_n (pc := 9) (als' := [(3, aI v2), (0, aR 0 (some 0)), (2, aI v2)]) 3 dX0_addDay_9 rfl (by decide) rfl ?_
      refine x_sub [1, 2, 0] rfl (xl0_addDay_10 E v2 (fun s8 => ?_) zfuel v2 σ)
      ·
        refine x_iinc (pc := 53) (als' := [(2, aI (v2 + (-1))), (0, aR 0 (some 0))]) 2 1 (c := (-1)) dX0_addDay_53 rfl rfl (by decide) rfl ?_
        refine x_nameV (g := fun y10 => [(2, aI y10), (0, aR 0 (some 0))]) (fun x9 => ?_) rfl
        refine x_goto (pc := 56) 4 dX0_addDay_56 (by decide) ?_
        exact x_sub [1, 0] rfl (ih x9 s8)
set_option maxRecDepth 20000 in
theorem x0_addDay (E : zEn)  (v1 : Int32) (σ : zSt) : X E cX0_addDay m0_addDay true (zQw E true eV r0_addDay) 0 0 σ [(0, aR 0 (some 0)), (1, aI v1)] 0 [] (f0_addDay v1 σ) := by
  unfold f0_addDay
  refine x_iload_n (pc := 0) 1 dX0_addDay_0 rfl rfl ?_
  refine x_iconst (pc := 1) 1 dX0_addDay_1 rfl ?_
  refine x_isub (pc := 2) dX0_addDay_2 ?_
  refine x_nameI (fun x1 => ?_)
  refine x_istore_n (pc := 3) (als' := [(2, aI x1), (0, aR 0 (some 0)), (1, aI v1)]) 2 dX0_addDay_3 rfl (by decide) rfl ?_
  refine x_sub [1, 0] rfl (xl0_addDay_4 E zfuel x1 σ)
theorem c_0_addDay (l : Launch)  (v1 : Int32) (σ : zSt) : zMet l yX0_addDay cX0_addDay 4 none r0_addDay true eV [aR 0 (some 0), aI v1] σ (f0_addDay v1 σ) :=
  zMet_of [(0, aR 0 (some 0)), (1, aI v1)] (by decide +kernel) (fun h => by cases h) (Nat.le_of_ble_eq_true rfl) rfl fun E _ => x0_addDay E  v1 σ
abbrev r0_priceWithout : Room := { frames := 1, cells := 0, slots := 0, locals := 23 }
abbrev m0_priceWithout : zMu := (RX0, 5, (some .long), r0_priceWithout, false)
set_option maxRecDepth 20000 in
theorem xl0_priceWithout_5 (E : zEn)   (h1 : Int32) (σ : zSt)   : ∀ (n : Nat) (v2 : Int64) (v4 : Int32), X E cX0_priceWithout m0_priceWithout true (zQr E true eL r0_priceWithout σ) 0 0 σ [(0, aR 0 (some 0)), (1, aI h1), (2, aL v2), (4, aI v4)] 5 [] (f0_priceWithout_L5 h1 σ n v2 v4) := by
  intro n
  induction n with
  | zero => intros; exact x_none
  | succ n ih =>
    intro v2 v4
    rw [f0_priceWithout_L5]
    refine x_iload (pc := 5) 4 dX0_priceWithout_5 rfl ?_
    refine x_aload_n (pc := 7) 0 dX0_priceWithout_7 rfl rfl ?_
    refine x_getI (pc := 8) fd_0_2 tk_124 dX0_priceWithout_8 ?_
    refine x_icmp_ge (pc := 11) 62 dX0_priceWithout_11 (by decide) (fun _ => ?_) (fun _ => ?_)
    ·
      refine x_lload_n (pc := 62) 2 dX0_priceWithout_62 rfl rfl ?_
      exact x_lret (rm := r0_priceWithout) rfl rfl dX0_priceWithout_63
    ·
      refine x_iload_n (pc := 14) 1 dX0_priceWithout_14 rfl rfl ?_
      refine x_iload (pc := 15) 4 dX0_priceWithout_15 rfl ?_
      refine x_ishr (pc := 17) dX0_priceWithout_17 ?_
      refine x_iconst (pc := 18) 1 dX0_priceWithout_18 rfl ?_
      refine x_iand (pc := 19) dX0_priceWithout_19 ?_
      refine x_iconst (pc := 20) 1 dX0_priceWithout_20 rfl ?_
      refine x_join (P := fun (j2 : Int64 → Option Int64) => ∀ (a1 : Int64), X E cX0_priceWithout m0_priceWithout true (zQr E true eL r0_priceWithout σ) 0 0 σ [(0, aR 0 (some 0)), (1, aI h1), (2, aL a1), (4, aI v4)] 56 [] (j2 a1)) ?_ ?_
      · intro a1
        refine x_iinc (pc := 56) (als' := [(4, aI (v4 + 1)), (0, aR 0 (some 0)), (1, aI h1), (2, aL a1)]) 4 3 (c := 1) dX0_priceWithout_56 rfl rfl (by decide) rfl ?_
        refine x_nameV (g := fun y5 => [(4, aI y5), (0, aR 0 (some 0)), (1, aI h1), (2, aL a1)]) (fun x4 => ?_) rfl
        refine x_goto (pc := 59) 5 dX0_priceWithout_59 (by decide) ?_
        exact x_sub [1, 2, 3, 0] rfl (ih a1 x4)
      · intro j2 hj3
        refine x_icmp_ne (pc := 21) 56 dX0_priceWithout_21 (by decide) (fun _ => ?_) (fun _ => ?_)
        ·
          exact hj3 v2
        ·
          refine x_lload_n (pc := 24) 2 dX0_priceWithout_24 rfl rfl ?_
          refine x_aload_n (pc := 25) 0 dX0_priceWithout_25 rfl rfl ?_
          refine x_getF (pc := 26) (j := 0) fd_0_1 rfl rfl tk_123 dX0_priceWithout_26 ?_
          refine x_iload (pc := 29) 4 dX0_priceWithout_29 rfl ?_
          refine x_aald (pc := 31) (g0 := 1) ar_101 (by decide) rfl dX0_priceWithout_31 (fun m6 => ?_)
          refine x_nameR (fun o7 => ?_)
          rcases o7 with _ | i8
          · exact x_none
          ·
            skip
            refine x_zocS ?_
            refine x_getI (pc := 32) fd_1_5 tk_441 dX0_priceWithout_32 ?_
            refine x_i2l (pc := 35) dX0_priceWithout_35 ?_
            refine x_ldc2 (pc := 36) (v := 174960000000) dX0_priceWithout_36 tk_784 ?_
            refine x_lmul (pc := 39) dX0_priceWithout_39 ?_
            refine x_ldc2 (pc := 40) (v := 21870000000) dX0_priceWithout_40 tk_805 ?_
            refine x_ladd (pc := 43) dX0_priceWithout_43 ?_
            refine x_ldc2 (pc := 44) (v := 14) dX0_priceWithout_44 tk_806 ?_
            refine x_iload (pc := 47) 4 dX0_priceWithout_47 rfl ?_
            refine x_callSr (pc := 49) (as := [aI v4]) (rest := [aL 14, aL (((Int32.toInt64 (gI σ 1 i8 5)) * 174960000000) + 21870000000), aL v2]) (fun l => c_0_digit l true v4 σ) md_X0_digit tk_787 tk_786 dX0_priceWithout_49 rfl ⟨by decide, by decide, by decide, by decide⟩ ⟨fun _ => rfl, fun _ => Or.inl rfl⟩ rfl (Nat.le_of_ble_eq_true rfl) (fun r9 => ?_)
            show X E _ _ _ _ 0 0 _ _ _ [aL r9, aL 14, aL (((Int32.toInt64 (gI σ 1 i8 5)) * 174960000000) + 21870000000), aL v2] _
            refine x_lmul (pc := 52) dX0_priceWithout_52 ?_
            refine x_ladd (pc := 53) dX0_priceWithout_53 ?_
            refine x_ladd (pc := 54) dX0_priceWithout_54 ?_
            refine x_nameL (fun l10 => ?_)
            refine x_lstore_n (pc := 55) (als' := [(2, aL l10), (0, aR 0 (some 0)), (1, aI h1), (4, aI v4)]) 2 dX0_priceWithout_55 rfl (by decide) rfl ?_
            exact x_sub [1, 2, 0, 3] rfl (hj3 l10)
set_option maxRecDepth 20000 in
theorem x0_priceWithout (E : zEn)  (v1 : Int32) (σ : zSt) : X E cX0_priceWithout m0_priceWithout true (zQr E true eL r0_priceWithout σ) 0 0 σ [(0, aR 0 (some 0)), (1, aI v1)] 0 [] (f0_priceWithout v1 σ) := by
  unfold f0_priceWithout
  refine x_lconst (pc := 0) 0 dX0_priceWithout_0 rfl ?_
  refine x_lstore_n (pc := 1) (als' := [(2, aL 0), (0, aR 0 (some 0)), (1, aI v1)]) 2 dX0_priceWithout_1 rfl (by decide) rfl ?_
  refine x_iconst (pc := 2) 0 dX0_priceWithout_2 rfl ?_
  refine x_istore (pc := 3) (als' := [(4, aI 0), (2, aL 0), (0, aR 0 (some 0)), (1, aI v1)]) 4 dX0_priceWithout_3 (by decide) rfl ?_
  refine x_sub [2, 3, 1, 0] rfl (xl0_priceWithout_5 E v1 σ zfuel 0 0)
theorem c_0_priceWithout (l : Launch)  (v1 : Int32) (σ : zSt) : zMet l yX0_priceWithout cX0_priceWithout 5 (some .long) r0_priceWithout true eL [aR 0 (some 0), aI v1] σ (zro (f0_priceWithout v1 σ) σ) :=
  zMet_ofR [(0, aR 0 (some 0)), (1, aI v1)] (by decide +kernel) (fun h => by cases h) (Nat.le_of_ble_eq_true rfl) rfl fun E _ => x0_priceWithout E  v1 σ
abbrev r0_readDays : Room := { frames := 1, cells := 0, slots := 0, locals := 23 }
abbrev m0_readDays : zMu := (RX0, 6, none, r0_readDays, false)
set_option maxRecDepth 20000 in
theorem xl0_readDays_3 (E : zEn)   (h1 : Int64) (h3 : Int32) {K63 : zSt → Option (Unit × zSt)} (hK63 : ∀ (σ : zSt), X E cX0_readDays m0_readDays true (zQw E true eV r0_readDays) 0 0 σ [(0, aR 0 (some 0))] 63 [] (K63 σ)) : ∀ (n : Nat) (v4 : Int32) (σ : zSt), X E cX0_readDays m0_readDays true (zQw E true eV r0_readDays) 0 0 σ [(0, aR 0 (some 0)), (1, aL h1), (3, aI h3), (4, aI v4)] 3 [] (f0_readDays_L3 h1 h3 K63 n v4 σ) := by
  intro n
  induction n with
  | zero => intros; exact x_none
  | succ n ih =>
    intro v4 σ
    rw [f0_readDays_L3]
    refine x_iload (pc := 3) 4 dX0_readDays_3 rfl ?_
    refine x_aload_n (pc := 5) 0 dX0_readDays_5 rfl rfl ?_
    refine x_getI (pc := 6) fd_0_2 tk_124 dX0_readDays_6 ?_
    refine x_icmp_ge (pc := 9) 63 dX0_readDays_9 (by decide) (fun _ => ?_) (fun _ => ?_)
    ·
      exact x_sub [0] rfl (hK63 σ)
    ·
      refine x_lload_n (pc := 12) 1 dX0_readDays_12 rfl rfl ?_
      refine x_iload (pc := 13) 4 dX0_readDays_13 rfl ?_
      refine x_callSr (pc := 15) (as := [aI v4]) (rest := [aL h1]) (fun l => c_0_digit l true v4 σ) md_X0_digit tk_787 tk_786 dX0_readDays_15 rfl ⟨by decide, by decide, by decide, by decide⟩ ⟨fun _ => rfl, fun _ => Or.inl rfl⟩ rfl (Nat.le_of_ble_eq_true rfl) (fun r1 => ?_)
      show X E _ _ _ _ 0 0 _ _ _ [aL r1, aL h1] _
      refine x_ldiv (pc := 18) dX0_readDays_18 ?_
      refine x_ldc2 (pc := 19) (v := 15) dX0_readDays_19 tk_789 ?_
      refine x_lremC (pc := 22) dX0_readDays_22 (by decide) ?_
      refine x_l2i (pc := 23) dX0_readDays_23 ?_
      refine x_nameI (fun x2 => ?_)
      refine x_istore (pc := 24) (als' := [(5, aI x2), (0, aR 0 (some 0)), (1, aL h1), (3, aI h3), (4, aI v4)]) 5 dX0_readDays_24 (by decide) rfl ?_
      refine x_aload_n (pc := 26) 0 dX0_readDays_26 rfl rfl ?_
      refine x_getF (pc := 27) (j := 0) fd_0_3 rfl rfl tk_126 dX0_readDays_27 ?_
      refine x_iload (pc := 30) 4 dX0_readDays_30 rfl ?_
      refine x_iload (pc := 32) 5 dX0_readDays_32 rfl ?_
      refine x_bipush (pc := 34) 14 dX0_readDays_34 rfl ?_
      refine x_mg (c := x2 = 14) (a := (-4)) (b := (h3 + x2)) 48 [aI v4, aR 103 (some 0)] ?_ (fun hm3 => ?_)
      ·
        refine x_iast (pc := 48) ar_103 dX0_readDays_48 (fun m7 => ?_)
        refine x_nameS (fun s8 => ?_)
        refine x_aload_n (pc := 49) 0 dX0_readDays_49 rfl rfl ?_
        refine x_getF (pc := 50) (j := 0) fd_0_1 rfl rfl tk_123 dX0_readDays_50 ?_
        refine x_iload (pc := 53) 4 dX0_readDays_53 rfl ?_
        refine x_null (pc := 55) 1 dX0_readDays_55 ?_
        refine x_aast (pc := 56) 1 ar_101 (by decide) rfl dX0_readDays_56 (fun m9 => ?_)
        refine x_nameS (fun s10 => ?_)
        refine x_iinc (pc := 57) (als' := [(4, aI (v4 + 1)), (5, aI x2), (0, aR 0 (some 0)), (1, aL h1), (3, aI h3)]) 4 4 (c := 1) dX0_readDays_57 rfl rfl (by decide) rfl ?_
        refine x_nameV (g := fun y12 => [(4, aI y12), (5, aI x2), (0, aR 0 (some 0)), (1, aL h1), (3, aI h3)]) (fun x11 => ?_) rfl
        refine x_goto (pc := 60) 3 dX0_readDays_60 (by decide) ?_
        exact x_sub [2, 3, 4, 0] rfl (ih x11 s10)
      ·
        refine x_same (c := x2 = 14) ?_
        refine x_icmp_ne (pc := 36) 44 dX0_readDays_36 (by decide) (fun hc4 => ?_) (fun hc4 => ?_)
        ·
          have hm6 := x_topF hc4 hm3
          refine x_iload_n (pc := 44) 3 dX0_readDays_44 rfl rfl ?_
          refine x_iload (pc := 45) 5 dX0_readDays_45 rfl ?_
          refine x_iadd (pc := 47) dX0_readDays_47 ?_
          exact hm6
        ·
          have hm5 := x_topT hc4 hm3
          refine x_bipush (pc := 39) (-4) dX0_readDays_39 rfl ?_
          refine x_goto (pc := 41) 48 dX0_readDays_41 (by decide) ?_
          exact hm5
set_option maxRecDepth 20000 in
theorem x0_readDays (E : zEn)  (v1 : Int64) (v3 : Int32) (σ : zSt) : X E cX0_readDays m0_readDays true (zQw E true eV r0_readDays) 0 0 σ [(0, aR 0 (some 0)), (1, aL v1), (3, aI v3)] 0 [] (f0_readDays v1 v3 σ) := by
  unfold f0_readDays
  refine x_iconst (pc := 0) 0 dX0_readDays_0 rfl ?_
  refine x_istore (pc := 1) (als' := [(4, aI 0), (0, aR 0 (some 0)), (1, aL v1), (3, aI v3)]) 4 dX0_readDays_1 (by decide) rfl ?_
  refine x_sub [1, 2, 3, 0] rfl (xl0_readDays_3 E v1 v3 (fun s13 => ?_) zfuel 0 σ)
  ·
    refine x_aload_n (pc := 63) 0 dX0_readDays_63 rfl rfl ?_
    refine x_aload_n (pc := 64) 0 dX0_readDays_64 rfl rfl ?_
    refine x_getI (pc := 65) fd_0_2 tk_124 dX0_readDays_65 ?_
    refine x_putI (pc := 68) fd_0_4 pt_0_4 tk_128 dX0_readDays_68 (Or.inl rfl) ?_
    refine x_nameS (fun s14 => ?_)
    refine x_aload_n (pc := 71) 0 dX0_readDays_71 rfl rfl ?_
    refine x_iconst (pc := 72) 0 dX0_readDays_72 rfl ?_
    refine x_putI (pc := 73) fd_0_2 pt_0_2 tk_124 dX0_readDays_73 (Or.inl rfl) ?_
    refine x_nameS (fun s15 => ?_)
    exact x_vret (rm := r0_readDays) rfl rfl dX0_readDays_76
theorem c_0_readDays (l : Launch)  (v1 : Int64) (v3 : Int32) (σ : zSt) : zMet l yX0_readDays cX0_readDays 6 none r0_readDays true eV [aR 0 (some 0), aL v1, aI v3] σ (f0_readDays v1 v3 σ) :=
  zMet_of [(0, aR 0 (some 0)), (1, aL v1), (3, aI v3)] (by decide +kernel) (fun h => by cases h) (Nat.le_of_ble_eq_true rfl) rfl fun E _ => x0_readDays E  v1 v3 σ
abbrev r0_settle : Room := { frames := 2, cells := 0, slots := 0, locals := 52 }
abbrev m0_settle : zMu := (RX0, 7, (some .int), r0_settle, false)
set_option maxRecDepth 20000 in
theorem xl0_settle_10 (E : zEn)   (h1 : Int32) (h2 : Int32) (h3 : Int32) {K54 : zSt → Option (Int32 × zSt)} (hK54 : ∀ (σ : zSt), X E cX0_settle m0_settle true (zQw E true eI r0_settle) 0 0 σ [(0, aR 0 (some 0)), (1, aI h1), (2, aI h2), (3, aI h3)] 54 [] (K54 σ)) : ∀ (n : Nat) (v4 : Int32) (σ : zSt), X E cX0_settle m0_settle true (zQw E true eI r0_settle) 0 0 σ [(0, aR 0 (some 0)), (1, aI h1), (2, aI h2), (3, aI h3), (4, aI v4)] 10 [] (f0_settle_L10 h1 h2 h3 K54 n v4 σ) := by
  intro n
  induction n with
  | zero => intros; exact x_none
  | succ n ih =>
    intro v4 σ
    rw [f0_settle_L10]
    refine x_iload (pc := 10) 4 dX0_settle_10 rfl ?_
    refine x_iload_n (pc := 12) 3 dX0_settle_12 rfl rfl ?_
    refine x_icmp_ge (pc := 13) 54 dX0_settle_13 (by decide) (fun _ => ?_) (fun _ => ?_)
    ·
      exact x_sub [0, 1, 2, 3] rfl (hK54 σ)
    ·
      refine x_aload_n (pc := 16) 0 dX0_settle_16 rfl rfl ?_
      refine x_getF (pc := 17) (j := 0) fd_0_7 rfl rfl tk_132 dX0_settle_17 ?_
      refine x_iload (pc := 20) 4 dX0_settle_20 rfl ?_
      refine x_aload_n (pc := 22) 0 dX0_settle_22 rfl rfl ?_
      refine x_iload (pc := 23) 4 dX0_settle_23 rfl ?_
      refine x_callVr (pc := 25) (as := [aI v4]) (rest := [aI v4, aR 107 (some 0)]) (fun l => c_0_areEnough l v4 σ) md_X0_areEnough ⟨_, _, rfl, by decide⟩ tk_772 tp_24 tk_770 dX0_settle_25 rfl ⟨by decide, by decide, by decide, by decide⟩ ⟨fun _ => rfl, fun _ => Or.inl rfl⟩ rfl (Nat.le_of_ble_eq_true rfl) (fun r2 => ?_)
      show X E _ _ _ _ 0 0 _ _ _ [aI r2, aI v4, aR 107 (some 0)] _
      refine x_zast (pc := 28) ar_107 dX0_settle_28 (fun m3 => ?_)
      refine x_nameS (fun s4 => ?_)
      refine x_aload_n (pc := 29) 0 dX0_settle_29 rfl rfl ?_
      refine x_getF (pc := 30) (j := 0) fd_0_5 rfl rfl tk_130 dX0_settle_30 ?_
      refine x_iload (pc := 33) 4 dX0_settle_33 rfl ?_
      refine x_iload (pc := 35) 4 dX0_settle_35 rfl ?_
      refine x_join (P := fun (j6 : Int64 → Option (Int32 × zSt)) => ∀ (a5 : Int64), X E cX0_settle m0_settle true (zQw E true eI r0_settle) 0 0 s4 [(0, aR 0 (some 0)), (1, aI h1), (2, aI h2), (3, aI h3), (4, aI v4)] 47 [aL a5, aI v4, aR 105 (some 0)] (j6 a5)) ?_ ?_
      · intro a5
        refine x_last (pc := 47) ar_105 dX0_settle_47 (fun m8 => ?_)
        refine x_nameS (fun s9 => ?_)
        refine x_iinc (pc := 48) (als' := [(4, aI (v4 + 1)), (0, aR 0 (some 0)), (1, aI h1), (2, aI h2), (3, aI h3)]) 4 4 (c := 1) dX0_settle_48 rfl rfl (by decide) rfl ?_
        refine x_nameV (g := fun y11 => [(4, aI y11), (0, aR 0 (some 0)), (1, aI h1), (2, aI h2), (3, aI h3)]) (fun x10 => ?_) rfl
        refine x_goto (pc := 51) 10 dX0_settle_51 (by decide) ?_
        exact x_sub [1, 2, 3, 4, 0] rfl (ih x10 s9)
      · intro j6 hj7
        refine x_if_ne (pc := 37) 44 dX0_settle_37 (by decide) (fun _ => ?_) (fun _ => ?_)
        ·
          refine x_ldc2 (pc := 44) (v := 174960000000000) dX0_settle_44 tk_775 ?_
          exact hj7 174960000000000
        ·
          refine x_lconst (pc := 40) 0 dX0_settle_40 rfl ?_
          refine x_goto (pc := 41) 47 dX0_settle_41 (by decide) ?_
          exact hj7 0
set_option maxRecDepth 20000 in
theorem xl0_settle_57 (E : zEn)   (h1 : Int32) (h2 : Int32) (h3 : Int32) {K82 : zSt → Option (Int32 × zSt)} (hK82 : ∀ (σ : zSt), X E cX0_settle m0_settle true (zQw E true eI r0_settle) 0 0 σ [(0, aR 0 (some 0)), (1, aI h1), (3, aI h3)] 82 [] (K82 σ)) : ∀ (n : Nat) (v4 : Int32) (σ : zSt), X E cX0_settle m0_settle true (zQw E true eI r0_settle) 0 0 σ [(0, aR 0 (some 0)), (1, aI h1), (2, aI h2), (3, aI h3), (4, aI v4)] 57 [] (f0_settle_L57 h1 h2 h3 K82 n v4 σ) := by
  intro n
  induction n with
  | zero => intros; exact x_none
  | succ n ih =>
    intro v4 σ
    rw [f0_settle_L57]
    refine x_iload (pc := 57) 4 dX0_settle_57 rfl ?_
    refine x_iload_n (pc := 59) 2 dX0_settle_59 rfl rfl ?_
    refine x_icmp_ge (pc := 60) 82 dX0_settle_60 (by decide) (fun _ => ?_) (fun _ => ?_)
    ·
      exact x_sub [0, 1, 3] rfl (hK82 σ)
    ·
      refine x_aload_n (pc := 63) 0 dX0_settle_63 rfl rfl ?_
      refine x_iload_n (pc := 64) 3 dX0_settle_64 rfl rfl ?_
      refine x_iload_n (pc := 65) 1 dX0_settle_65 rfl rfl ?_
      refine x_iload (pc := 66) 4 dX0_settle_66 rfl ?_
      refine x_callV (pc := 68) (as := [aI h3, aI h1, aI v4]) (rest := []) (fun l => c_0_priceDay l h3 h1 v4 σ) md_X0_priceDay ⟨_, _, rfl, by decide⟩ tk_778 tp_25 tk_776 dX0_settle_68 rfl ⟨by decide, by decide, by decide, by decide⟩ ⟨fun _ => rfl, fun _ => Or.inl rfl⟩ rfl (Nat.le_of_ble_eq_true rfl) (fun _ s14 => ?_)
      show X E _ _ _ _ 0 0 _ _ _ [] _
      refine x_aload_n (pc := 71) 0 dX0_settle_71 rfl rfl ?_
      refine x_iload_n (pc := 72) 3 dX0_settle_72 rfl rfl ?_
      refine x_callV (pc := 73) (as := [aI h3]) (rest := []) (fun l => c_0_addDay l h3 s14) md_X0_addDay ⟨_, _, rfl, by decide⟩ tk_799 tp_27 tk_797 dX0_settle_73 rfl ⟨by decide, by decide, by decide, by decide⟩ ⟨fun _ => rfl, fun _ => Or.inl rfl⟩ rfl (Nat.le_of_ble_eq_true rfl) (fun _ s16 => ?_)
      show X E _ _ _ _ 0 0 _ _ _ [] _
      refine x_iinc (pc := 76) (als' := [(4, aI (v4 + 1)), (0, aR 0 (some 0)), (1, aI h1), (2, aI h2), (3, aI h3)]) 4 4 (c := 1) dX0_settle_76 rfl rfl (by decide) rfl ?_
      refine x_nameV (g := fun y18 => [(4, aI y18), (0, aR 0 (some 0)), (1, aI h1), (2, aI h2), (3, aI h3)]) (fun x17 => ?_) rfl
      refine x_goto (pc := 79) 57 dX0_settle_79 (by decide) ?_
      exact x_sub [1, 2, 3, 4, 0] rfl (ih x17 s16)
set_option maxRecDepth 20000 in
theorem xl0_settle_90 (E : zEn)   (h1 : Int32) (h3 : Int32) (σ : zSt) {K127 : Int64 → Option (Int32 × zSt)} (hK127 : ∀ (v4 : Int64), X E cX0_settle m0_settle true (zQw E true eI r0_settle) 0 0 σ [(0, aR 0 (some 0)), (1, aI h1), (4, aL v4)] 127 [] (K127 v4)) : ∀ (n : Nat) (v4 : Int64) (v6 : Int32), X E cX0_settle m0_settle true (zQw E true eI r0_settle) 0 0 σ [(0, aR 0 (some 0)), (1, aI h1), (3, aI h3), (4, aL v4), (6, aI v6)] 90 [] (f0_settle_L90 h1 h3 σ K127 n v4 v6) := by
  intro n
  induction n with
  | zero => intros; exact x_none
  | succ n ih =>
    intro v4 v6
    rw [f0_settle_L90]
    refine x_iload (pc := 90) 6 dX0_settle_90 rfl ?_
    refine x_iload_n (pc := 92) 3 dX0_settle_92 rfl rfl ?_
    refine x_icmp_ge (pc := 93) 127 dX0_settle_93 (by decide) (fun _ => ?_) (fun _ => ?_)
    ·
      exact x_sub [0, 1, 3] rfl (hK127 v4)
    ·
      refine x_lload (pc := 96) 4 dX0_settle_96 rfl ?_
      refine x_aload_n (pc := 98) 0 dX0_settle_98 rfl rfl ?_
      refine x_getF (pc := 99) (j := 0) fd_0_5 rfl rfl tk_130 dX0_settle_99 ?_
      refine x_iload (pc := 102) 6 dX0_settle_102 rfl ?_
      refine x_lald (pc := 104) ar_105 dX0_settle_104 (fun m20 => ?_)
      refine x_aload_n (pc := 105) 0 dX0_settle_105 rfl rfl ?_
      refine x_iload_n (pc := 106) 3 dX0_settle_106 rfl rfl ?_
      refine x_iconst (pc := 107) 1 dX0_settle_107 rfl ?_
      refine x_isub (pc := 108) dX0_settle_108 ?_
      refine x_iload (pc := 109) 6 dX0_settle_109 rfl ?_
      refine x_isub (pc := 111) dX0_settle_111 ?_
      refine x_callVr (pc := 112) (as := [aI ((h3 - 1) - v6)]) (rest := [aL (gL σ 105 0 m20), aL v4]) (fun l => c_0_priceWithout l ((h3 - 1) - v6) σ) md_X0_priceWithout ⟨_, _, rfl, by decide⟩ tk_803 tp_28 tk_801 dX0_settle_112 rfl ⟨by decide, by decide, by decide, by decide⟩ ⟨fun _ => rfl, fun _ => Or.inl rfl⟩ rfl (Nat.le_of_ble_eq_true rfl) (fun r21 => ?_)
      show X E _ _ _ _ 0 0 _ _ _ [aL r21, aL (gL σ 105 0 m20), aL v4] _
      refine x_ladd (pc := 115) dX0_settle_115 ?_
      refine x_zminl (pc := 116) (rest := []) tk_794 tk_795 tk_14 tk_796 dX0_settle_116 ⟨by decide, by decide, by decide, by decide⟩ (Nat.le_of_ble_eq_true rfl) ?_
      refine x_nameL (fun l22 => ?_)
      refine x_lstore (pc := 119) (als' := [(4, aL l22), (0, aR 0 (some 0)), (1, aI h1), (3, aI h3), (6, aI v6)]) 4 dX0_settle_119 (by decide) rfl ?_
      refine x_iinc (pc := 121) (als' := [(6, aI (v6 + 1)), (4, aL l22), (0, aR 0 (some 0)), (1, aI h1), (3, aI h3)]) 6 4 (c := 1) dX0_settle_121 rfl rfl (by decide) rfl ?_
      refine x_nameV (g := fun y24 => [(6, aI y24), (4, aL l22), (0, aR 0 (some 0)), (1, aI h1), (3, aI h3)]) (fun x23 => ?_) rfl
      refine x_goto (pc := 124) 90 dX0_settle_124 (by decide) ?_
      exact x_sub [2, 3, 4, 1, 0] rfl (ih l22 x23)
set_option maxRecDepth 20000 in
theorem x0_settle (E : zEn)  (v1 : Int32) (v2 : Int32) (σ : zSt) : X E cX0_settle m0_settle true (zQw E true eI r0_settle) 0 0 σ [(0, aR 0 (some 0)), (1, aI v1), (2, aI v2)] 0 [] (f0_settle v1 v2 σ) := by
  unfold f0_settle
  refine x_iconst (pc := 0) 1 dX0_settle_0 rfl ?_
  refine x_aload_n (pc := 1) 0 dX0_settle_1 rfl rfl ?_
  refine x_getI (pc := 2) fd_0_2 tk_124 dX0_settle_2 ?_
  refine x_ishl (pc := 5) dX0_settle_5 ?_
  refine x_nameI (fun x1 => ?_)
  refine x_istore_n (pc := 6) (als' := [(3, aI x1), (0, aR 0 (some 0)), (1, aI v1), (2, aI v2)]) 3 dX0_settle_6 rfl (by decide) rfl ?_
  refine x_iconst (pc := 7) 0 dX0_settle_7 rfl ?_
  refine x_istore (pc := 8) (als' := [(4, aI 0), (3, aI x1), (0, aR 0 (some 0)), (1, aI v1), (2, aI v2)]) 4 dX0_settle_8 (by decide) rfl ?_
  refine x_sub [2, 3, 4, 1, 0] rfl (xl0_settle_10 E v1 v2 x1 (fun s12 => ?_) zfuel 0 σ)
  ·
    refine x_iconst (pc := 54) 0 dX0_settle_54 rfl ?_
    refine x_istore (pc := 55) (als' := [(4, aI 0), (0, aR 0 (some 0)), (1, aI v1), (2, aI v2), (3, aI x1)]) 4 dX0_settle_55 (by decide) rfl ?_
    refine x_sub [1, 2, 3, 4, 0] rfl (xl0_settle_57 E v1 v2 x1 (fun s19 => ?_) zfuel 0 s12)
    ·
      refine x_ldc2 (pc := 82) (v := 174960000000000) dX0_settle_82 tk_775 ?_
      refine x_lstore (pc := 85) (als' := [(4, aL 174960000000000), (0, aR 0 (some 0)), (1, aI v1), (3, aI x1)]) 4 dX0_settle_85 (by decide) rfl ?_
      refine x_iconst (pc := 87) 0 dX0_settle_87 rfl ?_
      refine x_istore (pc := 88) (als' := [(6, aI 0), (4, aL 174960000000000), (0, aR 0 (some 0)), (1, aI v1), (3, aI x1)]) 6 dX0_settle_88 (by decide) rfl ?_
      refine x_sub [2, 3, 4, 1, 0] rfl (xl0_settle_90 E v1 x1 s19 (fun a25 => ?_) zfuel 174960000000000 0)
      ·
        refine x_aload_n (pc := 127) 0 dX0_settle_127 rfl rfl ?_
        refine x_lload (pc := 128) 4 dX0_settle_128 rfl ?_
        refine x_iload_n (pc := 130) 1 dX0_settle_130 rfl rfl ?_
        refine x_callV (pc := 131) (as := [aL a25, aI v1]) (rest := []) (fun l => c_0_readDays l a25 v1 s19) md_X0_readDays ⟨_, _, rfl, by decide⟩ tk_809 tp_29 tk_807 dX0_settle_131 rfl ⟨by decide, by decide, by decide, by decide⟩ ⟨fun _ => rfl, fun _ => Or.inl rfl⟩ rfl (Nat.le_of_ble_eq_true rfl) (fun _ s27 => ?_)
        show X E _ _ _ _ 0 0 _ _ _ [] _
        refine x_lload (pc := 134) 4 dX0_settle_134 rfl ?_
        refine x_ldc2 (pc := 136) (v := 174960000000) dX0_settle_136 tk_784 ?_
        refine x_ldivC (pc := 139) dX0_settle_139 (by decide) ?_
        refine x_l2i (pc := 140) dX0_settle_140 ?_
        exact x_iret (rm := r0_settle) rfl rfl dX0_settle_141
theorem c_0_settle (l : Launch)  (v1 : Int32) (v2 : Int32) (σ : zSt) : zMet l yX0_settle cX0_settle 7 (some .int) r0_settle true eI [aR 0 (some 0), aI v1, aI v2] σ (f0_settle v1 v2 σ) :=
  zMet_of [(0, aR 0 (some 0)), (1, aI v1), (2, aI v2)] (by decide +kernel) (fun h => by cases h) (Nat.le_of_ble_eq_true rfl) rfl fun E _ => x0_settle E  v1 v2 σ
abbrev r4_init : Room := { frames := 1, cells := 3, slots := 90, locals := 12 }
abbrev m4_init : zMu := (RX4, 1, none, r4_init, true)
set_option maxRecDepth 20000 in
theorem x4_init (E : zEn)  (h : Nat) (σ : zSt) : X E cX4_init m4_init false (zQw E false eV r4_init) 0 0 σ [(0, aR 4 (some h))] 0 [] (f4_init h σ) := by
  unfold f4_init
  refine x_aload_n (pc := 0) 0 dX4_init_0 rfl rfl ?_
  refine x_objInit (pc := 1) tk_393 tk_28 tk_29 dX4_init_1 (by decide) ?_
  refine x_aload_n (pc := 4) 0 dX4_init_4 rfl rfl ?_
  refine x_bipush (pc := 5) 30 dX4_init_5 rfl ?_
  refine x_newaI (pc := 7) 500 (n := 30) ar_500 rfl (by decide) tk_52 dX4_init_7 rfl (by decide) ?_
  refine x_nameN (fun i1 => ?_)
  refine x_nameS (fun s2 => ?_)
  refine x_putR (pc := 9) fd_4_0 pt_4_0 (Or.inr ⟨_, rfl⟩) tk_394 dX4_init_9 (Or.inr ⟨rfl, rfl⟩) (Or.inl rfl) ?_
  refine x_nameS (fun s3 => ?_)
  refine x_aload_n (pc := 12) 0 dX4_init_12 rfl rfl ?_
  refine x_bipush (pc := 13) 30 dX4_init_13 rfl ?_
  refine x_newaI (pc := 15) 501 (n := 30) ar_501 rfl (by decide) tk_52 dX4_init_15 rfl (by decide) ?_
  refine x_nameN (fun i4 => ?_)
  refine x_nameS (fun s5 => ?_)
  refine x_putR (pc := 17) fd_4_1 pt_4_1 (Or.inr ⟨_, rfl⟩) tk_395 dX4_init_17 (Or.inr ⟨rfl, rfl⟩) (Or.inl rfl) ?_
  refine x_nameS (fun s6 => ?_)
  refine x_aload_n (pc := 20) 0 dX4_init_20 rfl rfl ?_
  refine x_bipush (pc := 21) 30 dX4_init_21 rfl ?_
  refine x_newaI (pc := 23) 502 (n := 30) ar_502 rfl (by decide) tk_52 dX4_init_23 rfl (by decide) ?_
  refine x_nameN (fun i7 => ?_)
  refine x_nameS (fun s8 => ?_)
  refine x_putR (pc := 25) fd_4_2 pt_4_2 (Or.inr ⟨_, rfl⟩) tk_396 dX4_init_25 (Or.inr ⟨rfl, rfl⟩) (Or.inl rfl) ?_
  refine x_nameS (fun s9 => ?_)
  exact x_vret (rm := r4_init) rfl rfl dX4_init_28
theorem c_4_init (l : Launch)  (h : Nat) (σ : zSt) : zMet l yX4_init cX4_init 1 none r4_init false eV [aR 4 (some h)] σ (f4_init h σ) :=
  zMet_of [(0, aR 4 (some h))] (by decide +kernel) (fun _ => rfl) (Nat.le_of_ble_eq_true rfl) rfl fun E _ => x4_init E  h σ
abbrev r7_has : Room := { frames := 0, cells := 0, slots := 0, locals := 0 }
abbrev m7_has : zMu := (RX7, 2, (some .boolean), r7_has, false)
set_option maxRecDepth 20000 in
theorem x7_has (E : zEn)  (q : Bool) (h : Nat) (v1 : Int32) (σ : zSt) : X E cX7_has m7_has q (zQr E q eI r7_has σ) 0 0 σ [(0, aR 7 (some h)), (1, aI v1)] 0 [] (f7_has h v1 σ) := by
  unfold f7_has
  refine x_aload_n (pc := 0) 0 dX7_has_0 rfl rfl ?_
  refine x_getI (pc := 1) fd_7_2 tk_368 dX7_has_1 ?_
  refine x_iload_n (pc := 4) 1 dX7_has_4 rfl rfl ?_
  refine x_iand (pc := 5) dX7_has_5 ?_
  refine x_if_eq (pc := 6) 13 dX7_has_6 (by decide) (fun _ => ?_) (fun _ => ?_)
  ·
    refine x_iconst (pc := 13) 0 dX7_has_13 rfl ?_
    exact x_zretC (rm := r7_has) rfl rfl (by decide) dX7_has_14
  ·
    refine x_iconst (pc := 9) 1 dX7_has_9 rfl ?_
    refine x_goto (pc := 10) 14 dX7_has_10 (by decide) ?_
    exact x_zretC (rm := r7_has) rfl rfl (by decide) dX7_has_14
theorem c_7_has (l : Launch)  (q : Bool) (h : Nat) (v1 : Int32) (σ : zSt) : zMet l yX7_has cX7_has 2 (some .boolean) r7_has q eI [aR 7 (some h), aI v1] σ (zro (f7_has h v1 σ) σ) :=
  zMet_ofR [(0, aR 7 (some h)), (1, aI v1)] (by decide +kernel) (fun h => by cases h) (Nat.le_of_ble_eq_true rfl) rfl fun E _ => x7_has E  q h v1 σ
abbrev r3_init : Room := { frames := 1, cells := 2, slots := 24, locals := 12 }
abbrev m3_init : zMu := (RX3, 1, none, r3_init, true)
set_option maxRecDepth 20000 in
theorem x3_init (E : zEn)  (h : Nat) (σ : zSt) : X E cX3_init m3_init false (zQw E false eV r3_init) 0 0 σ [(0, aR 3 (some h))] 0 [] (f3_init h σ) := by
  unfold f3_init
  refine x_aload_n (pc := 0) 0 dX3_init_0 rfl rfl ?_
  refine x_objInit (pc := 1) tk_416 tk_28 tk_29 dX3_init_1 (by decide) ?_
  refine x_aload_n (pc := 4) 0 dX3_init_4 rfl rfl ?_
  refine x_bipush (pc := 5) 12 dX3_init_5 rfl ?_
  refine x_newaI (pc := 7) 400 (n := 12) ar_400 rfl (by decide) tk_52 dX3_init_7 rfl (by decide) ?_
  refine x_nameN (fun i1 => ?_)
  refine x_nameS (fun s2 => ?_)
  refine x_putR (pc := 9) fd_3_0 pt_3_0 (Or.inr ⟨_, rfl⟩) tk_417 dX3_init_9 (Or.inr ⟨rfl, rfl⟩) (Or.inl rfl) ?_
  refine x_nameS (fun s3 => ?_)
  refine x_aload_n (pc := 12) 0 dX3_init_12 rfl rfl ?_
  refine x_bipush (pc := 13) 12 dX3_init_13 rfl ?_
  refine x_newaI (pc := 15) 401 (n := 12) ar_401 rfl (by decide) tk_52 dX3_init_15 rfl (by decide) ?_
  refine x_nameN (fun i4 => ?_)
  refine x_nameS (fun s5 => ?_)
  refine x_putR (pc := 17) fd_3_1 pt_3_1 (Or.inr ⟨_, rfl⟩) tk_418 dX3_init_17 (Or.inr ⟨rfl, rfl⟩) (Or.inl rfl) ?_
  refine x_nameS (fun s6 => ?_)
  exact x_vret (rm := r3_init) rfl rfl dX3_init_20
theorem c_3_init (l : Launch)  (h : Nat) (σ : zSt) : zMet l yX3_init cX3_init 1 none r3_init false eV [aR 3 (some h)] σ (f3_init h σ) :=
  zMet_of [(0, aR 3 (some h))] (by decide +kernel) (fun _ => rfl) (Nat.le_of_ble_eq_true rfl) rfl fun E _ => x3_init E  h σ
abbrev r1_init : Room := { frames := 2, cells := 7, slots := 121, locals := 32 }
abbrev m1_init : zMu := (RX1, 8, none, r1_init, true)
set_option maxRecDepth 20000 in
theorem x1_init (E : zEn)  (h : Nat) (v1 : Int32) (h2 : Nat) (v3 : Int32) (v4 : Int32) (h5 : Nat) (v6 : Int32) (v7 : Int32) (σ : zSt) : X E cX1_init m1_init false (zQw E false eV r1_init) 0 0 σ [(0, aR 1 (some h)), (1, aI v1), (2, aR 5 (some h2)), (3, aI v3), (4, aI v4), (5, aR 7 (some h5)), (6, aI v6), (7, aI v7)] 0 [] (f1_init h v1 h2 v3 v4 h5 v6 v7 σ) := by
  unfold f1_init
  refine x_aload_n (pc := 0) 0 dX1_init_0 rfl rfl ?_
  refine x_objInit (pc := 1) tk_388 tk_28 tk_29 dX1_init_1 (by decide) ?_
  refine x_aload_n (pc := 4) 0 dX1_init_4 rfl rfl ?_
  refine x_new (pc := 5) nw_4 tk_389 tk_340 tk_11 dX1_init_5 rfl (by decide) ?_
  refine x_nameN (fun i1 => ?_)
  refine x_nameS (fun s2 => ?_)
  refine x_dup (pc := 8) dX1_init_8 rfl ?_
  refine x_callIN (pc := 9) (as := []) (rest := [aR 4 (some i1), aR 1 (some h)]) (fun l => c_4_init l i1 s2) md_X4_init tk_391 rfl (host := RX11) (by decide +kernel) dX1_init_9 rfl ⟨by decide, by decide, by decide, by decide⟩ ⟨(fun h => nomatch h), (fun h => nomatch h)⟩ rfl (Nat.le_of_ble_eq_true rfl) (fun _ s4 => ?_)
  show X E _ _ _ _ 4 94 _ _ _ [aR 4 (some i1), aR 1 (some h)] _
  refine x_putR (pc := 12) fd_1_7 pt_1_7 (Or.inl ⟨_, rfl⟩) tk_445 dX1_init_12 (Or.inr ⟨rfl, rfl⟩) (Or.inl rfl) ?_
  refine x_nameS (fun s5 => ?_)
  refine x_aload_n (pc := 15) 0 dX1_init_15 rfl rfl ?_
  refine x_iconst (pc := 16) (-1) dX1_init_16 rfl ?_
  refine x_putI (pc := 17) fd_1_12 pt_1_12 tk_455 dX1_init_17 (Or.inl rfl) ?_
  refine x_nameS (fun s6 => ?_)
  refine x_aload_n (pc := 20) 0 dX1_init_20 rfl rfl ?_
  refine x_iconst (pc := 21) 0 dX1_init_21 rfl ?_
  refine x_putI (pc := 22) fd_1_13 pt_1_13 tk_457 dX1_init_22 (Or.inl rfl) ?_
  refine x_nameS (fun s7 => ?_)
  refine x_aload_n (pc := 25) 0 dX1_init_25 rfl rfl ?_
  refine x_iload_n (pc := 26) 1 dX1_init_26 rfl rfl ?_
  refine x_putI (pc := 27) fd_1_0 pt_1_0 tk_428 dX1_init_27 (Or.inr ⟨rfl, rfl⟩) ?_
  refine x_nameS (fun s8 => ?_)
  refine x_aload_n (pc := 30) 0 dX1_init_30 rfl rfl ?_
  refine x_aload_n (pc := 31) 2 dX1_init_31 rfl rfl ?_
  refine x_putR (pc := 32) fd_1_1 pt_1_1 (Or.inl ⟨_, rfl⟩) tk_430 dX1_init_32 (Or.inr ⟨rfl, rfl⟩) (Or.inl rfl) ?_
  refine x_nameS (fun s9 => ?_)
  refine x_aload_n (pc := 35) 0 dX1_init_35 rfl rfl ?_
  refine x_iload_n (pc := 36) 3 dX1_init_36 rfl rfl ?_
  refine x_putI (pc := 37) fd_1_2 pt_1_2 tk_433 dX1_init_37 (Or.inr ⟨rfl, rfl⟩) ?_
  refine x_nameS (fun s10 => ?_)
  refine x_aload_n (pc := 40) 0 dX1_init_40 rfl rfl ?_
  refine x_iload (pc := 41) 4 dX1_init_41 rfl ?_
  refine x_putI (pc := 43) fd_1_3 pt_1_3 tk_435 dX1_init_43 (Or.inr ⟨rfl, rfl⟩) ?_
  refine x_nameS (fun s11 => ?_)
  refine x_aload_n (pc := 46) 0 dX1_init_46 rfl rfl ?_
  refine x_aload (pc := 47) 5 dX1_init_47 rfl ?_
  refine x_putR (pc := 49) fd_1_4 pt_1_4 (Or.inl ⟨_, rfl⟩) tk_437 dX1_init_49 (Or.inr ⟨rfl, rfl⟩) (Or.inl rfl) ?_
  refine x_nameS (fun s12 => ?_)
  refine x_aload_n (pc := 52) 0 dX1_init_52 rfl rfl ?_
  refine x_iload (pc := 53) 6 dX1_init_53 rfl ?_
  refine x_putI (pc := 55) fd_1_5 pt_1_5 tk_440 dX1_init_55 (Or.inr ⟨rfl, rfl⟩) ?_
  refine x_nameS (fun s13 => ?_)
  refine x_aload_n (pc := 58) 0 dX1_init_58 rfl rfl ?_
  refine x_iload (pc := 59) 7 dX1_init_59 rfl ?_
  refine x_putI (pc := 61) fd_1_6 pt_1_6 tk_443 dX1_init_61 (Or.inr ⟨rfl, rfl⟩) ?_
  refine x_nameS (fun s14 => ?_)
  refine x_aload_n (pc := 64) 0 dX1_init_64 rfl rfl ?_
  refine x_aload (pc := 65) 5 dX1_init_65 rfl ?_
  refine x_iconst (pc := 67) 2 dX1_init_67 rfl ?_
  refine x_callVr (pc := 68) (as := [aI 2]) (rest := [aR 1 (some h)]) (fun l => c_7_has l false h5 2 s14) md_X7_has ⟨_, _, rfl, by decide⟩ tk_408 tk_409 tk_407 dX1_init_68 rfl ⟨by decide, by decide, by decide, by decide⟩ ⟨(fun h => nomatch h), (fun h => nomatch h)⟩ rfl (Nat.le_of_ble_eq_true rfl) (fun r15 => ?_)
  show X E _ _ _ _ 4 94 _ _ _ [aI r15, aR 1 (some h)] _
  refine x_join (P := fun (j18 : (Option Nat) → zSt → Option (Unit × zSt)) => ∀ (a16 : (Option Nat)) (s17 : zSt), X E cX1_init m1_init false (zQw E false eV r1_init) 7 121 s17 [] 85 [aR 3 a16, aR 1 (some h)] (j18 a16 s17)) ?_ ?_
  · intro a16 s17
    refine x_putR (pc := 85) fd_1_8 pt_1_8 (Or.inl ⟨_, rfl⟩) tk_447 dX1_init_85 (Or.inr ⟨rfl, rfl⟩) (Or.inl rfl) ?_
    refine x_nameS (fun s20 => ?_)
    exact x_vret (rm := r1_init) rfl rfl dX1_init_88
  · intro j18 hj19
    refine x_if_eq (pc := 71) 84 dX1_init_71 (by decide) (fun _ => ?_) (fun _ => ?_)
    ·
      refine x_null (pc := 84) 3 dX1_init_84 ?_
      refine x_widen (kc' := 7) (ks' := 121) (by decide) (by decide) ?_
      exact x_sub [] rfl (hj19 none s14)
    ·
      refine x_new (pc := 74) nw_3 tk_411 tk_412 tk_12 dX1_init_74 rfl (by decide) ?_
      refine x_nameN (fun i21 => ?_)
      refine x_nameS (fun s22 => ?_)
      refine x_dup (pc := 77) dX1_init_77 rfl ?_
      refine x_callIN (pc := 78) (as := []) (rest := [aR 3 (some i21), aR 1 (some h)]) (fun l => c_3_init l i21 s22) md_X3_init tk_414 rfl (host := RX11) (by decide +kernel) dX1_init_78 rfl ⟨by decide, by decide, by decide, by decide⟩ ⟨(fun h => nomatch h), (fun h => nomatch h)⟩ rfl (Nat.le_of_ble_eq_true rfl) (fun _ s24 => ?_)
      show X E _ _ _ _ 7 121 _ _ _ [aR 3 (some i21), aR 1 (some h)] _
      refine x_goto (pc := 81) 85 dX1_init_81 (by decide) ?_
      exact x_sub [] rfl (hj19 (some i21) s24)
theorem c_1_init (l : Launch)  (h : Nat) (v1 : Int32) (h2 : Nat) (v3 : Int32) (v4 : Int32) (h5 : Nat) (v6 : Int32) (v7 : Int32) (σ : zSt) : zMet l yX1_init cX1_init 8 none r1_init false eV [aR 1 (some h), aI v1, aR 5 (some h2), aI v3, aI v4, aR 7 (some h5), aI v6, aI v7] σ (f1_init h v1 h2 v3 v4 h5 v6 v7 σ) :=
  zMet_of [(0, aR 1 (some h)), (1, aI v1), (2, aR 5 (some h2)), (3, aI v3), (4, aI v4), (5, aR 7 (some h5)), (6, aI v6), (7, aI v7)] (by decide +kernel) (fun _ => rfl) (Nat.le_of_ble_eq_true rfl) rfl fun E _ => x1_init E  h v1 h2 v3 v4 h5 v6 v7 σ
abbrev r5_hasKey : Room := { frames := 0, cells := 0, slots := 0, locals := 0 }
abbrev m5_hasKey : zMu := (RX5, 1, (some .boolean), r5_hasKey, false)
set_option maxRecDepth 20000 in
theorem x5_hasKey (E : zEn)  (q : Bool) (h : Nat) (σ : zSt) : X E cX5_hasKey m5_hasKey q (zQr E q eI r5_hasKey σ) 0 0 σ [(0, aR 5 (some h))] 0 [] (f5_hasKey h σ) := by
  unfold f5_hasKey
  refine x_aload_n (pc := 0) 0 dX5_hasKey_0 rfl rfl ?_
  refine x_getI (pc := 1) fd_5_4 tk_235 dX5_hasKey_1 ?_
  refine x_iconst (pc := 4) (-1) dX5_hasKey_4 rfl ?_
  refine x_icmp_eq (pc := 5) 12 dX5_hasKey_5 (by decide) (fun _ => ?_) (fun _ => ?_)
  ·
    refine x_iconst (pc := 12) 0 dX5_hasKey_12 rfl ?_
    exact x_zretC (rm := r5_hasKey) rfl rfl (by decide) dX5_hasKey_13
  ·
    refine x_iconst (pc := 8) 1 dX5_hasKey_8 rfl ?_
    refine x_goto (pc := 9) 13 dX5_hasKey_9 (by decide) ?_
    exact x_zretC (rm := r5_hasKey) rfl rfl (by decide) dX5_hasKey_13
theorem c_5_hasKey (l : Launch)  (q : Bool) (h : Nat) (σ : zSt) : zMet l yX5_hasKey cX5_hasKey 1 (some .boolean) r5_hasKey q eI [aR 5 (some h)] σ (zro (f5_hasKey h σ) σ) :=
  zMet_ofR [(0, aR 5 (some h))] (by decide +kernel) (fun h => by cases h) (Nat.le_of_ble_eq_true rfl) rfl fun E _ => x5_hasKey E  q h σ
abbrev r4_add : Room := { frames := 0, cells := 0, slots := 0, locals := 0 }
abbrev m4_add : zMu := (RX4, 4, none, r4_add, false)
set_option maxRecDepth 20000 in
theorem x4_add (E : zEn)  (h : Nat) (v1 : Int32) (v2 : Int32) (v3 : Int32) (σ : zSt) : X E cX4_add m4_add true (zQw E true eV r4_add) 0 0 σ [(0, aR 4 (some h)), (1, aI v1), (2, aI v2), (3, aI v3)] 0 [] (f4_add h v1 v2 v3 σ) := by
  unfold f4_add
  refine x_aload_n (pc := 0) 0 dX4_add_0 rfl rfl ?_
  refine x_getI (pc := 1) fd_4_3 tk_397 dX4_add_1 ?_
  refine x_bipush (pc := 4) 30 dX4_add_4 rfl ?_
  refine x_icmp_ge (pc := 6) 49 dX4_add_6 (by decide) (fun _ => ?_) (fun _ => ?_)
  ·
    exact x_vret (rm := r4_add) rfl rfl dX4_add_49
  ·
    refine x_aload_n (pc := 9) 0 dX4_add_9 rfl rfl ?_
    refine x_getF (pc := 10) (j := h) fd_4_1 rfl rfl tk_395 dX4_add_10 ?_
    refine x_aload_n (pc := 13) 0 dX4_add_13 rfl rfl ?_
    refine x_getI (pc := 14) fd_4_3 tk_397 dX4_add_14 ?_
    refine x_iload_n (pc := 17) 1 dX4_add_17 rfl rfl ?_
    refine x_iast (pc := 18) ar_501 dX4_add_18 (fun m1 => ?_)
    refine x_nameS (fun s2 => ?_)
    refine x_aload_n (pc := 19) 0 dX4_add_19 rfl rfl ?_
    refine x_getF (pc := 20) (j := h) fd_4_0 rfl rfl tk_394 dX4_add_20 ?_
    refine x_aload_n (pc := 23) 0 dX4_add_23 rfl rfl ?_
    refine x_getI (pc := 24) fd_4_3 tk_397 dX4_add_24 ?_
    refine x_iload_n (pc := 27) 2 dX4_add_27 rfl rfl ?_
    refine x_iast (pc := 28) ar_500 dX4_add_28 (fun m3 => ?_)
    refine x_nameS (fun s4 => ?_)
    refine x_aload_n (pc := 29) 0 dX4_add_29 rfl rfl ?_
    refine x_getF (pc := 30) (j := h) fd_4_2 rfl rfl tk_396 dX4_add_30 ?_
    refine x_aload_n (pc := 33) 0 dX4_add_33 rfl rfl ?_
    refine x_getI (pc := 34) fd_4_3 tk_397 dX4_add_34 ?_
    refine x_iload_n (pc := 37) 3 dX4_add_37 rfl rfl ?_
    refine x_iast (pc := 38) ar_502 dX4_add_38 (fun m5 => ?_)
    refine x_nameS (fun s6 => ?_)
    refine x_aload_n (pc := 39) 0 dX4_add_39 rfl rfl ?_
    refine x_dup (pc := 40) dX4_add_40 rfl ?_
    refine x_getI (pc := 41) fd_4_3 tk_397 dX4_add_41 ?_
    refine x_iconst (pc := 44) 1 dX4_add_44 rfl ?_
    refine x_iadd (pc := 45) dX4_add_45 ?_
    refine x_putI (pc := 46) fd_4_3 pt_4_3 tk_397 dX4_add_46 (Or.inl rfl) ?_
    refine x_nameS (fun s7 => ?_)
    exact x_vret (rm := r4_add) rfl rfl dX4_add_49
theorem c_4_add (l : Launch)  (h : Nat) (v1 : Int32) (v2 : Int32) (v3 : Int32) (σ : zSt) : zMet l yX4_add cX4_add 4 none r4_add true eV [aR 4 (some h), aI v1, aI v2, aI v3] σ (f4_add h v1 v2 v3 σ) :=
  zMet_of [(0, aR 4 (some h)), (1, aI v1), (2, aI v2), (3, aI v3)] (by decide +kernel) (fun h => by cases h) (Nat.le_of_ble_eq_true rfl) rfl fun E _ => x4_add E  h v1 v2 v3 σ
abbrev r1_tell : Room := { frames := 1, cells := 0, slots := 0, locals := 23 }
abbrev m1_tell : zMu := (RX1, 3, none, r1_tell, false)
set_option maxRecDepth 20000 in
theorem x1_tell (E : zEn)  (h : Nat) (v1 : Int32) (v2 : Int32) (σ : zSt) : X E cX1_tell m1_tell true (zQw E true eV r1_tell) 0 0 σ [(0, aR 1 (some h)), (1, aI v1), (2, aI v2)] 0 [] (f1_tell h v1 v2 σ) := by
  unfold f1_tell
  refine x_aload_n (pc := 0) 0 dX1_tell_0 rfl rfl ?_
  refine x_iload_n (pc := 1) 1 dX1_tell_1 rfl rfl ?_
  refine x_putI (pc := 2) fd_1_9 pt_1_9 tk_449 dX1_tell_2 (Or.inl rfl) ?_
  refine x_nameS (fun s1 => ?_)
  refine x_aload_n (pc := 5) 0 dX1_tell_5 rfl rfl ?_
  refine x_aload_n (pc := 6) 0 dX1_tell_6 rfl rfl ?_
  refine x_getR (pc := 7) fd_1_1 tk_430 dX1_tell_7 ?_
  refine x_nameR (fun o2 => ?_)
  rcases o2 with _ | i3
  · exact x_none
  ·
    skip
    refine x_zocS ?_
    refine x_callVr (pc := 10) (as := []) (rest := [aR 1 (some h)]) (fun l => c_5_hasKey l true i3 s1) md_X5_hasKey ⟨_, _, rfl, by decide⟩ tk_284 tk_285 tk_510 dX1_tell_10 rfl ⟨by decide, by decide, by decide, by decide⟩ ⟨fun _ => rfl, fun _ => Or.inl rfl⟩ rfl (Nat.le_of_ble_eq_true rfl) (fun r4 => ?_)
    show X E _ _ _ _ 0 0 _ _ _ [aI r4, aR 1 (some h)] _
    refine x_join (P := fun (j6 : Int32 → Option (Unit × zSt)) => ∀ (a5 : Int32), X E cX1_tell m1_tell true (zQw E true eV r1_tell) 0 0 s1 [(0, aR 1 (some h)), (1, aI v1), (2, aI v2)] 32 [aI a5, aR 1 (some h)] (j6 a5)) ?_ ?_
    · intro a5
      refine x_putZ (pc := 32) fd_1_10 pt_1_10 tk_451 dX1_tell_32 (Or.inl rfl) ?_
      refine x_nameS (fun s8 => ?_)
      refine x_aload_n (pc := 35) 0 dX1_tell_35 rfl rfl ?_
      refine x_aload_n (pc := 36) 0 dX1_tell_36 rfl rfl ?_
      refine x_getI (pc := 37) fd_1_10 tk_451 dX1_tell_37 ?_
      refine x_mg (c := (gI s8 1 h 10) = 0) (a := (if v2 = 0 then 1 else 0)) (b := 0) 52 [aR 1 (some h)] ?_ (fun hm9 => ?_)
      ·
        refine x_putZ (pc := 52) fd_1_11 pt_1_11 tk_453 dX1_tell_52 (Or.inl rfl) ?_
        refine x_nameS (fun s16 => ?_)
        refine x_aload_n (pc := 55) 0 dX1_tell_55 rfl rfl ?_
        refine x_getF (pc := 56) (j := h) fd_1_7 rfl rfl tk_445 dX1_tell_56 ?_
        refine x_iconst (pc := 59) 0 dX1_tell_59 rfl ?_
        refine x_iload_n (pc := 60) 1 dX1_tell_60 rfl rfl ?_
        refine x_iconst (pc := 61) (-1) dX1_tell_61 rfl ?_
        refine x_callV (pc := 62) (as := [aI 0, aI v1, aI (-1)]) (rest := []) (fun l => c_4_add l h 0 v1 (-1) s16) md_X4_add ⟨_, _, rfl, by decide⟩ tk_512 tk_513 tk_511 dX1_tell_62 rfl ⟨by decide, by decide, by decide, by decide⟩ ⟨fun _ => rfl, fun _ => Or.inl rfl⟩ rfl (Nat.le_of_ble_eq_true rfl) (fun _ s18 => ?_)
        show X E _ _ _ _ 0 0 _ _ _ [] _
        exact x_vret (rm := r1_tell) rfl rfl dX1_tell_65
      ·
        refine x_same (c := (gI s8 1 h 10) = 0) ?_
        refine x_if_ne (pc := 40) 51 dX1_tell_40 (by decide) (fun hc10 => ?_) (fun hc10 => ?_)
        ·
          have hm12 := x_topF hc10 hm9
          refine x_iconst (pc := 51) 0 dX1_tell_51 rfl ?_
          exact hm12
        ·
          have hm11 := x_topT hc10 hm9
          refine x_iload_n (pc := 43) 2 dX1_tell_43 rfl rfl ?_
          refine x_same (c := v2 = 0) ?_
          refine x_if_ne (pc := 44) 51 dX1_tell_44 (by decide) (fun hc13 => ?_) (fun hc13 => ?_)
          ·
            have hm15 := x_topF hc13 hm11
            refine x_iconst (pc := 51) 0 dX1_tell_51 rfl ?_
            exact hm15
          ·
            have hm14 := x_topT hc13 hm11
            refine x_iconst (pc := 47) 1 dX1_tell_47 rfl ?_
            refine x_goto (pc := 48) 52 dX1_tell_48 (by decide) ?_
            exact hm14
    · intro j6 hj7
      refine x_join (P := fun (j19 : Option (Unit × zSt)) => X E cX1_tell m1_tell true (zQw E true eV r1_tell) 0 0 s1 [(0, aR 1 (some h)), (1, aI v1), (2, aI v2)] 27 [aR 1 (some h)] j19) ?_ ?_
      ·
        refine x_iconst (pc := 27) 1 dX1_tell_27 rfl ?_
        refine x_goto (pc := 28) 32 dX1_tell_28 (by decide) ?_
        exact hj7 1
      · intro j19 hj20
        refine x_if_eq (pc := 13) 27 dX1_tell_13 (by decide) (fun _ => ?_) (fun _ => ?_)
        ·
          exact hj20
        ·
          refine x_iload_n (pc := 16) 1 dX1_tell_16 rfl rfl ?_
          refine x_aload_n (pc := 17) 0 dX1_tell_17 rfl rfl ?_
          refine x_getR (pc := 18) fd_1_1 tk_430 dX1_tell_18 ?_
          refine x_nameR (fun o21 => ?_)
          rcases o21 with _ | i22
          · exact x_none
          ·
            skip
            refine x_zocS ?_
            refine x_getI (pc := 21) fd_5_4 tk_236 dX1_tell_21 ?_
            refine x_icmp_gt (pc := 24) 31 dX1_tell_24 (by decide) (fun _ => ?_) (fun _ => ?_)
            ·
              refine x_iconst (pc := 31) 0 dX1_tell_31 rfl ?_
              exact hj7 0
            ·
              exact hj20
theorem c_1_tell (l : Launch)  (h : Nat) (v1 : Int32) (v2 : Int32) (σ : zSt) : zMet l yX1_tell cX1_tell 3 none r1_tell true eV [aR 1 (some h), aI v1, aI v2] σ (f1_tell h v1 v2 σ) :=
  zMet_of [(0, aR 1 (some h)), (1, aI v1), (2, aI v2)] (by decide +kernel) (fun h => by cases h) (Nat.le_of_ble_eq_true rfl) rfl fun E _ => x1_tell E  h v1 v2 σ
abbrev r1_isAheadOfKey : Room := { frames := 1, cells := 0, slots := 0, locals := 20 }
abbrev m1_isAheadOfKey : zMu := (RX1, 1, (some .boolean), r1_isAheadOfKey, false)
set_option maxRecDepth 20000 in
theorem x1_isAheadOfKey (E : zEn)  (q : Bool) (h : Nat) (σ : zSt) : X E cX1_isAheadOfKey m1_isAheadOfKey q (zQr E q eI r1_isAheadOfKey σ) 0 0 σ [(0, aR 1 (some h))] 0 [] (f1_isAheadOfKey h σ) := by
  unfold f1_isAheadOfKey
  refine x_aload_n (pc := 0) 0 dX1_isAheadOfKey_0 rfl rfl ?_
  refine x_getR (pc := 1) fd_1_1 tk_430 dX1_isAheadOfKey_1 ?_
  refine x_nameR (fun o1 => ?_)
  rcases o1 with _ | i2
  · exact x_none
  ·
    skip
    refine x_zocS ?_
    refine x_callVr (pc := 4) (as := []) (rest := []) (fun l => c_5_hasKey l q i2 σ) md_X5_hasKey ⟨_, _, rfl, by decide⟩ tk_284 tk_285 tk_510 dX1_isAheadOfKey_4 rfl ⟨by decide, by decide, by decide, by decide⟩ ⟨fun h => h, fun h => Or.inl h⟩ rfl (Nat.le_of_ble_eq_true rfl) (fun r3 => ?_)
    show X E _ _ _ _ 0 0 _ _ _ [aI r3] _
    refine x_join (P := fun (j4 : Option Int32) => X E cX1_isAheadOfKey m1_isAheadOfKey q (zQr E q eI r1_isAheadOfKey σ) 0 0 σ [] 24 [] j4) ?_ ?_
    ·
      refine x_iconst (pc := 24) 1 dX1_isAheadOfKey_24 rfl ?_
      refine x_goto (pc := 25) 29 dX1_isAheadOfKey_25 (by decide) ?_
      exact x_zretC (rm := r1_isAheadOfKey) rfl rfl (by decide) dX1_isAheadOfKey_29
    · intro j4 hj5
      refine x_if_eq (pc := 7) 24 dX1_isAheadOfKey_7 (by decide) (fun _ => ?_) (fun _ => ?_)
      ·
        exact x_sub [] rfl (hj5)
      ·
        refine x_aload_n (pc := 10) 0 dX1_isAheadOfKey_10 rfl rfl ?_
        refine x_getI (pc := 11) fd_1_9 tk_449 dX1_isAheadOfKey_11 ?_
        refine x_aload_n (pc := 14) 0 dX1_isAheadOfKey_14 rfl rfl ?_
        refine x_getR (pc := 15) fd_1_1 tk_430 dX1_isAheadOfKey_15 ?_
        refine x_nameR (fun o6 => ?_)
        rcases o6 with _ | i7
        · exact x_none
        ·
          skip
          refine x_zocS ?_
          refine x_getI (pc := 18) fd_5_4 tk_236 dX1_isAheadOfKey_18 ?_
          refine x_icmp_ge (pc := 21) 28 dX1_isAheadOfKey_21 (by decide) (fun _ => ?_) (fun _ => ?_)
          ·
            refine x_iconst (pc := 28) 0 dX1_isAheadOfKey_28 rfl ?_
            exact x_zretC (rm := r1_isAheadOfKey) rfl rfl (by decide) dX1_isAheadOfKey_29
          ·
            exact x_sub [] rfl (hj5)
theorem c_1_isAheadOfKey (l : Launch)  (q : Bool) (h : Nat) (σ : zSt) : zMet l yX1_isAheadOfKey cX1_isAheadOfKey 1 (some .boolean) r1_isAheadOfKey q eI [aR 1 (some h)] σ (zro (f1_isAheadOfKey h σ) σ) :=
  zMet_ofR [(0, aR 1 (some h))] (by decide +kernel) (fun h => by cases h) (Nat.le_of_ble_eq_true rfl) rfl fun E _ => x1_isAheadOfKey E  q h σ
