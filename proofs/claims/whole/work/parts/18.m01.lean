abbrev r4_now : Room := { frames := 0, cells := 0, slots := 0, locals := 0 }
abbrev m4_now : zMu := (RX4, 1, (some .int), r4_now, false)
set_option maxRecDepth 20000 in
theorem x4_now (E : zEn)  (h : Nat) (σ : zSt) : X E cX4_now m4_now true (zQr E true eI r4_now σ) 0 0 σ [(0, aR 4 (some h))] 0 [] (f4_now h σ) := by
  unfold f4_now
  refine x_aload_n (pc := 0) 0 dX4_now_0 rfl rfl ?_
  refine x_getI (pc := 1) fd_4_3 tk_397 dX4_now_1 ?_
  refine x_if_ne (pc := 4) 12 dX4_now_4 (by decide) (fun _ => ?_) (fun _ => ?_)
  ·
    refine x_aload_n (pc := 12) 0 dX4_now_12 rfl rfl ?_
    refine x_getF (pc := 13) (j := h) fd_4_1 rfl rfl tk_395 dX4_now_13 ?_
    refine x_aload_n (pc := 16) 0 dX4_now_16 rfl rfl ?_
    refine x_getI (pc := 17) fd_4_3 tk_397 dX4_now_17 ?_
    refine x_iconst (pc := 20) 1 dX4_now_20 rfl ?_
    refine x_isub (pc := 21) dX4_now_21 ?_
    refine x_iald (pc := 22) ar_501 dX4_now_22 (fun m1 => ?_)
    exact x_iret (rm := r4_now) rfl rfl dX4_now_23
  ·
    refine x_bipush (pc := 7) (-4) dX4_now_7 rfl ?_
    refine x_goto (pc := 9) 23 dX4_now_9 (by decide) ?_
    exact x_iret (rm := r4_now) rfl rfl dX4_now_23
theorem c_4_now (l : Launch)  (h : Nat) (σ : zSt) : zMet l yX4_now cX4_now 1 (some .int) r4_now true eI [aR 4 (some h)] σ (zro (f4_now h σ) σ) :=
  zMet_ofR [(0, aR 4 (some h))] (by decide +kernel) (fun h => by cases h) (Nat.le_of_ble_eq_true rfl) rfl fun E _ => x4_now E  h σ
abbrev r1_isWaiting : Room := { frames := 1, cells := 0, slots := 0, locals := 20 }
abbrev m1_isWaiting : zMu := (RX1, 1, (some .boolean), r1_isWaiting, false)
set_option maxRecDepth 20000 in
theorem x1_isWaiting (E : zEn)  (h : Nat) (σ : zSt) : X E cX1_isWaiting m1_isWaiting true (zQr E true eI r1_isWaiting σ) 0 0 σ [(0, aR 1 (some h))] 0 [] (f1_isWaiting h σ) := by
  unfold f1_isWaiting
  refine x_aload_n (pc := 0) 0 dX1_isWaiting_0 rfl rfl ?_
  refine x_getF (pc := 1) (j := h) fd_1_7 rfl rfl tk_445 dX1_isWaiting_1 ?_
  refine x_callVr (pc := 4) (as := []) (rest := []) (fun l => c_4_now l h σ) md_X4_now ⟨_, _, rfl, by decide⟩ tk_503 tk_504 tk_527 dX1_isWaiting_4 rfl ⟨by decide, by decide, by decide, by decide⟩ ⟨fun _ => rfl, fun _ => Or.inl rfl⟩ rfl (Nat.le_of_ble_eq_true rfl) (fun r1 => ?_)
  show X E _ _ _ _ 0 0 _ _ _ [aI r1] _
  refine x_join (P := fun (j2 : Option Int32) => X E cX1_isWaiting m1_isWaiting true (zQr E true eI r1_isWaiting σ) 0 0 σ [] 21 [] j2) ?_ ?_
  ·
    refine x_iconst (pc := 21) 1 dX1_isWaiting_21 rfl ?_
    refine x_goto (pc := 22) 26 dX1_isWaiting_22 (by decide) ?_
    exact x_zretC (rm := r1_isWaiting) rfl rfl (by decide) dX1_isWaiting_26
  · intro j2 hj3
    refine x_if_eq (pc := 7) 21 dX1_isWaiting_7 (by decide) (fun _ => ?_) (fun _ => ?_)
    ·
      exact x_sub [] rfl (hj3)
    ·
      refine x_aload_n (pc := 10) 0 dX1_isWaiting_10 rfl rfl ?_
      refine x_getF (pc := 11) (j := h) fd_1_7 rfl rfl tk_445 dX1_isWaiting_11 ?_
      refine x_callVr (pc := 14) (as := []) (rest := []) (fun l => c_4_now l h σ) md_X4_now ⟨_, _, rfl, by decide⟩ tk_503 tk_504 tk_527 dX1_isWaiting_14 rfl ⟨by decide, by decide, by decide, by decide⟩ ⟨fun _ => rfl, fun _ => Or.inl rfl⟩ rfl (Nat.le_of_ble_eq_true rfl) (fun r4 => ?_)
      show X E _ _ _ _ 0 0 _ _ _ [aI r4] _
      refine x_iconst (pc := 17) 1 dX1_isWaiting_17 rfl ?_
      refine x_icmp_ne (pc := 18) 25 dX1_isWaiting_18 (by decide) (fun _ => ?_) (fun _ => ?_)
      ·
        refine x_iconst (pc := 25) 0 dX1_isWaiting_25 rfl ?_
        exact x_zretC (rm := r1_isWaiting) rfl rfl (by decide) dX1_isWaiting_26
      ·
        exact x_sub [] rfl (hj3)
theorem c_1_isWaiting (l : Launch)  (h : Nat) (σ : zSt) : zMet l yX1_isWaiting cX1_isWaiting 1 (some .boolean) r1_isWaiting true eI [aR 1 (some h)] σ (zro (f1_isWaiting h σ) σ) :=
  zMet_ofR [(0, aR 1 (some h))] (by decide +kernel) (fun h => by cases h) (Nat.le_of_ble_eq_true rfl) rfl fun E _ => x1_isWaiting E  h σ
abbrev r4_onDay : Room := { frames := 0, cells := 0, slots := 0, locals := 0 }
abbrev m4_onDay : zMu := (RX4, 4, (some .int), r4_onDay, false)
set_option maxRecDepth 20000 in
theorem xl4_onDay_5 (E : zEn)   (h0 : Nat) (h1 : Int32) (σ : zSt)   : ∀ (n : Nat) (v2 : Int32) (v3 : Int32), X E cX4_onDay m4_onDay true (zQr E true eI r4_onDay σ) 0 0 σ [(0, aR 4 (some h0)), (1, aI h1), (2, aI v2), (3, aI v3)] 5 [] (f4_onDay_L5 h0 h1 σ n v2 v3) := by
  intro n
  induction n with
  | zero => intros; exact x_none
  | succ n ih =>
    intro v2 v3
    rw [f4_onDay_L5]
    refine x_iload_n (pc := 5) 3 dX4_onDay_5 rfl rfl ?_
    refine x_aload_n (pc := 6) 0 dX4_onDay_6 rfl rfl ?_
    refine x_getI (pc := 7) fd_4_3 tk_397 dX4_onDay_7 ?_
    refine x_icmp_ge (pc := 10) 36 dX4_onDay_10 (by decide) (fun _ => ?_) (fun _ => ?_)
    ·
      refine x_iload_n (pc := 36) 2 dX4_onDay_36 rfl rfl ?_
      exact x_iret (rm := r4_onDay) rfl rfl dX4_onDay_37
    ·
      refine x_aload_n (pc := 13) 0 dX4_onDay_13 rfl rfl ?_
      refine x_getF (pc := 14) (j := h0) fd_4_0 rfl rfl tk_394 dX4_onDay_14 ?_
      refine x_iload_n (pc := 17) 3 dX4_onDay_17 rfl rfl ?_
      refine x_iald (pc := 18) ar_500 dX4_onDay_18 (fun m1 => ?_)
      refine x_iload_n (pc := 19) 1 dX4_onDay_19 rfl rfl ?_
      refine x_icmp_gt (pc := 20) 36 dX4_onDay_20 (by decide) (fun _ => ?_) (fun _ => ?_)
      ·
        refine x_iload_n (pc := 36) 2 dX4_onDay_36 rfl rfl ?_
        exact x_iret (rm := r4_onDay) rfl rfl dX4_onDay_37
      ·
        refine x_aload_n (pc := 23) 0 dX4_onDay_23 rfl rfl ?_
        refine x_getF (pc := 24) (j := h0) fd_4_1 rfl rfl tk_395 dX4_onDay_24 ?_
        refine x_iload_n (pc := 27) 3 dX4_onDay_27 rfl rfl ?_
        refine x_iald (pc := 28) ar_501 dX4_onDay_28 (fun m2 => ?_)
        refine x_nameI (fun x3 => ?_)
        refine x_istore_n (pc := 29) (als' := [(2, aI x3), (0, aR 4 (some h0)), (1, aI h1), (3, aI v3)]) 2 dX4_onDay_29 rfl (by decide) rfl ?_
        refine x_iinc (pc := 30) (als' := [(3, aI (v3 + 1)), (2, aI x3), (0, aR 4 (some h0)), (1, aI h1)]) 3 3 (c := 1) dX4_onDay_30 rfl rfl (by decide) rfl ?_
        refine x_nameV (g := fun y5 => [(3, aI y5), (2, aI x3), (0, aR 4 (some h0)), (1, aI h1)]) (fun x4 => ?_) rfl
        refine x_goto (pc := 33) 5 dX4_onDay_33 (by decide) ?_
        exact x_sub [2, 3, 1, 0] rfl (ih x3 x4)
set_option maxRecDepth 20000 in
theorem x4_onDay (E : zEn)  (h : Nat) (v1 : Int32) (σ : zSt) : X E cX4_onDay m4_onDay true (zQr E true eI r4_onDay σ) 0 0 σ [(0, aR 4 (some h)), (1, aI v1)] 0 [] (f4_onDay h v1 σ) := by
  unfold f4_onDay
  refine x_bipush (pc := 0) (-4) dX4_onDay_0 rfl ?_
  refine x_istore_n (pc := 2) (als' := [(2, aI (-4)), (0, aR 4 (some h)), (1, aI v1)]) 2 dX4_onDay_2 rfl (by decide) rfl ?_
  refine x_iconst (pc := 3) 0 dX4_onDay_3 rfl ?_
  refine x_istore_n (pc := 4) (als' := [(3, aI 0), (2, aI (-4)), (0, aR 4 (some h)), (1, aI v1)]) 3 dX4_onDay_4 rfl (by decide) rfl ?_
  refine x_sub [2, 3, 1, 0] rfl (xl4_onDay_5 E h v1 σ zfuel (-4) 0)
theorem c_4_onDay (l : Launch)  (h : Nat) (v1 : Int32) (σ : zSt) : zMet l yX4_onDay cX4_onDay 4 (some .int) r4_onDay true eI [aR 4 (some h), aI v1] σ (zro (f4_onDay h v1 σ) σ) :=
  zMet_ofR [(0, aR 4 (some h)), (1, aI v1)] (by decide +kernel) (fun h => by cases h) (Nat.le_of_ble_eq_true rfl) rfl fun E _ => x4_onDay E  h v1 σ
abbrev r1_isLeftOn : Room := { frames := 1, cells := 0, slots := 0, locals := 23 }
abbrev m1_isLeftOn : zMu := (RX1, 3, (some .boolean), r1_isLeftOn, false)
set_option maxRecDepth 20000 in
theorem x1_isLeftOn (E : zEn)  (h : Nat) (v1 : Int32) (σ : zSt) : X E cX1_isLeftOn m1_isLeftOn true (zQr E true eI r1_isLeftOn σ) 0 0 σ [(0, aR 1 (some h)), (1, aI v1)] 0 [] (f1_isLeftOn h v1 σ) := by
  unfold f1_isLeftOn
  refine x_aload_n (pc := 0) 0 dX1_isLeftOn_0 rfl rfl ?_
  refine x_getF (pc := 1) (j := h) fd_1_7 rfl rfl tk_445 dX1_isLeftOn_1 ?_
  refine x_iload_n (pc := 4) 1 dX1_isLeftOn_4 rfl rfl ?_
  refine x_callVr (pc := 5) (as := [aI v1]) (rest := []) (fun l => c_4_onDay l h v1 σ) md_X4_onDay ⟨_, _, rfl, by decide⟩ tk_326 tk_327 tk_325 dX1_isLeftOn_5 rfl ⟨by decide, by decide, by decide, by decide⟩ ⟨fun _ => rfl, fun _ => Or.inl rfl⟩ rfl (Nat.le_of_ble_eq_true rfl) (fun r1 => ?_)
  show X E _ _ _ _ 0 0 _ _ _ [aI r1] _
  refine x_istore_n (pc := 8) (als' := [(2, aI r1), (0, aR 1 (some h)), (1, aI v1)]) 2 dX1_isLeftOn_8 rfl (by decide) rfl ?_
  refine x_iload_n (pc := 9) 2 dX1_isLeftOn_9 rfl rfl ?_
  refine x_bipush (pc := 10) (-4) dX1_isLeftOn_10 rfl ?_
  refine x_join (P := fun (j2 : Option Int32) => X E cX1_isLeftOn m1_isLeftOn true (zQr E true eI r1_isLeftOn σ) 0 0 σ [] 29 [] j2) ?_ ?_
  ·
    refine x_iconst (pc := 29) 0 dX1_isLeftOn_29 rfl ?_
    exact x_zretC (rm := r1_isLeftOn) rfl rfl (by decide) dX1_isLeftOn_30
  · intro j2 hj3
    refine x_icmp_eq (pc := 12) 29 dX1_isLeftOn_12 (by decide) (fun _ => ?_) (fun _ => ?_)
    ·
      exact x_sub [] rfl (hj3)
    ·
      refine x_iload_n (pc := 15) 2 dX1_isLeftOn_15 rfl rfl ?_
      refine x_iconst (pc := 16) 3 dX1_isLeftOn_16 rfl ?_
      refine x_icmp_eq (pc := 17) 29 dX1_isLeftOn_17 (by decide) (fun _ => ?_) (fun _ => ?_)
      ·
        exact x_sub [] rfl (hj3)
      ·
        refine x_iload_n (pc := 20) 2 dX1_isLeftOn_20 rfl rfl ?_
        refine x_iconst (pc := 21) 4 dX1_isLeftOn_21 rfl ?_
        refine x_icmp_eq (pc := 22) 29 dX1_isLeftOn_22 (by decide) (fun _ => ?_) (fun _ => ?_)
        ·
          exact x_sub [] rfl (hj3)
        ·
          refine x_iconst (pc := 25) 1 dX1_isLeftOn_25 rfl ?_
          refine x_goto (pc := 26) 30 dX1_isLeftOn_26 (by decide) ?_
          exact x_zretC (rm := r1_isLeftOn) rfl rfl (by decide) dX1_isLeftOn_30
theorem c_1_isLeftOn (l : Launch)  (h : Nat) (v1 : Int32) (σ : zSt) : zMet l yX1_isLeftOn cX1_isLeftOn 3 (some .boolean) r1_isLeftOn true eI [aR 1 (some h), aI v1] σ (zro (f1_isLeftOn h v1 σ) σ) :=
  zMet_ofR [(0, aR 1 (some h)), (1, aI v1)] (by decide +kernel) (fun h => by cases h) (Nat.le_of_ble_eq_true rfl) rfl fun E _ => x1_isLeftOn E  h v1 σ
abbrev r1_isSameThing : Room := { frames := 0, cells := 0, slots := 0, locals := 0 }
abbrev m1_isSameThing : zMu := (RX1, 2, (some .boolean), r1_isSameThing, false)
set_option maxRecDepth 20000 in
theorem x1_isSameThing (E : zEn)  (q : Bool) (h : Nat) (h1 : Nat) (σ : zSt) : X E cX1_isSameThing m1_isSameThing q (zQr E q eI r1_isSameThing σ) 0 0 σ [(0, aR 1 (some h)), (1, aR 1 (some h1))] 0 [] (f1_isSameThing h h1 σ) := by
  unfold f1_isSameThing
  refine x_aload_n (pc := 0) 0 dX1_isSameThing_0 rfl rfl ?_
  refine x_getR (pc := 1) fd_1_1 tk_430 dX1_isSameThing_1 ?_
  refine x_nameR (fun o1 => ?_)
  refine x_aload_n (pc := 4) 1 dX1_isSameThing_4 rfl rfl ?_
  refine x_getR (pc := 5) fd_1_1 tk_430 dX1_isSameThing_5 ?_
  refine x_nameR (fun o2 => ?_)
  refine x_join (P := fun (j3 : Option Int32) => X E cX1_isSameThing m1_isSameThing q (zQr E q eI r1_isSameThing σ) 0 0 σ [] 37 [] j3) ?_ ?_
  ·
    refine x_iconst (pc := 37) 0 dX1_isSameThing_37 rfl ?_
    exact x_zretC (rm := r1_isSameThing) rfl rfl (by decide) dX1_isSameThing_38
  · intro j3 hj4
    refine x_acmp_ne (pc := 8) 37 (by decide) dX1_isSameThing_8 (by decide) (fun _ => ?_) (fun _ => ?_)
    ·
      exact x_sub [] rfl (hj4)
    ·
      refine x_aload_n (pc := 11) 0 dX1_isSameThing_11 rfl rfl ?_
      refine x_getI (pc := 12) fd_1_2 tk_433 dX1_isSameThing_12 ?_
      refine x_aload_n (pc := 15) 1 dX1_isSameThing_15 rfl rfl ?_
      refine x_getI (pc := 16) fd_1_2 tk_433 dX1_isSameThing_16 ?_
      refine x_icmp_ne (pc := 19) 37 dX1_isSameThing_19 (by decide) (fun _ => ?_) (fun _ => ?_)
      ·
        exact x_sub [] rfl (hj4)
      ·
        refine x_aload_n (pc := 22) 0 dX1_isSameThing_22 rfl rfl ?_
        refine x_getI (pc := 23) fd_1_3 tk_435 dX1_isSameThing_23 ?_
        refine x_aload_n (pc := 26) 1 dX1_isSameThing_26 rfl rfl ?_
        refine x_getI (pc := 27) fd_1_3 tk_435 dX1_isSameThing_27 ?_
        refine x_icmp_ne (pc := 30) 37 dX1_isSameThing_30 (by decide) (fun _ => ?_) (fun _ => ?_)
        ·
          exact x_sub [] rfl (hj4)
        ·
          refine x_iconst (pc := 33) 1 dX1_isSameThing_33 rfl ?_
          refine x_goto (pc := 34) 38 dX1_isSameThing_34 (by decide) ?_
          exact x_zretC (rm := r1_isSameThing) rfl rfl (by decide) dX1_isSameThing_38
theorem c_1_isSameThing (l : Launch)  (q : Bool) (h : Nat) (h1 : Nat) (σ : zSt) : zMet l yX1_isSameThing cX1_isSameThing 2 (some .boolean) r1_isSameThing q eI [aR 1 (some h), aR 1 (some h1)] σ (zro (f1_isSameThing h h1 σ) σ) :=
  zMet_ofR [(0, aR 1 (some h)), (1, aR 1 (some h1))] (by decide +kernel) (fun h => by cases h) (Nat.le_of_ble_eq_true rfl) rfl fun E _ => x1_isSameThing E  q h h1 σ
abbrev r1_isListedBy : Room := { frames := 0, cells := 0, slots := 0, locals := 0 }
abbrev m1_isListedBy : zMu := (RX1, 2, (some .boolean), r1_isListedBy, false)
set_option maxRecDepth 20000 in
theorem x1_isListedBy (E : zEn)  (q : Bool) (h : Nat) (v1 : Int32) (σ : zSt) : X E cX1_isListedBy m1_isListedBy q (zQr E q eI r1_isListedBy σ) 0 0 σ [(0, aR 1 (some h)), (1, aI v1)] 0 [] (f1_isListedBy h v1 σ) := by
  unfold f1_isListedBy
  refine x_aload_n (pc := 0) 0 dX1_isListedBy_0 rfl rfl ?_
  refine x_getI (pc := 1) fd_1_10 tk_451 dX1_isListedBy_1 ?_
  refine x_join (P := fun (j1 : Option Int32) => X E cX1_isListedBy m1_isListedBy q (zQr E q eI r1_isListedBy σ) 0 0 σ [] 19 [] j1) ?_ ?_
  ·
    refine x_iconst (pc := 19) 0 dX1_isListedBy_19 rfl ?_
    exact x_zretC (rm := r1_isListedBy) rfl rfl (by decide) dX1_isListedBy_20
  · intro j1 hj2
    refine x_if_eq (pc := 4) 19 dX1_isListedBy_4 (by decide) (fun _ => ?_) (fun _ => ?_)
    ·
      exact x_sub [] rfl (hj2)
    ·
      refine x_aload_n (pc := 7) 0 dX1_isListedBy_7 rfl rfl ?_
      refine x_getI (pc := 8) fd_1_6 tk_443 dX1_isListedBy_8 ?_
      refine x_iload_n (pc := 11) 1 dX1_isListedBy_11 rfl rfl ?_
      refine x_icmp_ne (pc := 12) 19 dX1_isListedBy_12 (by decide) (fun _ => ?_) (fun _ => ?_)
      ·
        exact x_sub [] rfl (hj2)
      ·
        refine x_iconst (pc := 15) 1 dX1_isListedBy_15 rfl ?_
        refine x_goto (pc := 16) 20 dX1_isListedBy_16 (by decide) ?_
        exact x_zretC (rm := r1_isListedBy) rfl rfl (by decide) dX1_isListedBy_20
theorem c_1_isListedBy (l : Launch)  (q : Bool) (h : Nat) (v1 : Int32) (σ : zSt) : zMet l yX1_isListedBy cX1_isListedBy 2 (some .boolean) r1_isListedBy q eI [aR 1 (some h), aI v1] σ (zro (f1_isListedBy h v1 σ) σ) :=
  zMet_ofR [(0, aR 1 (some h)), (1, aI v1)] (by decide +kernel) (fun h => by cases h) (Nat.le_of_ble_eq_true rfl) rfl fun E _ => x1_isListedBy E  q h v1 σ
abbrev r4_lastSaid : Room := { frames := 0, cells := 0, slots := 0, locals := 0 }
abbrev m4_lastSaid : zMu := (RX4, 4, (some .int), r4_lastSaid, false)
set_option maxRecDepth 20000 in
theorem xl4_lastSaid_7 (E : zEn)   (h0 : Nat) (h1 : Int32) (h2 : Int32) (σ : zSt)   : ∀ (n : Nat) (v3 : Int32), X E cX4_lastSaid m4_lastSaid true (zQr E true eI r4_lastSaid σ) 0 0 σ [(0, aR 4 (some h0)), (1, aI h1), (2, aI h2), (3, aI v3)] 7 [] (f4_lastSaid_L7 h0 h1 h2 σ n v3) := by
  intro n
  induction n with
  | zero => intros; exact x_none
  | succ n ih =>
    intro v3
    rw [f4_lastSaid_L7]
    refine x_iload_n (pc := 7) 3 dX4_lastSaid_7 rfl rfl ?_
    refine x_if_lt (pc := 8) 49 dX4_lastSaid_8 (by decide) (fun _ => ?_) (fun _ => ?_)
    ·
      refine x_iconst (pc := 49) (-1) dX4_lastSaid_49 rfl ?_
      exact x_iret (rm := r4_lastSaid) rfl rfl dX4_lastSaid_50
    ·
      refine x_aload_n (pc := 11) 0 dX4_lastSaid_11 rfl rfl ?_
      refine x_getF (pc := 12) (j := h0) fd_4_1 rfl rfl tk_395 dX4_lastSaid_12 ?_
      refine x_iload_n (pc := 15) 3 dX4_lastSaid_15 rfl rfl ?_
      refine x_iald (pc := 16) ar_501 dX4_lastSaid_16 (fun m2 => ?_)
      refine x_iconst (pc := 17) 2 dX4_lastSaid_17 rfl ?_
      refine x_join (P := fun (j3 : Option Int32) => X E cX4_lastSaid m4_lastSaid true (zQr E true eI r4_lastSaid σ) 0 0 σ [(0, aR 4 (some h0)), (1, aI h1), (2, aI h2), (3, aI v3)] 43 [] j3) ?_ ?_
      ·
        refine x_iinc (pc := 43) (als' := [(3, aI (v3 + (-1))), (0, aR 4 (some h0)), (1, aI h1), (2, aI h2)]) 3 3 (c := (-1)) dX4_lastSaid_43 rfl rfl (by decide) rfl ?_
        refine x_nameV (g := fun y6 => [(3, aI y6), (0, aR 4 (some h0)), (1, aI h1), (2, aI h2)]) (fun x5 => ?_) rfl
        refine x_goto (pc := 46) 7 dX4_lastSaid_46 (by decide) ?_
        exact x_sub [1, 2, 3, 0] rfl (ih x5)
      · intro j3 hj4
        refine x_icmp_ne (pc := 18) 43 dX4_lastSaid_18 (by decide) (fun _ => ?_) (fun _ => ?_)
        ·
          exact hj4
        ·
          refine x_aload_n (pc := 21) 0 dX4_lastSaid_21 rfl rfl ?_
          refine x_getF (pc := 22) (j := h0) fd_4_0 rfl rfl tk_394 dX4_lastSaid_22 ?_
          refine x_iload_n (pc := 25) 3 dX4_lastSaid_25 rfl rfl ?_
          refine x_iald (pc := 26) ar_500 dX4_lastSaid_26 (fun m7 => ?_)
          refine x_iload_n (pc := 27) 1 dX4_lastSaid_27 rfl rfl ?_
          refine x_icmp_lt (pc := 28) 43 dX4_lastSaid_28 (by decide) (fun _ => ?_) (fun _ => ?_)
          ·
            exact hj4
          ·
            refine x_aload_n (pc := 31) 0 dX4_lastSaid_31 rfl rfl ?_
            refine x_getF (pc := 32) (j := h0) fd_4_0 rfl rfl tk_394 dX4_lastSaid_32 ?_
            refine x_iload_n (pc := 35) 3 dX4_lastSaid_35 rfl rfl ?_
            refine x_iald (pc := 36) ar_500 dX4_lastSaid_36 (fun m8 => ?_)
            refine x_iload_n (pc := 37) 2 dX4_lastSaid_37 rfl rfl ?_
            refine x_icmp_gt (pc := 38) 43 dX4_lastSaid_38 (by decide) (fun _ => ?_) (fun _ => ?_)
            ·
              exact hj4
            ·
              refine x_iload_n (pc := 41) 3 dX4_lastSaid_41 rfl rfl ?_
              exact x_iret (rm := r4_lastSaid) rfl rfl dX4_lastSaid_42
set_option maxRecDepth 20000 in
theorem x4_lastSaid (E : zEn)  (h : Nat) (v1 : Int32) (v2 : Int32) (σ : zSt) : X E cX4_lastSaid m4_lastSaid true (zQr E true eI r4_lastSaid σ) 0 0 σ [(0, aR 4 (some h)), (1, aI v1), (2, aI v2)] 0 [] (f4_lastSaid h v1 v2 σ) := by
  unfold f4_lastSaid
  refine x_aload_n (pc := 0) 0 dX4_lastSaid_0 rfl rfl ?_
  refine x_getI (pc := 1) fd_4_3 tk_397 dX4_lastSaid_1 ?_
  refine x_iconst (pc := 4) 1 dX4_lastSaid_4 rfl ?_
  refine x_isub (pc := 5) dX4_lastSaid_5 ?_
  refine x_nameI (fun x1 => ?_)
  refine x_istore_n (pc := 6) (als' := [(3, aI x1), (0, aR 4 (some h)), (1, aI v1), (2, aI v2)]) 3 dX4_lastSaid_6 rfl (by decide) rfl ?_
  refine x_sub [1, 2, 3, 0] rfl (xl4_lastSaid_7 E h v1 v2 σ zfuel x1)
theorem c_4_lastSaid (l : Launch)  (h : Nat) (v1 : Int32) (v2 : Int32) (σ : zSt) : zMet l yX4_lastSaid cX4_lastSaid 4 (some .int) r4_lastSaid true eI [aR 4 (some h), aI v1, aI v2] σ (zro (f4_lastSaid h v1 v2 σ) σ) :=
  zMet_ofR [(0, aR 4 (some h)), (1, aI v1), (2, aI v2)] (by decide +kernel) (fun h => by cases h) (Nat.le_of_ble_eq_true rfl) rfl fun E _ => x4_lastSaid E  h v1 v2 σ
abbrev r4_crewAt : Room := { frames := 1, cells := 0, slots := 0, locals := 21 }
abbrev m4_crewAt : zMu := (RX4, 2, (some .int), r4_crewAt, false)
set_option maxRecDepth 20000 in
theorem x4_crewAt (E : zEn)  (h : Nat) (v1 : Int32) (σ : zSt) : X E cX4_crewAt m4_crewAt true (zQr E true eI r4_crewAt σ) 0 0 σ [(0, aR 4 (some h)), (1, aI v1)] 0 [] (f4_crewAt h v1 σ) := by
  unfold f4_crewAt
  refine x_iload_n (pc := 0) 1 dX4_crewAt_0 rfl rfl ?_
  refine x_aload_n (pc := 1) 0 dX4_crewAt_1 rfl rfl ?_
  refine x_getI (pc := 2) fd_4_3 tk_397 dX4_crewAt_2 ?_
  refine x_callSNr (pc := 5) (as := [aI v1, aI (gI σ 4 h 3)]) (rest := []) (fun l => c_11_isIn l true v1 (gI σ 4 h 3) σ) md_X11_isIn tk_219 (host := RX11) (by decide +kernel) dX4_crewAt_5 rfl ⟨by decide, by decide, by decide, by decide⟩ ⟨fun _ => rfl, fun _ => Or.inl rfl⟩ rfl (Nat.le_of_ble_eq_true rfl) (fun r1 => ?_)
  show X E _ _ _ _ 0 0 _ _ _ [aI r1] _
  refine x_if_eq (pc := 8) 20 dX4_crewAt_8 (by decide) (fun _ => ?_) (fun _ => ?_)
  ·
    refine x_iconst (pc := 20) (-1) dX4_crewAt_20 rfl ?_
    exact x_iret (rm := r4_crewAt) rfl rfl dX4_crewAt_21
  ·
    refine x_aload_n (pc := 11) 0 dX4_crewAt_11 rfl rfl ?_
    refine x_getF (pc := 12) (j := h) fd_4_2 rfl rfl tk_396 dX4_crewAt_12 ?_
    refine x_iload_n (pc := 15) 1 dX4_crewAt_15 rfl rfl ?_
    refine x_iald (pc := 16) ar_502 dX4_crewAt_16 (fun m2 => ?_)
    refine x_goto (pc := 17) 21 dX4_crewAt_17 (by decide) ?_
    exact x_iret (rm := r4_crewAt) rfl rfl dX4_crewAt_21
theorem c_4_crewAt (l : Launch)  (h : Nat) (v1 : Int32) (σ : zSt) : zMet l yX4_crewAt cX4_crewAt 2 (some .int) r4_crewAt true eI [aR 4 (some h), aI v1] σ (zro (f4_crewAt h v1 σ) σ) :=
  zMet_ofR [(0, aR 4 (some h)), (1, aI v1)] (by decide +kernel) (fun h => by cases h) (Nat.le_of_ble_eq_true rfl) rfl fun E _ => x4_crewAt E  h v1 σ
abbrev r1_lastCrew : Room := { frames := 2, cells := 0, slots := 0, locals := 42 }
abbrev m1_lastCrew : zMu := (RX1, 1, (some .int), r1_lastCrew, false)
set_option maxRecDepth 20000 in
theorem x1_lastCrew (E : zEn)  (h : Nat) (σ : zSt) : X E cX1_lastCrew m1_lastCrew true (zQr E true eI r1_lastCrew σ) 0 0 σ [(0, aR 1 (some h))] 0 [] (f1_lastCrew h σ) := by
  unfold f1_lastCrew
  refine x_aload_n (pc := 0) 0 dX1_lastCrew_0 rfl rfl ?_
  refine x_getF (pc := 1) (j := h) fd_1_7 rfl rfl tk_445 dX1_lastCrew_1 ?_
  refine x_aload_n (pc := 4) 0 dX1_lastCrew_4 rfl rfl ?_
  refine x_getF (pc := 5) (j := h) fd_1_7 rfl rfl tk_445 dX1_lastCrew_5 ?_
  refine x_iconst (pc := 8) 0 dX1_lastCrew_8 rfl ?_
  refine x_sipush (pc := 9) 9999 dX1_lastCrew_9 rfl ?_
  refine x_callVr (pc := 12) (as := [aI 0, aI 9999]) (rest := [aR 4 (some h)]) (fun l => c_4_lastSaid l h 0 9999 σ) md_X4_lastSaid ⟨_, _, rfl, by decide⟩ tk_554 tk_555 tk_553 dX1_lastCrew_12 rfl ⟨by decide, by decide, by decide, by decide⟩ ⟨fun _ => rfl, fun _ => Or.inl rfl⟩ rfl (Nat.le_of_ble_eq_true rfl) (fun r1 => ?_)
  show X E _ _ _ _ 0 0 _ _ _ [aI r1, aR 4 (some h)] _
  refine x_callVr (pc := 15) (as := [aI r1]) (rest := []) (fun l => c_4_crewAt l h r1 σ) md_X4_crewAt ⟨_, _, rfl, by decide⟩ tk_558 tk_559 tk_557 dX1_lastCrew_15 rfl ⟨by decide, by decide, by decide, by decide⟩ ⟨fun _ => rfl, fun _ => Or.inl rfl⟩ rfl (Nat.le_of_ble_eq_true rfl) (fun r2 => ?_)
  show X E _ _ _ _ 0 0 _ _ _ [aI r2] _
  exact x_iret (rm := r1_lastCrew) rfl rfl dX1_lastCrew_18
theorem c_1_lastCrew (l : Launch)  (h : Nat) (σ : zSt) : zMet l yX1_lastCrew cX1_lastCrew 1 (some .int) r1_lastCrew true eI [aR 1 (some h)] σ (zro (f1_lastCrew h σ) σ) :=
  zMet_ofR [(0, aR 1 (some h))] (by decide +kernel) (fun h => by cases h) (Nat.le_of_ble_eq_true rfl) rfl fun E _ => x1_lastCrew E  h σ
abbrev r1_isSaidNowBy : Room := { frames := 3, cells := 0, slots := 0, locals := 62 }
abbrev m1_isSaidNowBy : zMu := (RX1, 2, (some .boolean), r1_isSaidNowBy, false)
set_option maxRecDepth 20000 in
theorem x1_isSaidNowBy (E : zEn)  (h : Nat) (v1 : Int32) (σ : zSt) : X E cX1_isSaidNowBy m1_isSaidNowBy true (zQr E true eI r1_isSaidNowBy σ) 0 0 σ [(0, aR 1 (some h)), (1, aI v1)] 0 [] (f1_isSaidNowBy h v1 σ) := by
  unfold f1_isSaidNowBy
  refine x_aload_n (pc := 0) 0 dX1_isSaidNowBy_0 rfl rfl ?_
  refine x_getF (pc := 1) (j := h) fd_1_7 rfl rfl tk_445 dX1_isSaidNowBy_1 ?_
  refine x_callVr (pc := 4) (as := []) (rest := []) (fun l => c_4_now l h σ) md_X4_now ⟨_, _, rfl, by decide⟩ tk_503 tk_504 tk_527 dX1_isSaidNowBy_4 rfl ⟨by decide, by decide, by decide, by decide⟩ ⟨fun _ => rfl, fun _ => Or.inl rfl⟩ rfl (Nat.le_of_ble_eq_true rfl) (fun r1 => ?_)
  show X E _ _ _ _ 0 0 _ _ _ [aI r1] _
  refine x_iconst (pc := 7) 2 dX1_isSaidNowBy_7 rfl ?_
  refine x_join (P := fun (j2 : Option Int32) => X E cX1_isSaidNowBy m1_isSaidNowBy true (zQr E true eI r1_isSaidNowBy σ) 0 0 σ [] 23 [] j2) ?_ ?_
  ·
    refine x_iconst (pc := 23) 0 dX1_isSaidNowBy_23 rfl ?_
    exact x_zretC (rm := r1_isSaidNowBy) rfl rfl (by decide) dX1_isSaidNowBy_24
  · intro j2 hj3
    refine x_icmp_ne (pc := 8) 23 dX1_isSaidNowBy_8 (by decide) (fun _ => ?_) (fun _ => ?_)
    ·
      exact x_sub [] rfl (hj3)
    ·
      refine x_aload_n (pc := 11) 0 dX1_isSaidNowBy_11 rfl rfl ?_
      refine x_callVr (pc := 12) (as := []) (rest := []) (fun l => c_1_lastCrew l h σ) md_X1_lastCrew ⟨_, _, rfl, by decide⟩ tk_550 tk_551 tk_1136 dX1_isSaidNowBy_12 rfl ⟨by decide, by decide, by decide, by decide⟩ ⟨fun _ => rfl, fun _ => Or.inl rfl⟩ rfl (Nat.le_of_ble_eq_true rfl) (fun r4 => ?_)
      show X E _ _ _ _ 0 0 _ _ _ [aI r4] _
      refine x_iload_n (pc := 15) 1 dX1_isSaidNowBy_15 rfl rfl ?_
      refine x_icmp_ne (pc := 16) 23 dX1_isSaidNowBy_16 (by decide) (fun _ => ?_) (fun _ => ?_)
      ·
        exact x_sub [] rfl (hj3)
      ·
        refine x_iconst (pc := 19) 1 dX1_isSaidNowBy_19 rfl ?_
        refine x_goto (pc := 20) 24 dX1_isSaidNowBy_20 (by decide) ?_
        exact x_zretC (rm := r1_isSaidNowBy) rfl rfl (by decide) dX1_isSaidNowBy_24
theorem c_1_isSaidNowBy (l : Launch)  (h : Nat) (v1 : Int32) (σ : zSt) : zMet l yX1_isSaidNowBy cX1_isSaidNowBy 2 (some .boolean) r1_isSaidNowBy true eI [aR 1 (some h), aI v1] σ (zro (f1_isSaidNowBy h v1 σ) σ) :=
  zMet_ofR [(0, aR 1 (some h)), (1, aI v1)] (by decide +kernel) (fun h => by cases h) (Nat.le_of_ble_eq_true rfl) rfl fun E _ => x1_isSaidNowBy E  h v1 σ
abbrev r1_price : Room := { frames := 0, cells := 0, slots := 0, locals := 0 }
abbrev m1_price : zMu := (RX1, 2, (some .int), r1_price, false)
set_option maxRecDepth 20000 in
theorem x1_price (E : zEn)  (q : Bool) (h : Nat) (σ : zSt) : X E cX1_price m1_price q (zQr E q eI r1_price σ) 0 0 σ [(0, aR 1 (some h))] 0 [] (f1_price h σ) := by
  unfold f1_price
  refine x_aload_n (pc := 0) 0 dX1_price_0 rfl rfl ?_
  refine x_getR (pc := 1) fd_1_4 tk_437 dX1_price_1 ?_
  refine x_nameR (fun o1 => ?_)
  rcases o1 with _ | i2
  · exact x_none
  ·
    skip
    refine x_zocS ?_
    refine x_getI (pc := 4) fd_7_1 tk_367 dX1_price_4 ?_
    refine x_aload_n (pc := 7) 0 dX1_price_7 rfl rfl ?_
    refine x_getI (pc := 8) fd_1_5 tk_440 dX1_price_8 ?_
    refine x_imul (pc := 11) dX1_price_11 ?_
    refine x_nameI (fun x3 => ?_)
    refine x_istore_n (pc := 12) (als' := [(1, aI x3), (0, aR 1 (some h))]) 1 dX1_price_12 rfl (by decide) rfl ?_
    refine x_aload_n (pc := 13) 0 dX1_price_13 rfl rfl ?_
    refine x_getI (pc := 14) fd_1_2 tk_433 dX1_price_14 ?_
    refine x_iconst (pc := 17) 4 dX1_price_17 rfl ?_
    refine x_idivC (pc := 18) dX1_price_18 (by decide) ?_
    refine x_iconst (pc := 19) 2 dX1_price_19 rfl ?_
    refine x_icmp_ne (pc := 20) 33 dX1_price_20 (by decide) (fun _ => ?_) (fun _ => ?_)
    ·
      refine x_iload_n (pc := 33) 1 dX1_price_33 rfl rfl ?_
      exact x_iret (rm := r1_price) rfl rfl dX1_price_34
    ·
      refine x_iload_n (pc := 23) 1 dX1_price_23 rfl rfl ?_
      refine x_iload_n (pc := 24) 1 dX1_price_24 rfl rfl ?_
      refine x_iconst (pc := 25) 1 dX1_price_25 rfl ?_
      refine x_iadd (pc := 26) dX1_price_26 ?_
      refine x_iconst (pc := 27) 2 dX1_price_27 rfl ?_
      refine x_idivC (pc := 28) dX1_price_28 (by decide) ?_
      refine x_iadd (pc := 29) dX1_price_29 ?_
      refine x_goto (pc := 30) 34 dX1_price_30 (by decide) ?_
      exact x_iret (rm := r1_price) rfl rfl dX1_price_34
theorem c_1_price (l : Launch)  (q : Bool) (h : Nat) (σ : zSt) : zMet l yX1_price cX1_price 2 (some .int) r1_price q eI [aR 1 (some h)] σ (zro (f1_price h σ) σ) :=
  zMet_ofR [(0, aR 1 (some h))] (by decide +kernel) (fun h => by cases h) (Nat.le_of_ble_eq_true rfl) rfl fun E _ => x1_price E  q h σ
abbrev r3_paceAt : Room := { frames := 1, cells := 0, slots := 0, locals := 21 }
abbrev m3_paceAt : zMu := (RX3, 3, (some .int), r3_paceAt, false)
set_option maxRecDepth 20000 in
theorem x3_paceAt (E : zEn)  (h : Nat) (v1 : Int32) (σ : zSt) : X E cX3_paceAt m3_paceAt true (zQr E true eI r3_paceAt σ) 0 0 σ [(0, aR 3 (some h)), (1, aI v1)] 0 [] (f3_paceAt h v1 σ) := by
  unfold f3_paceAt
  refine x_iload_n (pc := 0) 1 dX3_paceAt_0 rfl rfl ?_
  refine x_aload_n (pc := 1) 0 dX3_paceAt_1 rfl rfl ?_
  refine x_getI (pc := 2) fd_3_2 tk_419 dX3_paceAt_2 ?_
  refine x_iconst (pc := 5) 1 dX3_paceAt_5 rfl ?_
  refine x_isub (pc := 6) dX3_paceAt_6 ?_
  refine x_callSNr (pc := 7) (as := [aI v1, aI ((gI σ 3 h 2) - 1)]) (rest := []) (fun l => c_11_isIn l true v1 ((gI σ 3 h 2) - 1) σ) md_X11_isIn tk_219 (host := RX11) (by decide +kernel) dX3_paceAt_7 rfl ⟨by decide, by decide, by decide, by decide⟩ ⟨fun _ => rfl, fun _ => Or.inl rfl⟩ rfl (Nat.le_of_ble_eq_true rfl) (fun r1 => ?_)
  show X E _ _ _ _ 0 0 _ _ _ [aI r1] _
  refine x_if_ne (pc := 10) 16 dX3_paceAt_10 (by decide) (fun _ => ?_) (fun _ => ?_)
  ·
    refine x_aload_n (pc := 16) 0 dX3_paceAt_16 rfl rfl ?_
    refine x_getF (pc := 17) (j := h) fd_3_0 rfl rfl tk_417 dX3_paceAt_17 ?_
    refine x_iload_n (pc := 20) 1 dX3_paceAt_20 rfl rfl ?_
    refine x_iconst (pc := 21) 1 dX3_paceAt_21 rfl ?_
    refine x_iadd (pc := 22) dX3_paceAt_22 ?_
    refine x_iald (pc := 23) ar_400 dX3_paceAt_23 (fun m2 => ?_)
    refine x_aload_n (pc := 24) 0 dX3_paceAt_24 rfl rfl ?_
    refine x_getF (pc := 25) (j := h) fd_3_0 rfl rfl tk_417 dX3_paceAt_25 ?_
    refine x_iload_n (pc := 28) 1 dX3_paceAt_28 rfl rfl ?_
    refine x_iald (pc := 29) ar_400 dX3_paceAt_29 (fun m3 => ?_)
    refine x_isub (pc := 30) dX3_paceAt_30 ?_
    refine x_nameI (fun x4 => ?_)
    refine x_istore_n (pc := 31) (als' := [(2, aI x4), (0, aR 3 (some h)), (1, aI v1)]) 2 dX3_paceAt_31 rfl (by decide) rfl ?_
    refine x_iload_n (pc := 32) 2 dX3_paceAt_32 rfl rfl ?_
    refine x_if_ne (pc := 33) 40 dX3_paceAt_33 (by decide) (fun _ => ?_) (fun _ => ?_)
    ·
      refine x_aload_n (pc := 40) 0 dX3_paceAt_40 rfl rfl ?_
      refine x_getF (pc := 41) (j := h) fd_3_1 rfl rfl tk_418 dX3_paceAt_41 ?_
      refine x_iload_n (pc := 44) 1 dX3_paceAt_44 rfl rfl ?_
      refine x_iconst (pc := 45) 1 dX3_paceAt_45 rfl ?_
      refine x_iadd (pc := 46) dX3_paceAt_46 ?_
      refine x_iald (pc := 47) ar_401 dX3_paceAt_47 (fun m5 => ?_)
      refine x_aload_n (pc := 48) 0 dX3_paceAt_48 rfl rfl ?_
      refine x_getF (pc := 49) (j := h) fd_3_1 rfl rfl tk_418 dX3_paceAt_49 ?_
      refine x_iload_n (pc := 52) 1 dX3_paceAt_52 rfl rfl ?_
      refine x_iald (pc := 53) ar_401 dX3_paceAt_53 (fun m6 => ?_)
      refine x_isub (pc := 54) dX3_paceAt_54 ?_
      refine x_sipush (pc := 55) 1000 dX3_paceAt_55 rfl ?_
      refine x_imul (pc := 58) dX3_paceAt_58 ?_
      refine x_iload_n (pc := 59) 2 dX3_paceAt_59 rfl rfl ?_
      refine x_idiv (pc := 60) dX3_paceAt_60 ?_
      exact x_iret (rm := r3_paceAt) rfl rfl dX3_paceAt_61
    ·
      refine x_iconst (pc := 36) 0 dX3_paceAt_36 rfl ?_
      refine x_goto (pc := 37) 61 dX3_paceAt_37 (by decide) ?_
      exact x_iret (rm := r3_paceAt) rfl rfl dX3_paceAt_61
  ·
    refine x_ldc (pc := 13) (v := (-2000000000)) dX3_paceAt_13 tk_712 ?_
    exact x_iret (rm := r3_paceAt) rfl rfl dX3_paceAt_15
theorem c_3_paceAt (l : Launch)  (h : Nat) (v1 : Int32) (σ : zSt) : zMet l yX3_paceAt cX3_paceAt 3 (some .int) r3_paceAt true eI [aR 3 (some h), aI v1] σ (zro (f3_paceAt h v1 σ) σ) :=
  zMet_ofR [(0, aR 3 (some h)), (1, aI v1)] (by decide +kernel) (fun h => by cases h) (Nat.le_of_ble_eq_true rfl) rfl fun E _ => x3_paceAt E  h v1 σ
abbrev r3_isDrying : Room := { frames := 2, cells := 0, slots := 0, locals := 43 }
abbrev m3_isDrying : zMu := (RX3, 3, (some .boolean), r3_isDrying, false)
set_option maxRecDepth 20000 in
theorem xl3_isDrying_2 (E : zEn)   (h0 : Nat) (h1 : Int32) (σ : zSt) {K42 : Option Int32} (hK42 : X E cX3_isDrying m3_isDrying true (zQr E true eI r3_isDrying σ) 0 0 σ [(0, aR 3 (some h0)), (1, aI h1)] 42 [] K42) : ∀ (n : Nat) (v2 : Int32), X E cX3_isDrying m3_isDrying true (zQr E true eI r3_isDrying σ) 0 0 σ [(0, aR 3 (some h0)), (1, aI h1), (2, aI v2)] 2 [] (f3_isDrying_L2 h0 h1 σ K42 n v2) := by
  intro n
  induction n with
  | zero => intros; exact x_none
  | succ n ih =>
    intro v2
    rw [f3_isDrying_L2]
    refine x_iload_n (pc := 2) 2 dX3_isDrying_2 rfl rfl ?_
    refine x_iload_n (pc := 3) 1 dX3_isDrying_3 rfl rfl ?_
    refine x_icmp_ge (pc := 4) 42 dX3_isDrying_4 (by decide) (fun _ => ?_) (fun _ => ?_)
    ·
      exact x_sub [0, 1] rfl (hK42)
    ·
      refine x_aload_n (pc := 7) 0 dX3_isDrying_7 rfl rfl ?_
      refine x_iload_n (pc := 8) 2 dX3_isDrying_8 rfl rfl ?_
      refine x_callVr (pc := 9) (as := [aI v2]) (rest := []) (fun l => c_3_paceAt l h0 v2 σ) md_X3_paceAt ⟨_, _, rfl, by decide⟩ tk_708 tk_709 tk_707 dX3_isDrying_9 rfl ⟨by decide, by decide, by decide, by decide⟩ ⟨fun _ => rfl, fun _ => Or.inl rfl⟩ rfl (Nat.le_of_ble_eq_true rfl) (fun r1 => ?_)
      show X E _ _ _ _ 0 0 _ _ _ [aI r1] _
      refine x_if_lt (pc := 12) 34 dX3_isDrying_12 (by decide) (fun _ => ?_) (fun _ => ?_)
      ·
        refine x_iconst (pc := 34) 0 dX3_isDrying_34 rfl ?_
        exact x_zretC (rm := r3_isDrying) rfl rfl (by decide) dX3_isDrying_35
      ·
        refine x_iload_n (pc := 15) 2 dX3_isDrying_15 rfl rfl ?_
        refine x_join (P := fun (j2 : Option Int32) => X E cX3_isDrying m3_isDrying true (zQr E true eI r3_isDrying σ) 0 0 σ [(0, aR 3 (some h0)), (1, aI h1), (2, aI v2)] 36 [] j2) ?_ ?_
        ·
          refine x_iinc (pc := 36) (als' := [(2, aI (v2 + 1)), (0, aR 3 (some h0)), (1, aI h1)]) 2 2 (c := 1) dX3_isDrying_36 rfl rfl (by decide) rfl ?_
          refine x_nameV (g := fun y5 => [(2, aI y5), (0, aR 3 (some h0)), (1, aI h1)]) (fun x4 => ?_) rfl
          refine x_goto (pc := 39) 2 dX3_isDrying_39 (by decide) ?_
          exact x_sub [1, 2, 0] rfl (ih x4)
        · intro j2 hj3
          refine x_if_le (pc := 16) 36 dX3_isDrying_16 (by decide) (fun _ => ?_) (fun _ => ?_)
          ·
            exact hj3
          ·
            refine x_aload_n (pc := 19) 0 dX3_isDrying_19 rfl rfl ?_
            refine x_iload_n (pc := 20) 2 dX3_isDrying_20 rfl rfl ?_
            refine x_callVr (pc := 21) (as := [aI v2]) (rest := []) (fun l => c_3_paceAt l h0 v2 σ) md_X3_paceAt ⟨_, _, rfl, by decide⟩ tk_708 tk_709 tk_707 dX3_isDrying_21 rfl ⟨by decide, by decide, by decide, by decide⟩ ⟨fun _ => rfl, fun _ => Or.inl rfl⟩ rfl (Nat.le_of_ble_eq_true rfl) (fun r6 => ?_)
            show X E _ _ _ _ 0 0 _ _ _ [aI r6] _
            refine x_aload_n (pc := 24) 0 dX3_isDrying_24 rfl rfl ?_
            refine x_iload_n (pc := 25) 2 dX3_isDrying_25 rfl rfl ?_
            refine x_iconst (pc := 26) 1 dX3_isDrying_26 rfl ?_
            refine x_isub (pc := 27) dX3_isDrying_27 ?_
            refine x_callVr (pc := 28) (as := [aI (v2 - 1)]) (rest := [aI r6]) (fun l => c_3_paceAt l h0 (v2 - 1) σ) md_X3_paceAt ⟨_, _, rfl, by decide⟩ tk_708 tk_709 tk_707 dX3_isDrying_28 rfl ⟨by decide, by decide, by decide, by decide⟩ ⟨fun _ => rfl, fun _ => Or.inl rfl⟩ rfl (Nat.le_of_ble_eq_true rfl) (fun r7 => ?_)
            show X E _ _ _ _ 0 0 _ _ _ [aI r7, aI r6] _
            refine x_icmp_le (pc := 31) 36 dX3_isDrying_31 (by decide) (fun _ => ?_) (fun _ => ?_)
            ·
              exact hj3
            ·
              refine x_iconst (pc := 34) 0 dX3_isDrying_34 rfl ?_
              exact x_zretC (rm := r3_isDrying) rfl rfl (by decide) dX3_isDrying_35
set_option maxRecDepth 20000 in
theorem x3_isDrying (E : zEn)  (h : Nat) (v1 : Int32) (σ : zSt) : X E cX3_isDrying m3_isDrying true (zQr E true eI r3_isDrying σ) 0 0 σ [(0, aR 3 (some h)), (1, aI v1)] 0 [] (f3_isDrying h v1 σ) := by
  unfold f3_isDrying
  refine x_iconst (pc := 0) 0 dX3_isDrying_0 rfl ?_
  refine x_istore_n (pc := 1) (als' := [(2, aI 0), (0, aR 3 (some h)), (1, aI v1)]) 2 dX3_isDrying_1 rfl (by decide) rfl ?_
  refine x_sub [1, 2, 0] rfl (xl3_isDrying_2 E h v1 σ ?_ zfuel 0)
  ·
    refine x_aload_n (pc := 42) 0 dX3_isDrying_42 rfl rfl ?_
    refine x_iload_n (pc := 43) 1 dX3_isDrying_43 rfl rfl ?_
    refine x_iconst (pc := 44) 1 dX3_isDrying_44 rfl ?_
    refine x_isub (pc := 45) dX3_isDrying_45 ?_
    refine x_callVr (pc := 46) (as := [aI (v1 - 1)]) (rest := []) (fun l => c_3_paceAt l h (v1 - 1) σ) md_X3_paceAt ⟨_, _, rfl, by decide⟩ tk_708 tk_709 tk_707 dX3_isDrying_46 rfl ⟨by decide, by decide, by decide, by decide⟩ ⟨fun _ => rfl, fun _ => Or.inl rfl⟩ rfl (Nat.le_of_ble_eq_true rfl) (fun r8 => ?_)
    show X E _ _ _ _ 0 0 _ _ _ [aI r8] _
    refine x_i2l (pc := 49) dX3_isDrying_49 ?_
    refine x_ldc2 (pc := 50) (v := 4) dX3_isDrying_50 tk_713 ?_
    refine x_lmul (pc := 53) dX3_isDrying_53 ?_
    refine x_aload_n (pc := 54) 0 dX3_isDrying_54 rfl rfl ?_
    refine x_iconst (pc := 55) 0 dX3_isDrying_55 rfl ?_
    refine x_callVr (pc := 56) (as := [aI 0]) (rest := [aL ((Int32.toInt64 r8) * 4)]) (fun l => c_3_paceAt l h 0 σ) md_X3_paceAt ⟨_, _, rfl, by decide⟩ tk_708 tk_709 tk_707 dX3_isDrying_56 rfl ⟨by decide, by decide, by decide, by decide⟩ ⟨fun _ => rfl, fun _ => Or.inl rfl⟩ rfl (Nat.le_of_ble_eq_true rfl) (fun r9 => ?_)
    show X E _ _ _ _ 0 0 _ _ _ [aI r9, aL ((Int32.toInt64 r8) * 4)] _
    refine x_i2l (pc := 59) dX3_isDrying_59 ?_
    refine x_lcmp (pc := 60) dX3_isDrying_60 ?_
    refine x_if_gt (pc := 61) 68 dX3_isDrying_61 (by decide) (fun _ => ?_) (fun _ => ?_)
    ·
      refine x_iconst (pc := 68) 0 dX3_isDrying_68 rfl ?_
      exact x_zretC (rm := r3_isDrying) rfl rfl (by decide) dX3_isDrying_69
    ·
      refine x_iconst (pc := 64) 1 dX3_isDrying_64 rfl ?_
      refine x_goto (pc := 65) 69 dX3_isDrying_65 (by decide) ?_
      exact x_zretC (rm := r3_isDrying) rfl rfl (by decide) dX3_isDrying_69
theorem c_3_isDrying (l : Launch)  (h : Nat) (v1 : Int32) (σ : zSt) : zMet l yX3_isDrying cX3_isDrying 3 (some .boolean) r3_isDrying true eI [aR 3 (some h), aI v1] σ (zro (f3_isDrying h v1 σ) σ) :=
  zMet_ofR [(0, aR 3 (some h)), (1, aI v1)] (by decide +kernel) (fun h => by cases h) (Nat.le_of_ble_eq_true rfl) rfl fun E _ => x3_isDrying E  h v1 σ
abbrev r3_swings : Room := { frames := 2, cells := 0, slots := 0, locals := 43 }
abbrev m3_swings : zMu := (RX3, 9, (some .boolean), r3_swings, false)
set_option maxRecDepth 20000 in
theorem xl3_swings_13 (E : zEn)   (h0 : Nat) (h1 : Int32) (σ : zSt) {K136 : Int32 → Int32 → Int32 → Int32 → Option Int32} (hK136 : ∀ (v2 : Int32) (v3 : Int32) (v4 : Int32) (v5 : Int32), X E cX3_swings m3_swings true (zQr E true eI r3_swings σ) 0 0 σ [(2, aI v2), (3, aI v3), (4, aI v4), (5, aI v5)] 136 [] (K136 v2 v3 v4 v5)) : ∀ (n : Nat) (v2 : Int32) (v3 : Int32) (v4 : Int32) (v5 : Int32) (v6 : Int32), X E cX3_swings m3_swings true (zQr E true eI r3_swings σ) 0 0 σ [(0, aR 3 (some h0)), (1, aI h1), (2, aI v2), (3, aI v3), (4, aI v4), (5, aI v5), (6, aI v6)] 13 [] (f3_swings_L13 h0 h1 σ K136 n v2 v3 v4 v5 v6) := by
  intro n
  induction n with
  | zero => intros; exact x_none
  | succ n ih =>
    intro v2 v3 v4 v5 v6
    rw [f3_swings_L13]
    refine x_iload (pc := 13) 6 dX3_swings_13 rfl ?_
    refine x_iload_n (pc := 15) 1 dX3_swings_15 rfl rfl ?_
    refine x_icmp_ge (pc := 16) 136 dX3_swings_16 (by decide) (fun _ => ?_) (fun _ => ?_)
    ·
      exact x_sub [2, 3, 4, 5] rfl (hK136 v2 v3 v4 v5)
    ·
      refine x_aload_n (pc := 19) 0 dX3_swings_19 rfl rfl ?_
      refine x_iload (pc := 20) 6 dX3_swings_20 rfl ?_
      refine x_callVr (pc := 22) (as := [aI v6]) (rest := []) (fun l => c_3_paceAt l h0 v6 σ) md_X3_paceAt ⟨_, _, rfl, by decide⟩ tk_708 tk_709 tk_707 dX3_swings_22 rfl ⟨by decide, by decide, by decide, by decide⟩ ⟨fun _ => rfl, fun _ => Or.inl rfl⟩ rfl (Nat.le_of_ble_eq_true rfl) (fun r1 => ?_)
      show X E _ _ _ _ 0 0 _ _ _ [aI r1] _
      refine x_istore (pc := 25) (als' := [(7, aI r1), (0, aR 3 (some h0)), (1, aI h1), (2, aI v2), (3, aI v3), (4, aI v4), (5, aI v5), (6, aI v6)]) 7 dX3_swings_25 (by decide) rfl ?_
      refine x_aload_n (pc := 27) 0 dX3_swings_27 rfl rfl ?_
      refine x_getF (pc := 28) (j := h0) fd_3_0 rfl rfl tk_417 dX3_swings_28 ?_
      refine x_iload (pc := 31) 6 dX3_swings_31 rfl ?_
      refine x_iconst (pc := 33) 1 dX3_swings_33 rfl ?_
      refine x_iadd (pc := 34) dX3_swings_34 ?_
      refine x_iald (pc := 35) ar_400 dX3_swings_35 (fun m2 => ?_)
      refine x_bipush (pc := 36) 30 dX3_swings_36 rfl ?_
      refine x_idivC (pc := 38) dX3_swings_38 (by decide) ?_
      refine x_bipush (pc := 39) 12 dX3_swings_39 rfl ?_
      refine x_iremC (pc := 41) dX3_swings_41 (by decide) ?_
      refine x_bipush (pc := 42) 6 dX3_swings_42 rfl ?_
      refine x_mg (c := (6 : Int32) ≤ (zop_irem (zop_idiv (gI σ 400 h0 m2) 30) 12)) (a := 0) (b := 1) 52 [] ?_ (fun hm3 => ?_)
      ·
        refine x_nameI (fun x7 => ?_)
        refine x_istore (pc := 52) (als' := [(8, aI x7), (7, aI r1), (0, aR 3 (some h0)), (1, aI h1), (2, aI v2), (3, aI v3), (4, aI v4), (5, aI v5), (6, aI v6)]) 8 dX3_swings_52 (by decide) rfl ?_
        refine x_iload_n (pc := 54) 2 dX3_swings_54 rfl rfl ?_
        refine x_iload (pc := 55) 8 dX3_swings_55 rfl ?_
        refine x_mg (c := x7 = 0) (a := 0) (b := (if r1 ≤ 0 then 0 else 1)) 70 [aI v2] ?_ (fun hm8 => ?_)
        ·
          refine x_ior (pc := 70) dX3_swings_70 ?_
          refine x_nameI (fun x15 => ?_)
          refine x_istore_n (pc := 71) (als' := [(2, aI x15), (8, aI x7), (7, aI r1), (0, aR 3 (some h0)), (1, aI h1), (3, aI v3), (4, aI v4), (5, aI v5), (6, aI v6)]) 2 dX3_swings_71 rfl (by decide) rfl ?_
          refine x_iload_n (pc := 72) 3 dX3_swings_72 rfl rfl ?_
          refine x_iload (pc := 73) 8 dX3_swings_73 rfl ?_
          refine x_mg (c := x7 = 0) (a := 0) (b := (if 0 ≤ r1 then 0 else 1)) 88 [aI v3] ?_ (fun hm16 => ?_)
          ·
            refine x_ior (pc := 88) dX3_swings_88 ?_
            refine x_nameI (fun x23 => ?_)
            refine x_istore_n (pc := 89) (als' := [(3, aI x23), (2, aI x15), (8, aI x7), (7, aI r1), (0, aR 3 (some h0)), (1, aI h1), (4, aI v4), (5, aI v5), (6, aI v6)]) 3 dX3_swings_89 rfl (by decide) rfl ?_
            refine x_iload (pc := 90) 4 dX3_swings_90 rfl ?_
            refine x_iload (pc := 92) 8 dX3_swings_92 rfl ?_
            refine x_mg (c := x7 = 0) (a := (if r1 ≤ 0 then 0 else 1)) (b := 0) 107 [aI v4] ?_ (fun hm24 => ?_)
            ·
              refine x_ior (pc := 107) dX3_swings_107 ?_
              refine x_nameI (fun x31 => ?_)
              refine x_istore (pc := 108) (als' := [(4, aI x31), (3, aI x23), (2, aI x15), (8, aI x7), (7, aI r1), (0, aR 3 (some h0)), (1, aI h1), (5, aI v5), (6, aI v6)]) 4 dX3_swings_108 (by decide) rfl ?_
              refine x_iload (pc := 110) 5 dX3_swings_110 rfl ?_
              refine x_iload (pc := 112) 8 dX3_swings_112 rfl ?_
              refine x_mg (c := x7 = 0) (a := (if 0 ≤ r1 then 0 else 1)) (b := 0) 127 [aI v5] ?_ (fun hm32 => ?_)
              ·
                refine x_ior (pc := 127) dX3_swings_127 ?_
                refine x_nameI (fun x39 => ?_)
                refine x_istore (pc := 128) (als' := [(5, aI x39), (4, aI x31), (3, aI x23), (2, aI x15), (8, aI x7), (7, aI r1), (0, aR 3 (some h0)), (1, aI h1), (6, aI v6)]) 5 dX3_swings_128 (by decide) rfl ?_
                refine x_iinc (pc := 130) (als' := [(6, aI (v6 + 1)), (5, aI x39), (4, aI x31), (3, aI x23), (2, aI x15), (8, aI x7), (7, aI r1), (0, aR 3 (some h0)), (1, aI h1)]) 6 8 (c := 1) dX3_swings_130 rfl rfl (by decide) rfl ?_
                refine x_nameV (g := fun y41 => [(6, aI y41), (5, aI x39), (4, aI x31), (3, aI x23), (2, aI x15), (8, aI x7), (7, aI r1), (0, aR 3 (some h0)), (1, aI h1)]) (fun x40 => ?_) rfl
                refine x_goto (pc := 133) 13 dX3_swings_133 (by decide) ?_
                exact x_sub [7, 8, 4, 3, 2, 1, 0] rfl (ih x15 x23 x31 x39 x40)
              ·
                refine x_same (c := x7 = 0) ?_
                refine x_if_ne (pc := 114) 126 dX3_swings_114 (by decide) (fun hc33 => ?_) (fun hc33 => ?_)
                ·
                  have hm35 := x_topF hc33 hm32
                  refine x_iconst (pc := 126) 0 dX3_swings_126 rfl ?_
                  exact hm35
                ·
                  have hm34 := x_topT hc33 hm32
                  refine x_iload (pc := 117) 7 dX3_swings_117 rfl ?_
                  refine x_same (c := 0 ≤ r1) ?_
                  refine x_if_ge (pc := 119) 126 dX3_swings_119 (by decide) (fun hc36 => ?_) (fun hc36 => ?_)
                  ·
                    have hm37 := x_topT hc36 hm34
                    refine x_iconst (pc := 126) 0 dX3_swings_126 rfl ?_
                    exact hm37
                  ·
                    have hm38 := x_topF hc36 hm34
                    refine x_iconst (pc := 122) 1 dX3_swings_122 rfl ?_
                    refine x_goto (pc := 123) 127 dX3_swings_123 (by decide) ?_
                    exact hm38
            ·
              refine x_same (c := x7 = 0) ?_
              refine x_if_ne (pc := 94) 106 dX3_swings_94 (by decide) (fun hc25 => ?_) (fun hc25 => ?_)
              ·
                have hm27 := x_topF hc25 hm24
                refine x_iconst (pc := 106) 0 dX3_swings_106 rfl ?_
                exact hm27
              ·
                have hm26 := x_topT hc25 hm24
                refine x_iload (pc := 97) 7 dX3_swings_97 rfl ?_
                refine x_same (c := r1 ≤ 0) ?_
                refine x_if_le (pc := 99) 106 dX3_swings_99 (by decide) (fun hc28 => ?_) (fun hc28 => ?_)
                ·
                  have hm29 := x_topT hc28 hm26
                  refine x_iconst (pc := 106) 0 dX3_swings_106 rfl ?_
                  exact hm29
                ·
                  have hm30 := x_topF hc28 hm26
                  refine x_iconst (pc := 102) 1 dX3_swings_102 rfl ?_
                  refine x_goto (pc := 103) 107 dX3_swings_103 (by decide) ?_
                  exact hm30
          ·
            refine x_same (c := x7 = 0) ?_
            refine x_if_eq (pc := 75) 87 dX3_swings_75 (by decide) (fun hc17 => ?_) (fun hc17 => ?_)
            ·
              have hm18 := x_topT hc17 hm16
              refine x_iconst (pc := 87) 0 dX3_swings_87 rfl ?_
              exact hm18
            ·
              have hm19 := x_topF hc17 hm16
              refine x_iload (pc := 78) 7 dX3_swings_78 rfl ?_
              refine x_same (c := 0 ≤ r1) ?_
              refine x_if_ge (pc := 80) 87 dX3_swings_80 (by decide) (fun hc20 => ?_) (fun hc20 => ?_)
              ·
                have hm21 := x_topT hc20 hm19
                refine x_iconst (pc := 87) 0 dX3_swings_87 rfl ?_
                exact hm21
              ·
                have hm22 := x_topF hc20 hm19
                refine x_iconst (pc := 83) 1 dX3_swings_83 rfl ?_
                refine x_goto (pc := 84) 88 dX3_swings_84 (by decide) ?_
                exact hm22
        ·
          refine x_same (c := x7 = 0) ?_
          refine x_if_eq (pc := 57) 69 dX3_swings_57 (by decide) (fun hc9 => ?_) (fun hc9 => ?_)
          ·
            have hm10 := x_topT hc9 hm8
            refine x_iconst (pc := 69) 0 dX3_swings_69 rfl ?_
            exact hm10
          ·
            have hm11 := x_topF hc9 hm8
            refine x_iload (pc := 60) 7 dX3_swings_60 rfl ?_
            refine x_same (c := r1 ≤ 0) ?_
            refine x_if_le (pc := 62) 69 dX3_swings_62 (by decide) (fun hc12 => ?_) (fun hc12 => ?_)
            ·
              have hm13 := x_topT hc12 hm11
              refine x_iconst (pc := 69) 0 dX3_swings_69 rfl ?_
              exact hm13
            ·
              have hm14 := x_topF hc12 hm11
              refine x_iconst (pc := 65) 1 dX3_swings_65 rfl ?_
              refine x_goto (pc := 66) 70 dX3_swings_66 (by decide) ?_
              exact hm14
      ·
        refine x_same (c := (6 : Int32) ≤ (zop_irem (zop_idiv (gI σ 400 h0 m2) 30) 12)) ?_
        refine x_icmp_ge (pc := 44) 51 dX3_swings_44 (by decide) (fun hc4 => ?_) (fun hc4 => ?_)
        ·
          have hm5 := x_topT hc4 hm3
          refine x_iconst (pc := 51) 0 dX3_swings_51 rfl ?_
          exact hm5
        ·
          have hm6 := x_topF hc4 hm3
          refine x_iconst (pc := 47) 1 dX3_swings_47 rfl ?_
          refine x_goto (pc := 48) 52 dX3_swings_48 (by decide) ?_
          exact hm6
set_option maxRecDepth 20000 in
theorem x3_swings (E : zEn)  (h : Nat) (v1 : Int32) (σ : zSt) : X E cX3_swings m3_swings true (zQr E true eI r3_swings σ) 0 0 σ [(0, aR 3 (some h)), (1, aI v1)] 0 [] (f3_swings h v1 σ) := by
  unfold f3_swings
  refine x_iconst (pc := 0) 0 dX3_swings_0 rfl ?_
  refine x_istore_n (pc := 1) (als' := [(2, aI 0), (0, aR 3 (some h)), (1, aI v1)]) 2 dX3_swings_1 rfl (by decide) rfl ?_
  refine x_iconst (pc := 2) 0 dX3_swings_2 rfl ?_
  refine x_istore_n (pc := 3) (als' := [(3, aI 0), (2, aI 0), (0, aR 3 (some h)), (1, aI v1)]) 3 dX3_swings_3 rfl (by decide) rfl ?_
  refine x_iconst (pc := 4) 0 dX3_swings_4 rfl ?_
  refine x_istore (pc := 5) (als' := [(4, aI 0), (3, aI 0), (2, aI 0), (0, aR 3 (some h)), (1, aI v1)]) 4 dX3_swings_5 (by decide) rfl ?_
  refine x_iconst (pc := 7) 0 dX3_swings_7 rfl ?_
  refine x_istore (pc := 8) (als' := [(5, aI 0), (4, aI 0), (3, aI 0), (2, aI 0), (0, aR 3 (some h)), (1, aI v1)]) 5 dX3_swings_8 (by decide) rfl ?_
  refine x_iconst (pc := 10) 0 dX3_swings_10 rfl ?_
  refine x_istore (pc := 11) (als' := [(6, aI 0), (5, aI 0), (4, aI 0), (3, aI 0), (2, aI 0), (0, aR 3 (some h)), (1, aI v1)]) 6 dX3_swings_11 (by decide) rfl ?_
  refine x_sub [5, 6, 4, 3, 2, 1, 0] rfl (xl3_swings_13 E h v1 σ (fun a42 a43 a44 a45 => ?_) zfuel 0 0 0 0 0)
  ·
    refine x_iload_n (pc := 136) 2 dX3_swings_136 rfl rfl ?_
    refine x_join (P := fun (j46 : Option Int32) => X E cX3_swings m3_swings true (zQr E true eI r3_swings σ) 0 0 σ [] 154 [] j46) ?_ ?_
    ·
      refine x_iconst (pc := 154) 1 dX3_swings_154 rfl ?_
      refine x_goto (pc := 155) 159 dX3_swings_155 (by decide) ?_
      exact x_zretC (rm := r3_swings) rfl rfl (by decide) dX3_swings_159
    · intro j46 hj47
      refine x_join (P := fun (j48 : Option Int32) => X E cX3_swings m3_swings true (zQr E true eI r3_swings σ) 0 0 σ [(3, aI a43), (4, aI a44)] 145 [] j48) ?_ ?_
      ·
        refine x_iload_n (pc := 145) 3 dX3_swings_145 rfl rfl ?_
        refine x_join (P := fun (j50 : Option Int32) => X E cX3_swings m3_swings true (zQr E true eI r3_swings σ) 0 0 σ [] 158 [] j50) ?_ ?_
        ·
          refine x_iconst (pc := 158) 0 dX3_swings_158 rfl ?_
          exact x_zretC (rm := r3_swings) rfl rfl (by decide) dX3_swings_159
        · intro j50 hj51
          refine x_if_eq (pc := 146) 158 dX3_swings_146 (by decide) (fun _ => ?_) (fun _ => ?_)
          ·
            exact x_sub [] rfl (hj51)
          ·
            refine x_iload (pc := 149) 4 dX3_swings_149 rfl ?_
            refine x_if_eq (pc := 151) 158 dX3_swings_151 (by decide) (fun _ => ?_) (fun _ => ?_)
            ·
              exact x_sub [] rfl (hj51)
            ·
              exact x_sub [] rfl (hj47)
      · intro j48 hj49
        refine x_if_eq (pc := 137) 145 dX3_swings_137 (by decide) (fun _ => ?_) (fun _ => ?_)
        ·
          exact x_sub [1, 2] rfl (hj49)
        ·
          refine x_iload (pc := 140) 5 dX3_swings_140 rfl ?_
          refine x_if_ne (pc := 142) 154 dX3_swings_142 (by decide) (fun _ => ?_) (fun _ => ?_)
          ·
            exact x_sub [] rfl (hj47)
          ·
            exact x_sub [1, 2] rfl (hj49)
theorem c_3_swings (l : Launch)  (h : Nat) (v1 : Int32) (σ : zSt) : zMet l yX3_swings cX3_swings 9 (some .boolean) r3_swings true eI [aR 3 (some h), aI v1] σ (zro (f3_swings h v1 σ) σ) :=
  zMet_ofR [(0, aR 3 (some h)), (1, aI v1)] (by decide +kernel) (fun h => by cases h) (Nat.le_of_ble_eq_true rfl) rfl fun E _ => x3_swings E  h v1 σ
abbrev r3_quickens : Room := { frames := 2, cells := 0, slots := 0, locals := 43 }
abbrev m3_quickens : zMu := (RX3, 3, (some .boolean), r3_quickens, false)
set_option maxRecDepth 20000 in
theorem x3_quickens (E : zEn)  (h : Nat) (v1 : Int32) (σ : zSt) : X E cX3_quickens m3_quickens true (zQr E true eI r3_quickens σ) 0 0 σ [(0, aR 3 (some h)), (1, aI v1)] 0 [] (f3_quickens h v1 σ) := by
  unfold f3_quickens
  refine x_aload_n (pc := 0) 0 dX3_quickens_0 rfl rfl ?_
  refine x_iload_n (pc := 1) 1 dX3_quickens_1 rfl rfl ?_
  refine x_iconst (pc := 2) 1 dX3_quickens_2 rfl ?_
  refine x_isub (pc := 3) dX3_quickens_3 ?_
  refine x_callVr (pc := 4) (as := [aI (v1 - 1)]) (rest := []) (fun l => c_3_paceAt l h (v1 - 1) σ) md_X3_paceAt ⟨_, _, rfl, by decide⟩ tk_708 tk_709 tk_707 dX3_quickens_4 rfl ⟨by decide, by decide, by decide, by decide⟩ ⟨fun _ => rfl, fun _ => Or.inl rfl⟩ rfl (Nat.le_of_ble_eq_true rfl) (fun r1 => ?_)
  show X E _ _ _ _ 0 0 _ _ _ [aI r1] _
  refine x_istore_n (pc := 7) (als' := [(2, aI r1), (0, aR 3 (some h)), (1, aI v1)]) 2 dX3_quickens_7 rfl (by decide) rfl ?_
  refine x_iload_n (pc := 8) 2 dX3_quickens_8 rfl rfl ?_
  refine x_aload_n (pc := 9) 0 dX3_quickens_9 rfl rfl ?_
  refine x_iconst (pc := 10) 0 dX3_quickens_10 rfl ?_
  refine x_callVr (pc := 11) (as := [aI 0]) (rest := [aI r1]) (fun l => c_3_paceAt l h 0 σ) md_X3_paceAt ⟨_, _, rfl, by decide⟩ tk_708 tk_709 tk_707 dX3_quickens_11 rfl ⟨by decide, by decide, by decide, by decide⟩ ⟨fun _ => rfl, fun _ => Or.inl rfl⟩ rfl (Nat.le_of_ble_eq_true rfl) (fun r2 => ?_)
  show X E _ _ _ _ 0 0 _ _ _ [aI r2, aI r1] _
  refine x_join (P := fun (j3 : Option Int32) => X E cX3_quickens m3_quickens true (zQr E true eI r3_quickens σ) 0 0 σ [] 25 [] j3) ?_ ?_
  ·
    refine x_iconst (pc := 25) 0 dX3_quickens_25 rfl ?_
    exact x_zretC (rm := r3_quickens) rfl rfl (by decide) dX3_quickens_26
  · intro j3 hj4
    refine x_icmp_le (pc := 14) 25 dX3_quickens_14 (by decide) (fun _ => ?_) (fun _ => ?_)
    ·
      exact x_sub [] rfl (hj4)
    ·
      refine x_iload_n (pc := 17) 2 dX3_quickens_17 rfl rfl ?_
      refine x_if_le (pc := 18) 25 dX3_quickens_18 (by decide) (fun _ => ?_) (fun _ => ?_)
      ·
        exact x_sub [] rfl (hj4)
      ·
        refine x_iconst (pc := 21) 1 dX3_quickens_21 rfl ?_
        refine x_goto (pc := 22) 26 dX3_quickens_22 (by decide) ?_
        exact x_zretC (rm := r3_quickens) rfl rfl (by decide) dX3_quickens_26
theorem c_3_quickens (l : Launch)  (h : Nat) (v1 : Int32) (σ : zSt) : zMet l yX3_quickens cX3_quickens 3 (some .boolean) r3_quickens true eI [aR 3 (some h), aI v1] σ (zro (f3_quickens h v1 σ) σ) :=
  zMet_ofR [(0, aR 3 (some h)), (1, aI v1)] (by decide +kernel) (fun h => by cases h) (Nat.le_of_ble_eq_true rfl) rfl fun E _ => x3_quickens E  h v1 σ
abbrev r3_says : Room := { frames := 3, cells := 0, slots := 0, locals := 71 }
abbrev m3_says : zMu := (RX3, 3, (some .int), r3_says, false)
set_option maxRecDepth 20000 in
theorem xl3_says_2 (E : zEn)   (h0 : Nat) (h1 : Int32) (σ : zSt) {K26 : Int32 → Option Int32} (hK26 : ∀ (v2 : Int32), X E cX3_says m3_says true (zQr E true eI r3_says σ) 0 0 σ [(0, aR 3 (some h0)), (2, aI v2)] 26 [] (K26 v2)) : ∀ (n : Nat) (v2 : Int32), X E cX3_says m3_says true (zQr E true eI r3_says σ) 0 0 σ [(0, aR 3 (some h0)), (1, aI h1), (2, aI v2)] 2 [] (f3_says_L2 h0 h1 σ K26 n v2) := by
  intro n
  induction n with
  | zero => intros; exact x_none
  | succ n ih =>
    intro v2
    rw [f3_says_L2]
    refine x_iload_n (pc := 2) 2 dX3_says_2 rfl rfl ?_
    refine x_aload_n (pc := 3) 0 dX3_says_3 rfl rfl ?_
    refine x_getI (pc := 4) fd_3_2 tk_419 dX3_says_4 ?_
    refine x_icmp_ge (pc := 7) 26 dX3_says_7 (by decide) (fun _ => ?_) (fun _ => ?_)
    ·
      exact x_sub [0, 2] rfl (hK26 v2)
    ·
      refine x_aload_n (pc := 10) 0 dX3_says_10 rfl rfl ?_
      refine x_getF (pc := 11) (j := h0) fd_3_0 rfl rfl tk_417 dX3_says_11 ?_
      refine x_iload_n (pc := 14) 2 dX3_says_14 rfl rfl ?_
      refine x_iald (pc := 15) ar_400 dX3_says_15 (fun m1 => ?_)
      refine x_iload_n (pc := 16) 1 dX3_says_16 rfl rfl ?_
      refine x_icmp_gt (pc := 17) 26 dX3_says_17 (by decide) (fun _ => ?_) (fun _ => ?_)
      ·
        exact x_sub [0, 2] rfl (hK26 v2)
      ·
        refine x_iinc (pc := 20) (als' := [(2, aI (v2 + 1)), (0, aR 3 (some h0)), (1, aI h1)]) 2 2 (c := 1) dX3_says_20 rfl rfl (by decide) rfl ?_
        refine x_nameV (g := fun y3 => [(2, aI y3), (0, aR 3 (some h0)), (1, aI h1)]) (fun x2 => ?_) rfl
        refine x_goto (pc := 23) 2 dX3_says_23 (by decide) ?_
        exact x_sub [1, 2, 0] rfl (ih x2)
set_option maxRecDepth 20000 in
theorem x3_says (E : zEn)  (h : Nat) (v1 : Int32) (σ : zSt) : X E cX3_says m3_says true (zQr E true eI r3_says σ) 0 0 σ [(0, aR 3 (some h)), (1, aI v1)] 0 [] (f3_says h v1 σ) := by
  unfold f3_says
  refine x_iconst (pc := 0) 0 dX3_says_0 rfl ?_
  refine x_istore_n (pc := 1) (als' := [(2, aI 0), (0, aR 3 (some h)), (1, aI v1)]) 2 dX3_says_1 rfl (by decide) rfl ?_
  refine x_sub [1, 2, 0] rfl (xl3_says_2 E h v1 σ (fun a4 => ?_) zfuel 0)
  ·
    refine x_iload_n (pc := 26) 2 dX3_says_26 rfl rfl ?_
    refine x_iconst (pc := 27) 3 dX3_says_27 rfl ?_
    refine x_icmp_ge (pc := 28) 33 dX3_says_28 (by decide) (fun _ => ?_) (fun _ => ?_)
    ·
      refine x_aload_n (pc := 33) 0 dX3_says_33 rfl rfl ?_
      refine x_iload_n (pc := 34) 2 dX3_says_34 rfl rfl ?_
      refine x_iconst (pc := 35) 1 dX3_says_35 rfl ?_
      refine x_isub (pc := 36) dX3_says_36 ?_
      refine x_callVr (pc := 37) (as := [aI (a4 - 1)]) (rest := []) (fun l => c_3_isDrying l h (a4 - 1) σ) md_X3_isDrying ⟨_, _, rfl, by decide⟩ tk_705 tp_20 tk_703 dX3_says_37 rfl ⟨by decide, by decide, by decide, by decide⟩ ⟨fun _ => rfl, fun _ => Or.inl rfl⟩ rfl (Nat.le_of_ble_eq_true rfl) (fun r5 => ?_)
      show X E _ _ _ _ 0 0 _ _ _ [aI r5] _
      refine x_if_eq (pc := 40) 45 dX3_says_40 (by decide) (fun _ => ?_) (fun _ => ?_)
      ·
        refine x_aload_n (pc := 45) 0 dX3_says_45 rfl rfl ?_
        refine x_iload_n (pc := 46) 2 dX3_says_46 rfl rfl ?_
        refine x_iconst (pc := 47) 1 dX3_says_47 rfl ?_
        refine x_isub (pc := 48) dX3_says_48 ?_
        refine x_callVr (pc := 49) (as := [aI (a4 - 1)]) (rest := []) (fun l => c_3_swings l h (a4 - 1) σ) md_X3_swings ⟨_, _, rfl, by decide⟩ tk_716 tp_21 tk_714 dX3_says_49 rfl ⟨by decide, by decide, by decide, by decide⟩ ⟨fun _ => rfl, fun _ => Or.inl rfl⟩ rfl (Nat.le_of_ble_eq_true rfl) (fun r6 => ?_)
        show X E _ _ _ _ 0 0 _ _ _ [aI r6] _
        refine x_join (P := fun (j7 : Option Int32) => X E cX3_says m3_says true (zQr E true eI r3_says σ) 0 0 σ [] 65 [] j7) ?_ ?_
        ·
          refine x_iconst (pc := 65) 2 dX3_says_65 rfl ?_
          refine x_goto (pc := 66) 70 dX3_says_66 (by decide) ?_
          exact x_iret (rm := r3_says) rfl rfl dX3_says_70
        · intro j7 hj8
          refine x_if_ne (pc := 52) 65 dX3_says_52 (by decide) (fun _ => ?_) (fun _ => ?_)
          ·
            exact x_sub [] rfl (hj8)
          ·
            refine x_aload_n (pc := 55) 0 dX3_says_55 rfl rfl ?_
            refine x_iload_n (pc := 56) 2 dX3_says_56 rfl rfl ?_
            refine x_iconst (pc := 57) 1 dX3_says_57 rfl ?_
            refine x_isub (pc := 58) dX3_says_58 ?_
            refine x_callVr (pc := 59) (as := [aI (a4 - 1)]) (rest := []) (fun l => c_3_quickens l h (a4 - 1) σ) md_X3_quickens ⟨_, _, rfl, by decide⟩ tk_720 tp_22 tk_718 dX3_says_59 rfl ⟨by decide, by decide, by decide, by decide⟩ ⟨fun _ => rfl, fun _ => Or.inl rfl⟩ rfl (Nat.le_of_ble_eq_true rfl) (fun r9 => ?_)
            show X E _ _ _ _ 0 0 _ _ _ [aI r9] _
            refine x_if_eq (pc := 62) 69 dX3_says_62 (by decide) (fun _ => ?_) (fun _ => ?_)
            ·
              refine x_iconst (pc := 69) 0 dX3_says_69 rfl ?_
              exact x_iret (rm := r3_says) rfl rfl dX3_says_70
            ·
              exact x_sub [] rfl (hj8)
      ·
        refine x_iconst (pc := 43) 1 dX3_says_43 rfl ?_
        exact x_iret (rm := r3_says) rfl rfl dX3_says_44
    ·
      refine x_iconst (pc := 31) 0 dX3_says_31 rfl ?_
      exact x_iret (rm := r3_says) rfl rfl dX3_says_32
theorem c_3_says (l : Launch)  (h : Nat) (v1 : Int32) (σ : zSt) : zMet l yX3_says cX3_says 3 (some .int) r3_says true eI [aR 3 (some h), aI v1] σ (zro (f3_says h v1 σ) σ) :=
  zMet_ofR [(0, aR 3 (some h)), (1, aI v1)] (by decide +kernel) (fun h => by cases h) (Nat.le_of_ble_eq_true rfl) rfl fun E _ => x3_says E  h v1 σ
abbrev r1_gaugeSays : Room := { frames := 4, cells := 0, slots := 0, locals := 93 }
abbrev m1_gaugeSays : zMu := (RX1, 2, (some .int), r1_gaugeSays, false)
set_option maxRecDepth 20000 in
theorem x1_gaugeSays (E : zEn)  (h : Nat) (v1 : Int32) (σ : zSt) : X E cX1_gaugeSays m1_gaugeSays true (zQr E true eI r1_gaugeSays σ) 0 0 σ [(0, aR 1 (some h)), (1, aI v1)] 0 [] (f1_gaugeSays h v1 σ) := by
  unfold f1_gaugeSays
  refine x_aload_n (pc := 0) 0 dX1_gaugeSays_0 rfl rfl ?_
  refine x_getR (pc := 1) fd_1_8 tk_447 dX1_gaugeSays_1 ?_
  refine x_nameR (fun o1 => ?_)
  rcases o1 with _ | i2
  ·
    refine x_ifnonnullN (pc := 4) dX1_gaugeSays_4 ?_
    refine x_iconst (pc := 7) 0 dX1_gaugeSays_7 rfl ?_
    refine x_goto (pc := 8) 19 dX1_gaugeSays_8 (by decide) ?_
    exact x_iret (rm := r1_gaugeSays) rfl rfl dX1_gaugeSays_19
  ·
    refine x_ifnonnullS (pc := 4) 11 dX1_gaugeSays_4 (by decide) ?_
    refine x_aload_n (pc := 11) 0 dX1_gaugeSays_11 rfl rfl ?_
    refine x_getR (pc := 12) fd_1_8 tk_447 dX1_gaugeSays_12 ?_
    refine x_nameR (fun o3 => ?_)
    refine x_iload_n (pc := 15) 1 dX1_gaugeSays_15 rfl rfl ?_
    rcases o3 with _ | i4
    · exact x_none
    ·
      skip
      refine x_zocS ?_
      refine x_callVr (pc := 16) (as := [aI v1]) (rest := []) (fun l => c_3_says l i4 v1 σ) md_X3_says ⟨_, _, rfl, by decide⟩ tk_700 tk_701 tk_739 dX1_gaugeSays_16 rfl ⟨by decide, by decide, by decide, by decide⟩ ⟨fun _ => rfl, fun _ => Or.inl rfl⟩ rfl (Nat.le_of_ble_eq_true rfl) (fun r5 => ?_)
      show X E _ _ _ _ 0 0 _ _ _ [aI r5] _
      exact x_iret (rm := r1_gaugeSays) rfl rfl dX1_gaugeSays_19
theorem c_1_gaugeSays (l : Launch)  (h : Nat) (v1 : Int32) (σ : zSt) : zMet l yX1_gaugeSays cX1_gaugeSays 2 (some .int) r1_gaugeSays true eI [aR 1 (some h), aI v1] σ (zro (f1_gaugeSays h v1 σ) σ) :=
  zMet_ofR [(0, aR 1 (some h)), (1, aI v1)] (by decide +kernel) (fun h => by cases h) (Nat.le_of_ble_eq_true rfl) rfl fun E _ => x1_gaugeSays E  h v1 σ
abbrev r1_promiseOn : Room := { frames := 0, cells := 0, slots := 0, locals := 0 }
abbrev m1_promiseOn : zMu := (RX1, 2, (some .int), r1_promiseOn, false)
set_option maxRecDepth 20000 in
theorem x1_promiseOn (E : zEn)  (q : Bool) (h : Nat) (v1 : Int32) (σ : zSt) : X E cX1_promiseOn m1_promiseOn q (zQr E q eI r1_promiseOn σ) 0 0 σ [(0, aR 1 (some h)), (1, aI v1)] 0 [] (f1_promiseOn h v1 σ) := by
  unfold f1_promiseOn
  refine x_aload_n (pc := 0) 0 dX1_promiseOn_0 rfl rfl ?_
  refine x_getI (pc := 1) fd_1_13 tk_457 dX1_promiseOn_1 ?_
  refine x_iconst (pc := 4) 1 dX1_promiseOn_4 rfl ?_
  refine x_join (P := fun (j1 : Option Int32) => X E cX1_promiseOn m1_promiseOn q (zQr E q eI r1_promiseOn σ) 0 0 σ [(0, aR 1 (some h))] 20 [] j1) ?_ ?_
  ·
    refine x_aload_n (pc := 20) 0 dX1_promiseOn_20 rfl rfl ?_
    refine x_getI (pc := 21) fd_1_13 tk_457 dX1_promiseOn_21 ?_
    exact x_iret (rm := r1_promiseOn) rfl rfl dX1_promiseOn_24
  · intro j1 hj2
    refine x_icmp_ne (pc := 5) 20 dX1_promiseOn_5 (by decide) (fun _ => ?_) (fun _ => ?_)
    ·
      exact x_sub [0] rfl (hj2)
    ·
      refine x_iload_n (pc := 8) 1 dX1_promiseOn_8 rfl rfl ?_
      refine x_aload_n (pc := 9) 0 dX1_promiseOn_9 rfl rfl ?_
      refine x_getI (pc := 10) fd_1_12 tk_455 dX1_promiseOn_10 ?_
      refine x_icmp_le (pc := 13) 20 dX1_promiseOn_13 (by decide) (fun _ => ?_) (fun _ => ?_)
      ·
        exact x_sub [0] rfl (hj2)
      ·
        refine x_iconst (pc := 16) 3 dX1_promiseOn_16 rfl ?_
        refine x_goto (pc := 17) 24 dX1_promiseOn_17 (by decide) ?_
        exact x_iret (rm := r1_promiseOn) rfl rfl dX1_promiseOn_24
theorem c_1_promiseOn (l : Launch)  (q : Bool) (h : Nat) (v1 : Int32) (σ : zSt) : zMet l yX1_promiseOn cX1_promiseOn 2 (some .int) r1_promiseOn q eI [aR 1 (some h), aI v1] σ (zro (f1_promiseOn h v1 σ) σ) :=
  zMet_ofR [(0, aR 1 (some h)), (1, aI v1)] (by decide +kernel) (fun h => by cases h) (Nat.le_of_ble_eq_true rfl) rfl fun E _ => x1_promiseOn E  q h v1 σ
abbrev r1_brokenBy : Room := { frames := 1, cells := 0, slots := 0, locals := 21 }
abbrev m1_brokenBy : zMu := (RX1, 2, (some .int), r1_brokenBy, false)
set_option maxRecDepth 20000 in
theorem x1_brokenBy (E : zEn)  (q : Bool) (h : Nat) (v1 : Int32) (σ : zSt) : X E cX1_brokenBy m1_brokenBy q (zQr E q eI r1_brokenBy σ) 0 0 σ [(0, aR 1 (some h)), (1, aI v1)] 0 [] (f1_brokenBy h v1 σ) := by
  unfold f1_brokenBy
  refine x_aload_n (pc := 0) 0 dX1_brokenBy_0 rfl rfl ?_
  refine x_getI (pc := 1) fd_1_14 tk_458 dX1_brokenBy_1 ?_
  refine x_aload_n (pc := 4) 0 dX1_brokenBy_4 rfl rfl ?_
  refine x_iload_n (pc := 5) 1 dX1_brokenBy_5 rfl rfl ?_
  refine x_callVr (pc := 6) (as := [aI v1]) (rest := [aI (gI σ 1 h 14)]) (fun l => c_1_promiseOn l q h v1 σ) md_X1_promiseOn ⟨_, _, rfl, by decide⟩ tk_351 tk_352 tk_350 dX1_brokenBy_6 rfl ⟨by decide, by decide, by decide, by decide⟩ ⟨fun h => h, fun h => Or.inl h⟩ rfl (Nat.le_of_ble_eq_true rfl) (fun r1 => ?_)
  show X E _ _ _ _ 0 0 _ _ _ [aI r1, aI (gI σ 1 h 14)] _
  refine x_iconst (pc := 9) 3 dX1_brokenBy_9 rfl ?_
  refine x_mg (c := r1 = 3) (a := 1) (b := 0) 18 [aI (gI σ 1 h 14)] ?_ (fun hm2 => ?_)
  ·
    refine x_iadd (pc := 18) dX1_brokenBy_18 ?_
    exact x_iret (rm := r1_brokenBy) rfl rfl dX1_brokenBy_19
  ·
    refine x_same (c := r1 = 3) ?_
    refine x_icmp_ne (pc := 10) 17 dX1_brokenBy_10 (by decide) (fun hc3 => ?_) (fun hc3 => ?_)
    ·
      have hm5 := x_topF hc3 hm2
      refine x_iconst (pc := 17) 0 dX1_brokenBy_17 rfl ?_
      exact hm5
    ·
      have hm4 := x_topT hc3 hm2
      refine x_iconst (pc := 13) 1 dX1_brokenBy_13 rfl ?_
      refine x_goto (pc := 14) 18 dX1_brokenBy_14 (by decide) ?_
      exact hm4
theorem c_1_brokenBy (l : Launch)  (q : Bool) (h : Nat) (v1 : Int32) (σ : zSt) : zMet l yX1_brokenBy cX1_brokenBy 2 (some .int) r1_brokenBy q eI [aR 1 (some h), aI v1] σ (zro (f1_brokenBy h v1 σ) σ) :=
  zMet_ofR [(0, aR 1 (some h)), (1, aI v1)] (by decide +kernel) (fun h => by cases h) (Nat.le_of_ble_eq_true rfl) rfl fun E _ => x1_brokenBy E  q h v1 σ
abbrev r1_promiseAnew : Room := { frames := 2, cells := 0, slots := 0, locals := 42 }
abbrev m1_promiseAnew : zMu := (RX1, 3, none, r1_promiseAnew, false)
set_option maxRecDepth 20000 in
theorem x1_promiseAnew (E : zEn)  (h : Nat) (v1 : Int32) (v2 : Int32) (σ : zSt) : X E cX1_promiseAnew m1_promiseAnew true (zQw E true eV r1_promiseAnew) 0 0 σ [(0, aR 1 (some h)), (1, aI v1), (2, aI v2)] 0 [] (f1_promiseAnew h v1 v2 σ) := by
  unfold f1_promiseAnew
  refine x_aload_n (pc := 0) 0 dX1_promiseAnew_0 rfl rfl ?_
  refine x_aload_n (pc := 1) 0 dX1_promiseAnew_1 rfl rfl ?_
  refine x_iload_n (pc := 2) 2 dX1_promiseAnew_2 rfl rfl ?_
  refine x_callVr (pc := 3) (as := [aI v2]) (rest := [aR 1 (some h)]) (fun l => c_1_brokenBy l true h v2 σ) md_X1_brokenBy ⟨_, _, rfl, by decide⟩ tk_347 tk_348 tk_536 dX1_promiseAnew_3 rfl ⟨by decide, by decide, by decide, by decide⟩ ⟨fun _ => rfl, fun _ => Or.inl rfl⟩ rfl (Nat.le_of_ble_eq_true rfl) (fun r1 => ?_)
  show X E _ _ _ _ 0 0 _ _ _ [aI r1, aR 1 (some h)] _
  refine x_putI (pc := 6) fd_1_14 pt_1_14 tk_458 dX1_promiseAnew_6 (Or.inl rfl) ?_
  refine x_nameS (fun s2 => ?_)
  refine x_aload_n (pc := 9) 0 dX1_promiseAnew_9 rfl rfl ?_
  refine x_dup (pc := 10) dX1_promiseAnew_10 rfl ?_
  refine x_getI (pc := 11) fd_1_15 tk_459 dX1_promiseAnew_11 ?_
  refine x_aload_n (pc := 14) 0 dX1_promiseAnew_14 rfl rfl ?_
  refine x_iload_n (pc := 15) 2 dX1_promiseAnew_15 rfl rfl ?_
  refine x_callVr (pc := 16) (as := [aI v2]) (rest := [aI (gI s2 1 h 15), aR 1 (some h)]) (fun l => c_1_promiseOn l true h v2 s2) md_X1_promiseOn ⟨_, _, rfl, by decide⟩ tk_351 tk_352 tk_350 dX1_promiseAnew_16 rfl ⟨by decide, by decide, by decide, by decide⟩ ⟨fun _ => rfl, fun _ => Or.inl rfl⟩ rfl (Nat.le_of_ble_eq_true rfl) (fun r3 => ?_)
  show X E _ _ _ _ 0 0 _ _ _ [aI r3, aI (gI s2 1 h 15), aR 1 (some h)] _
  refine x_iconst (pc := 19) 1 dX1_promiseAnew_19 rfl ?_
  refine x_mg (c := r3 = 1) (a := 1) (b := 0) 28 [aI (gI s2 1 h 15), aR 1 (some h)] ?_ (fun hm4 => ?_)
  ·
    refine x_iadd (pc := 28) dX1_promiseAnew_28 ?_
    refine x_putI (pc := 29) fd_1_15 pt_1_15 tk_459 dX1_promiseAnew_29 (Or.inl rfl) ?_
    refine x_nameS (fun s8 => ?_)
    refine x_aload_n (pc := 32) 0 dX1_promiseAnew_32 rfl rfl ?_
    refine x_iconst (pc := 33) 1 dX1_promiseAnew_33 rfl ?_
    refine x_putI (pc := 34) fd_1_13 pt_1_13 tk_457 dX1_promiseAnew_34 (Or.inl rfl) ?_
    refine x_nameS (fun s9 => ?_)
    refine x_aload_n (pc := 37) 0 dX1_promiseAnew_37 rfl rfl ?_
    refine x_iload_n (pc := 38) 1 dX1_promiseAnew_38 rfl rfl ?_
    refine x_putI (pc := 39) fd_1_12 pt_1_12 tk_455 dX1_promiseAnew_39 (Or.inl rfl) ?_
    refine x_nameS (fun s10 => ?_)
    refine x_aload_n (pc := 42) 0 dX1_promiseAnew_42 rfl rfl ?_
    refine x_getF (pc := 43) (j := h) fd_1_7 rfl rfl tk_445 dX1_promiseAnew_43 ?_
    refine x_iconst (pc := 46) 1 dX1_promiseAnew_46 rfl ?_
    refine x_iload_n (pc := 47) 2 dX1_promiseAnew_47 rfl rfl ?_
    refine x_iconst (pc := 48) (-1) dX1_promiseAnew_48 rfl ?_
    refine x_callV (pc := 49) (as := [aI 1, aI v2, aI (-1)]) (rest := []) (fun l => c_4_add l h 1 v2 (-1) s10) md_X4_add ⟨_, _, rfl, by decide⟩ tk_512 tk_513 tk_511 dX1_promiseAnew_49 rfl ⟨by decide, by decide, by decide, by decide⟩ ⟨fun _ => rfl, fun _ => Or.inl rfl⟩ rfl (Nat.le_of_ble_eq_true rfl) (fun _ s12 => ?_)
    show X E _ _ _ _ 0 0 _ _ _ [] _
    exact x_vret (rm := r1_promiseAnew) rfl rfl dX1_promiseAnew_52
  ·
    refine x_same (c := r3 = 1) ?_
    refine x_icmp_ne (pc := 20) 27 dX1_promiseAnew_20 (by decide) (fun hc5 => ?_) (fun hc5 => ?_)
    ·
      have hm7 := x_topF hc5 hm4
      refine x_iconst (pc := 27) 0 dX1_promiseAnew_27 rfl ?_
      exact hm7
    ·
      have hm6 := x_topT hc5 hm4
      refine x_iconst (pc := 23) 1 dX1_promiseAnew_23 rfl ?_
      refine x_goto (pc := 24) 28 dX1_promiseAnew_24 (by decide) ?_
      exact hm6
theorem c_1_promiseAnew (l : Launch)  (h : Nat) (v1 : Int32) (v2 : Int32) (σ : zSt) : zMet l yX1_promiseAnew cX1_promiseAnew 3 none r1_promiseAnew true eV [aR 1 (some h), aI v1, aI v2] σ (f1_promiseAnew h v1 v2 σ) :=
  zMet_of [(0, aR 1 (some h)), (1, aI v1), (2, aI v2)] (by decide +kernel) (fun h => by cases h) (Nat.le_of_ble_eq_true rfl) rfl fun E _ => x1_promiseAnew E  h v1 v2 σ
abbrev r1_saidBy : Room := { frames := 1, cells := 0, slots := 0, locals := 23 }
abbrev m1_saidBy : zMu := (RX1, 3, none, r1_saidBy, false)
set_option maxRecDepth 20000 in
theorem x1_saidBy (E : zEn)  (h : Nat) (v1 : Int32) (v2 : Int32) (σ : zSt) : X E cX1_saidBy m1_saidBy true (zQw E true eV r1_saidBy) 0 0 σ [(0, aR 1 (some h)), (1, aI v1), (2, aI v2)] 0 [] (f1_saidBy h v1 v2 σ) := by
  unfold f1_saidBy
  refine x_aload_n (pc := 0) 0 dX1_saidBy_0 rfl rfl ?_
  refine x_aload_n (pc := 1) 0 dX1_saidBy_1 rfl rfl ?_
  refine x_iload_n (pc := 2) 2 dX1_saidBy_2 rfl rfl ?_
  refine x_callVr (pc := 3) (as := [aI v2]) (rest := [aR 1 (some h)]) (fun l => c_1_promiseOn l true h v2 σ) md_X1_promiseOn ⟨_, _, rfl, by decide⟩ tk_351 tk_352 tk_350 dX1_saidBy_3 rfl ⟨by decide, by decide, by decide, by decide⟩ ⟨fun _ => rfl, fun _ => Or.inl rfl⟩ rfl (Nat.le_of_ble_eq_true rfl) (fun r1 => ?_)
  show X E _ _ _ _ 0 0 _ _ _ [aI r1, aR 1 (some h)] _
  refine x_iconst (pc := 6) 1 dX1_saidBy_6 rfl ?_
  refine x_join (P := fun (j3 : Int32 → Option (Unit × zSt)) => ∀ (a2 : Int32), X E cX1_saidBy m1_saidBy true (zQw E true eV r1_saidBy) 0 0 σ [(0, aR 1 (some h)), (1, aI v1), (2, aI v2)] 19 [aI a2, aR 1 (some h)] (j3 a2)) ?_ ?_
  · intro a2
    refine x_putI (pc := 19) fd_1_13 pt_1_13 tk_457 dX1_saidBy_19 (Or.inl rfl) ?_
    refine x_nameS (fun s5 => ?_)
    refine x_aload_n (pc := 22) 0 dX1_saidBy_22 rfl rfl ?_
    refine x_getF (pc := 23) (j := h) fd_1_7 rfl rfl tk_445 dX1_saidBy_23 ?_
    refine x_iconst (pc := 26) 2 dX1_saidBy_26 rfl ?_
    refine x_iload_n (pc := 27) 2 dX1_saidBy_27 rfl rfl ?_
    refine x_iload_n (pc := 28) 1 dX1_saidBy_28 rfl rfl ?_
    refine x_callV (pc := 29) (as := [aI 2, aI v2, aI v1]) (rest := []) (fun l => c_4_add l h 2 v2 v1 s5) md_X4_add ⟨_, _, rfl, by decide⟩ tk_512 tk_513 tk_511 dX1_saidBy_29 rfl ⟨by decide, by decide, by decide, by decide⟩ ⟨fun _ => rfl, fun _ => Or.inl rfl⟩ rfl (Nat.le_of_ble_eq_true rfl) (fun _ s7 => ?_)
    show X E _ _ _ _ 0 0 _ _ _ [] _
    exact x_vret (rm := r1_saidBy) rfl rfl dX1_saidBy_32
  · intro j3 hj4
    refine x_icmp_ne (pc := 7) 14 dX1_saidBy_7 (by decide) (fun _ => ?_) (fun _ => ?_)
    ·
      refine x_aload_n (pc := 14) 0 dX1_saidBy_14 rfl rfl ?_
      refine x_iload_n (pc := 15) 2 dX1_saidBy_15 rfl rfl ?_
      refine x_callVr (pc := 16) (as := [aI v2]) (rest := [aR 1 (some h)]) (fun l => c_1_promiseOn l true h v2 σ) md_X1_promiseOn ⟨_, _, rfl, by decide⟩ tk_351 tk_352 tk_350 dX1_saidBy_16 rfl ⟨by decide, by decide, by decide, by decide⟩ ⟨fun _ => rfl, fun _ => Or.inl rfl⟩ rfl (Nat.le_of_ble_eq_true rfl) (fun r8 => ?_)
      show X E _ _ _ _ 0 0 _ _ _ [aI r8, aR 1 (some h)] _
      exact hj4 r8
    ·
      refine x_iconst (pc := 10) 2 dX1_saidBy_10 rfl ?_
      refine x_goto (pc := 11) 19 dX1_saidBy_11 (by decide) ?_
      exact hj4 2
theorem c_1_saidBy (l : Launch)  (h : Nat) (v1 : Int32) (v2 : Int32) (σ : zSt) : zMet l yX1_saidBy cX1_saidBy 3 none r1_saidBy true eV [aR 1 (some h), aI v1, aI v2] σ (f1_saidBy h v1 v2 σ) :=
  zMet_of [(0, aR 1 (some h)), (1, aI v1), (2, aI v2)] (by decide +kernel) (fun h => by cases h) (Nat.le_of_ble_eq_true rfl) rfl fun E _ => x1_saidBy E  h v1 v2 σ
abbrev r1_endWith : Room := { frames := 1, cells := 0, slots := 0, locals := 23 }
abbrev m1_endWith : zMu := (RX1, 3, none, r1_endWith, false)
set_option maxRecDepth 20000 in
theorem x1_endWith (E : zEn)  (h : Nat) (v1 : Int32) (v2 : Int32) (σ : zSt) : X E cX1_endWith m1_endWith true (zQw E true eV r1_endWith) 0 0 σ [(0, aR 1 (some h)), (1, aI v1), (2, aI v2)] 0 [] (f1_endWith h v1 v2 σ) := by
  unfold f1_endWith
  refine x_aload_n (pc := 0) 0 dX1_endWith_0 rfl rfl ?_
  refine x_aload_n (pc := 1) 0 dX1_endWith_1 rfl rfl ?_
  refine x_iload_n (pc := 2) 2 dX1_endWith_2 rfl rfl ?_
  refine x_callVr (pc := 3) (as := [aI v2]) (rest := [aR 1 (some h)]) (fun l => c_1_promiseOn l true h v2 σ) md_X1_promiseOn ⟨_, _, rfl, by decide⟩ tk_351 tk_352 tk_350 dX1_endWith_3 rfl ⟨by decide, by decide, by decide, by decide⟩ ⟨fun _ => rfl, fun _ => Or.inl rfl⟩ rfl (Nat.le_of_ble_eq_true rfl) (fun r1 => ?_)
  show X E _ _ _ _ 0 0 _ _ _ [aI r1, aR 1 (some h)] _
  refine x_iconst (pc := 6) 1 dX1_endWith_6 rfl ?_
  refine x_join (P := fun (j3 : Int32 → Option (Unit × zSt)) => ∀ (a2 : Int32), X E cX1_endWith m1_endWith true (zQw E true eV r1_endWith) 0 0 σ [(0, aR 1 (some h)), (1, aI v1), (2, aI v2)] 19 [aI a2, aR 1 (some h)] (j3 a2)) ?_ ?_
  · intro a2
    refine x_putI (pc := 19) fd_1_13 pt_1_13 tk_457 dX1_endWith_19 (Or.inl rfl) ?_
    refine x_nameS (fun s5 => ?_)
    refine x_aload_n (pc := 22) 0 dX1_endWith_22 rfl rfl ?_
    refine x_getF (pc := 23) (j := h) fd_1_7 rfl rfl tk_445 dX1_endWith_23 ?_
    refine x_iload_n (pc := 26) 1 dX1_endWith_26 rfl rfl ?_
    refine x_iload_n (pc := 27) 2 dX1_endWith_27 rfl rfl ?_
    refine x_iconst (pc := 28) (-1) dX1_endWith_28 rfl ?_
    refine x_callV (pc := 29) (as := [aI v1, aI v2, aI (-1)]) (rest := []) (fun l => c_4_add l h v1 v2 (-1) s5) md_X4_add ⟨_, _, rfl, by decide⟩ tk_512 tk_513 tk_511 dX1_endWith_29 rfl ⟨by decide, by decide, by decide, by decide⟩ ⟨fun _ => rfl, fun _ => Or.inl rfl⟩ rfl (Nat.le_of_ble_eq_true rfl) (fun _ s7 => ?_)
    show X E _ _ _ _ 0 0 _ _ _ [] _
    exact x_vret (rm := r1_endWith) rfl rfl dX1_endWith_32
  · intro j3 hj4
    refine x_icmp_ne (pc := 7) 14 dX1_endWith_7 (by decide) (fun _ => ?_) (fun _ => ?_)
    ·
      refine x_aload_n (pc := 14) 0 dX1_endWith_14 rfl rfl ?_
      refine x_iload_n (pc := 15) 2 dX1_endWith_15 rfl rfl ?_
      refine x_callVr (pc := 16) (as := [aI v2]) (rest := [aR 1 (some h)]) (fun l => c_1_promiseOn l true h v2 σ) md_X1_promiseOn ⟨_, _, rfl, by decide⟩ tk_351 tk_352 tk_350 dX1_endWith_16 rfl ⟨by decide, by decide, by decide, by decide⟩ ⟨fun _ => rfl, fun _ => Or.inl rfl⟩ rfl (Nat.le_of_ble_eq_true rfl) (fun r8 => ?_)
      show X E _ _ _ _ 0 0 _ _ _ [aI r8, aR 1 (some h)] _
      exact hj4 r8
    ·
      refine x_iconst (pc := 10) 0 dX1_endWith_10 rfl ?_
      refine x_goto (pc := 11) 19 dX1_endWith_11 (by decide) ?_
      exact hj4 0
theorem c_1_endWith (l : Launch)  (h : Nat) (v1 : Int32) (v2 : Int32) (σ : zSt) : zMet l yX1_endWith cX1_endWith 3 none r1_endWith true eV [aR 1 (some h), aI v1, aI v2] σ (f1_endWith h v1 v2 σ) :=
  zMet_of [(0, aR 1 (some h)), (1, aI v1), (2, aI v2)] (by decide +kernel) (fun h => by cases h) (Nat.le_of_ble_eq_true rfl) rfl fun E _ => x1_endWith E  h v1 v2 σ
abbrev r2_init : Room := { frames := 1, cells := 3, slots := 19, locals := 12 }
abbrev m2_init : zMu := (RX2, 1, none, r2_init, true)
set_option maxRecDepth 20000 in
theorem x2_init (E : zEn)  (h : Nat) (σ : zSt) : X E cX2_init m2_init false (zQw E false eV r2_init) 0 0 σ [(0, aR 2 (some h))] 0 [] (f2_init h σ) := by
  unfold f2_init
  refine x_aload_n (pc := 0) 0 dX2_init_0 rfl rfl ?_
  refine x_objInit (pc := 1) tk_97 tk_28 tk_29 dX2_init_1 (by decide) ?_
  refine x_aload_n (pc := 4) 0 dX2_init_4 rfl rfl ?_
  refine x_iconst (pc := 5) 5 dX2_init_5 rfl ?_
  refine x_newaI (pc := 6) 300 (n := 5) ar_300 rfl (by decide) tk_52 dX2_init_6 rfl (by decide) ?_
  refine x_nameN (fun i1 => ?_)
  refine x_nameS (fun s2 => ?_)
  refine x_putR (pc := 8) fd_2_0 pt_2_0 (Or.inr ⟨_, rfl⟩) tk_98 dX2_init_8 (Or.inr ⟨rfl, rfl⟩) (Or.inl rfl) ?_
  refine x_nameS (fun s3 => ?_)
  refine x_aload_n (pc := 11) 0 dX2_init_11 rfl rfl ?_
  refine x_bipush (pc := 12) 7 dX2_init_12 rfl ?_
  refine x_newaI (pc := 14) 301 (n := 7) ar_301 rfl (by decide) tk_52 dX2_init_14 rfl (by decide) ?_
  refine x_nameN (fun i4 => ?_)
  refine x_nameS (fun s5 => ?_)
  refine x_putR (pc := 16) fd_2_1 pt_2_1 (Or.inr ⟨_, rfl⟩) tk_99 dX2_init_16 (Or.inr ⟨rfl, rfl⟩) (Or.inl rfl) ?_
  refine x_nameS (fun s6 => ?_)
  refine x_aload_n (pc := 19) 0 dX2_init_19 rfl rfl ?_
  refine x_bipush (pc := 20) 7 dX2_init_20 rfl ?_
  refine x_newaI (pc := 22) 302 (n := 7) ar_302 rfl (by decide) tk_52 dX2_init_22 rfl (by decide) ?_
  refine x_nameN (fun i7 => ?_)
  refine x_nameS (fun s8 => ?_)
  refine x_putR (pc := 24) fd_2_2 pt_2_2 (Or.inr ⟨_, rfl⟩) tk_100 dX2_init_24 (Or.inr ⟨rfl, rfl⟩) (Or.inl rfl) ?_
  refine x_nameS (fun s9 => ?_)
  exact x_vret (rm := r2_init) rfl rfl dX2_init_27
theorem c_2_init (l : Launch)  (h : Nat) (σ : zSt) : zMet l yX2_init cX2_init 1 none r2_init false eV [aR 2 (some h)] σ (f2_init h σ) :=
  zMet_of [(0, aR 2 (some h))] (by decide +kernel) (fun _ => rfl) (Nat.le_of_ble_eq_true rfl) rfl fun E _ => x2_init E  h σ
abbrev r11_isDigit : Room := { frames := 0, cells := 0, slots := 0, locals := 0 }
abbrev m11_isDigit : zMu := (RX11, 1, (some .boolean), r11_isDigit, false)
set_option maxRecDepth 20000 in
theorem x11_isDigit (E : zEn)  (q : Bool) (v0 : Int32) (σ : zSt) : X E cX11_isDigit m11_isDigit q (zQr E q eI r11_isDigit σ) 0 0 σ [(0, aI v0)] 0 [] (f11_isDigit v0 σ) := by
  unfold f11_isDigit
  refine x_iload_n (pc := 0) 0 dX11_isDigit_0 rfl rfl ?_
  refine x_bipush (pc := 1) 48 dX11_isDigit_1 rfl ?_
  refine x_join (P := fun (j1 : Option Int32) => X E cX11_isDigit m11_isDigit q (zQr E q eI r11_isDigit σ) 0 0 σ [] 16 [] j1) ?_ ?_
  ·
    refine x_iconst (pc := 16) 0 dX11_isDigit_16 rfl ?_
    exact x_zretC (rm := r11_isDigit) rfl rfl (by decide) dX11_isDigit_17
  · intro j1 hj2
    refine x_icmp_lt (pc := 3) 16 dX11_isDigit_3 (by decide) (fun _ => ?_) (fun _ => ?_)
    ·
      exact x_sub [] rfl (hj2)
    ·
      refine x_iload_n (pc := 6) 0 dX11_isDigit_6 rfl rfl ?_
      refine x_bipush (pc := 7) 57 dX11_isDigit_7 rfl ?_
      refine x_icmp_gt (pc := 9) 16 dX11_isDigit_9 (by decide) (fun _ => ?_) (fun _ => ?_)
      ·
        exact x_sub [] rfl (hj2)
      ·
        refine x_iconst (pc := 12) 1 dX11_isDigit_12 rfl ?_
        refine x_goto (pc := 13) 17 dX11_isDigit_13 (by decide) ?_
        exact x_zretC (rm := r11_isDigit) rfl rfl (by decide) dX11_isDigit_17
theorem c_11_isDigit (l : Launch)  (q : Bool) (v0 : Int32) (σ : zSt) : zMet l yX11_isDigit cX11_isDigit 1 (some .boolean) r11_isDigit q eI [aI v0] σ (zro (f11_isDigit v0 σ) σ) :=
  zMet_ofR [(0, aI v0)] (by decide +kernel) (fun h => by cases h) (Nat.le_of_ble_eq_true rfl) rfl fun E _ => x11_isDigit E  q v0 σ
abbrev r2_isName : Room := { frames := 7, cells := 0, slots := 0, locals := 221 }
abbrev m2_isName : zMu := (RX2, 1, (some .boolean), r2_isName, false)
set_option maxRecDepth 20000 in
theorem x2_isName (E : zEn)  (q : Bool) (v0 : Int32) (σ : zSt) : X E cX2_isName m2_isName q (zQr E q eI r2_isName σ) 0 0 σ [(0, aI v0)] 0 [] (f2_isName v0 σ) := by
  unfold f2_isName
  refine x_ldcS (pc := 0) 3 dX2_isName_0 rfl ?_
  refine x_iload_n (pc := 2) 0 dX2_isName_2 rfl rfl ?_
  refine x_i2c (pc := 3) dX2_isName_3 ?_
  refine x_callTr (pc := 4) (as := [aI (zi2c v0)]) (rest := []) (fun l => c_J0_indexOf_0f7a4 l q 3 (by decide) (zi2c v0) σ) md_J0_indexOf_0f7a4 rfl (by decide) rfl tk_841 tk_842 tk_932 dX2_isName_4 rfl ⟨by decide, by decide, by decide, by decide⟩ ⟨fun h => h, fun h => Or.inl h⟩ rfl (Nat.le_of_ble_eq_true rfl) (fun r1 => ?_)
  show X E _ _ _ _ 0 0 _ _ _ [aI r1] _
  refine x_if_lt (pc := 7) 14 dX2_isName_7 (by decide) (fun _ => ?_) (fun _ => ?_)
  ·
    refine x_iconst (pc := 14) 0 dX2_isName_14 rfl ?_
    exact x_zretC (rm := r2_isName) rfl rfl (by decide) dX2_isName_15
  ·
    refine x_iconst (pc := 10) 1 dX2_isName_10 rfl ?_
    refine x_goto (pc := 11) 15 dX2_isName_11 (by decide) ?_
    exact x_zretC (rm := r2_isName) rfl rfl (by decide) dX2_isName_15
theorem c_2_isName (l : Launch)  (q : Bool) (v0 : Int32) (σ : zSt) : zMet l yX2_isName cX2_isName 1 (some .boolean) r2_isName q eI [aI v0] σ (zro (f2_isName v0 σ) σ) :=
  zMet_ofR [(0, aI v0)] (by decide +kernel) (fun h => by cases h) (Nat.le_of_ble_eq_true rfl) rfl fun E _ => x2_isName E  q v0 σ
abbrev r2_isSign : Room := { frames := 7, cells := 0, slots := 0, locals := 221 }
abbrev m2_isSign : zMu := (RX2, 1, (some .boolean), r2_isSign, false)
set_option maxRecDepth 20000 in
theorem x2_isSign (E : zEn)  (q : Bool) (v0 : Int32) (σ : zSt) : X E cX2_isSign m2_isSign q (zQr E q eI r2_isSign σ) 0 0 σ [(0, aI v0)] 0 [] (f2_isSign v0 σ) := by
  unfold f2_isSign
  refine x_ldcS (pc := 0) 4 dX2_isSign_0 rfl ?_
  refine x_iload_n (pc := 2) 0 dX2_isSign_2 rfl rfl ?_
  refine x_i2c (pc := 3) dX2_isSign_3 ?_
  refine x_callTr (pc := 4) (as := [aI (zi2c v0)]) (rest := []) (fun l => c_J0_indexOf_0f7a4 l q 4 (by decide) (zi2c v0) σ) md_J0_indexOf_0f7a4 rfl (by decide) rfl tk_841 tk_842 tk_932 dX2_isSign_4 rfl ⟨by decide, by decide, by decide, by decide⟩ ⟨fun h => h, fun h => Or.inl h⟩ rfl (Nat.le_of_ble_eq_true rfl) (fun r1 => ?_)
  show X E _ _ _ _ 0 0 _ _ _ [aI r1] _
  refine x_if_lt (pc := 7) 14 dX2_isSign_7 (by decide) (fun _ => ?_) (fun _ => ?_)
  ·
    refine x_iconst (pc := 14) 0 dX2_isSign_14 rfl ?_
    exact x_zretC (rm := r2_isSign) rfl rfl (by decide) dX2_isSign_15
  ·
    refine x_iconst (pc := 10) 1 dX2_isSign_10 rfl ?_
    refine x_goto (pc := 11) 15 dX2_isSign_11 (by decide) ?_
    exact x_zretC (rm := r2_isSign) rfl rfl (by decide) dX2_isSign_15
theorem c_2_isSign (l : Launch)  (q : Bool) (v0 : Int32) (σ : zSt) : zMet l yX2_isSign cX2_isSign 1 (some .boolean) r2_isSign q eI [aI v0] σ (zro (f2_isSign v0 σ) σ) :=
  zMet_ofR [(0, aI v0)] (by decide +kernel) (fun h => by cases h) (Nat.le_of_ble_eq_true rfl) rfl fun E _ => x2_isSign E  q v0 σ
abbrev r2_faultIn : Room := { frames := 8, cells := 0, slots := 0, locals := 241 }
abbrev m2_faultIn : zMu := (RX2, 8, (some .int), r2_faultIn, false)
set_option maxRecDepth 20000 in
theorem xl2_faultIn_13 (E : zEn)  (q : Bool) (h0 : Nat) (h1 : Int32) (σ : zSt) {K209 : Int32 → Int32 → Option Int32} (hK209 : ∀ (v2 : Int32) (v4 : Int32), X E cX2_faultIn m2_faultIn q (zQr E q eI r2_faultIn σ) 0 0 σ [(1, aI h1), (2, aI v2), (4, aI v4)] 209 [] (K209 v2 v4)) : ∀ (n : Nat) (v2 : Int32) (v3 : Int32) (v4 : Int32) (v5 : Int32) (v6 : Int32), X E cX2_faultIn m2_faultIn q (zQr E q eI r2_faultIn σ) 0 0 σ [(0, aR 1210 (some h0)), (1, aI h1), (2, aI v2), (3, aI v3), (4, aI v4), (5, aI v5), (6, aI v6)] 13 [] (f2_faultIn_L13 h0 h1 σ K209 n v2 v3 v4 v5 v6) := by
  intro n
  induction n with
  | zero => intros; exact x_none
  | succ n ih =>
    intro v2 v3 v4 v5 v6
    rw [f2_faultIn_L13]
    refine x_iload (pc := 13) 6 dX2_faultIn_13 rfl ?_
    refine x_iload_n (pc := 15) 1 dX2_faultIn_15 rfl rfl ?_
    refine x_icmp_ge (pc := 16) 209 dX2_faultIn_16 (by decide) (fun _ => ?_) (fun _ => ?_)
    ·
      exact x_sub [1, 2, 4] rfl (hK209 v2 v4)
    ·
      refine x_iload (pc := 19) 6 dX2_faultIn_19 rfl ?_
      refine x_aload_n (pc := 21) 0 dX2_faultIn_21 rfl rfl ?_
      refine x_alen (pc := 22) ar_1210 (by decide) dX2_faultIn_22 ?_
      refine x_icmp_ge (pc := 23) 209 dX2_faultIn_23 (by decide) (fun _ => ?_) (fun _ => ?_)
      ·
        exact x_sub [1, 2, 4] rfl (hK209 v2 v4)
      ·
        refine x_aload_n (pc := 26) 0 dX2_faultIn_26 rfl rfl ?_
        refine x_iload (pc := 27) 6 dX2_faultIn_27 rfl ?_
        refine x_iald (pc := 29) ar_1210 dX2_faultIn_29 (fun m1 => ?_)
        refine x_nameI (fun x2 => ?_)
        refine x_istore (pc := 30) (als' := [(7, aI x2), (0, aR 1210 (some h0)), (1, aI h1), (2, aI v2), (3, aI v3), (4, aI v4), (5, aI v5), (6, aI v6)]) 7 dX2_faultIn_30 (by decide) rfl ?_
        refine x_iload (pc := 32) 4 dX2_faultIn_32 rfl ?_
        refine x_join (P := fun (j7 : Int32 → Int32 → Int32 → Int32 → Option Int32) => ∀ (a3 : Int32) (a4 : Int32) (a5 : Int32) (a6 : Int32), X E cX2_faultIn m2_faultIn q (zQr E q eI r2_faultIn σ) 0 0 σ [(0, aR 1210 (some h0)), (1, aI h1), (2, aI a3), (3, aI a4), (4, aI a5), (5, aI a6), (6, aI v6)] 203 [] (j7 a3 a4 a5 a6)) ?_ ?_
        · intro a3 a4 a5 a6
          refine x_iinc (pc := 203) (als' := [(6, aI (v6 + 1)), (0, aR 1210 (some h0)), (1, aI h1), (2, aI a3), (3, aI a4), (4, aI a5), (5, aI a6)]) 6 6 (c := 1) dX2_faultIn_203 rfl rfl (by decide) rfl ?_
          refine x_nameV (g := fun y10 => [(6, aI y10), (0, aR 1210 (some h0)), (1, aI h1), (2, aI a3), (3, aI a4), (4, aI a5), (5, aI a6)]) (fun x9 => ?_) rfl
          refine x_goto (pc := 206) 13 dX2_faultIn_206 (by decide) ?_
          exact x_sub [1, 2, 3, 4, 5, 6, 0] rfl (ih a3 a4 a5 a6 x9)
        · intro j7 hj8
          refine x_if_eq (pc := 34) 95 dX2_faultIn_34 (by decide) (fun _ => ?_) (fun _ => ?_)
          ·
            refine x_iload (pc := 95) 7 dX2_faultIn_95 rfl ?_
            refine x_callSNr (pc := 97) (as := [aI x2]) (rest := []) (fun l => c_11_isDigit l q x2 σ) md_X11_isDigit tk_831 (host := RX11) (by decide +kernel) dX2_faultIn_97 rfl ⟨by decide, by decide, by decide, by decide⟩ ⟨fun h => h, fun h => Or.inl h⟩ rfl (Nat.le_of_ble_eq_true rfl) (fun r11 => ?_)
            show X E _ _ _ _ 0 0 _ _ _ [aI r11] _
            refine x_join (P := fun (j12 : Option Int32) => X E cX2_faultIn m2_faultIn q (zQr E q eI r2_faultIn σ) 0 0 σ [(0, aR 1210 (some h0)), (1, aI h1), (2, aI v2), (3, aI v3), (4, aI v4), (5, aI v5), (6, aI v6), (7, aI x2)] 118 [] j12) ?_ ?_
            ·
              refine x_iload (pc := 118) 7 dX2_faultIn_118 rfl ?_
              refine x_bipush (pc := 120) 41 dX2_faultIn_120 rfl ?_
              refine x_join (P := fun (j14 : Option Int32) => X E cX2_faultIn m2_faultIn q (zQr E q eI r2_faultIn σ) 0 0 σ [(0, aR 1210 (some h0)), (1, aI h1), (2, aI v2), (3, aI v3), (5, aI v5), (6, aI v6), (7, aI x2)] 137 [] j14) ?_ ?_
              ·
                refine x_iload (pc := 137) 7 dX2_faultIn_137 rfl ?_
                refine x_callSr (pc := 139) (as := [aI x2]) (rest := []) (fun l => c_2_isSign l q x2 σ) md_X2_isSign tk_934 tk_933 dX2_faultIn_139 rfl ⟨by decide, by decide, by decide, by decide⟩ ⟨fun h => h, fun h => Or.inl h⟩ rfl (Nat.le_of_ble_eq_true rfl) (fun r16 => ?_)
                show X E _ _ _ _ 0 0 _ _ _ [aI r16] _
                refine x_join (P := fun (j17 : Option Int32) => X E cX2_faultIn m2_faultIn q (zQr E q eI r2_faultIn σ) 0 0 σ [(0, aR 1210 (some h0)), (1, aI h1), (2, aI v2), (3, aI v3), (5, aI v5), (6, aI v6), (7, aI x2)] 168 [] j17) ?_ ?_
                ·
                  refine x_iconst (pc := 168) 1 dX2_faultIn_168 rfl ?_
                  refine x_istore (pc := 169) (als' := [(4, aI 1), (0, aR 1210 (some h0)), (1, aI h1), (2, aI v2), (3, aI v3), (5, aI v5), (6, aI v6), (7, aI x2)]) 4 dX2_faultIn_169 (by decide) rfl ?_
                  refine x_iload (pc := 171) 7 dX2_faultIn_171 rfl ?_
                  refine x_bipush (pc := 173) 58 dX2_faultIn_173 rfl ?_
                  refine x_mg (c := x2 = 58) (a := 1) (b := (if v5 = 0 then 0 else (if x2 = 59 then 0 else 1))) 195 [] ?_ (fun hm19 => ?_)
                  ·
                    refine x_nameI (fun x29 => ?_)
                    refine x_istore (pc := 195) (als' := [(5, aI x29), (4, aI 1), (0, aR 1210 (some h0)), (1, aI h1), (2, aI v2), (3, aI v3), (6, aI v6), (7, aI x2)]) 5 dX2_faultIn_195 (by decide) rfl ?_
                    refine x_goto (pc := 197) 203 dX2_faultIn_197 (by decide) ?_
                    exact x_sub [2, 3, 4, 5, 1, 0, 6] rfl (hj8 v2 v3 1 x29)
                  ·
                    refine x_same (c := x2 = 58) ?_
                    refine x_icmp_eq (pc := 175) 190 dX2_faultIn_175 (by decide) (fun hc20 => ?_) (fun hc20 => ?_)
                    ·
                      have hm21 := x_topT hc20 hm19
                      refine x_iconst (pc := 190) 1 dX2_faultIn_190 rfl ?_
                      refine x_goto (pc := 191) 195 dX2_faultIn_191 (by decide) ?_
                      exact hm21
                    ·
                      have hm22 := x_topF hc20 hm19
                      refine x_iload (pc := 178) 5 dX2_faultIn_178 rfl ?_
                      refine x_same (c := v5 = 0) ?_
                      refine x_if_eq (pc := 180) 194 dX2_faultIn_180 (by decide) (fun hc23 => ?_) (fun hc23 => ?_)
                      ·
                        have hm24 := x_topT hc23 hm22
                        refine x_iconst (pc := 194) 0 dX2_faultIn_194 rfl ?_
                        exact hm24
                      ·
                        have hm25 := x_topF hc23 hm22
                        refine x_iload (pc := 183) 7 dX2_faultIn_183 rfl ?_
                        refine x_bipush (pc := 185) 59 dX2_faultIn_185 rfl ?_
                        refine x_same (c := x2 = 59) ?_
                        refine x_icmp_eq (pc := 187) 194 dX2_faultIn_187 (by decide) (fun hc26 => ?_) (fun hc26 => ?_)
                        ·
                          have hm27 := x_topT hc26 hm25
                          refine x_iconst (pc := 194) 0 dX2_faultIn_194 rfl ?_
                          exact hm27
                        ·
                          have hm28 := x_topF hc26 hm25
                          refine x_iconst (pc := 190) 1 dX2_faultIn_190 rfl ?_
                          refine x_goto (pc := 191) 195 dX2_faultIn_191 (by decide) ?_
                          exact hm28
                · intro j17 hj18
                  refine x_if_ne (pc := 142) 168 dX2_faultIn_142 (by decide) (fun _ => ?_) (fun _ => ?_)
                  ·
                    exact hj18
                  ·
                    refine x_iload_n (pc := 145) 2 dX2_faultIn_145 rfl rfl ?_
                    refine x_if_ne (pc := 146) 200 dX2_faultIn_146 (by decide) (fun _ => ?_) (fun _ => ?_)
                    ·
                      refine x_iload (pc := 200) 6 dX2_faultIn_200 rfl ?_
                      exact x_iret (rm := r2_faultIn) rfl rfl dX2_faultIn_202
                    ·
                      refine x_iload (pc := 149) 7 dX2_faultIn_149 rfl ?_
                      refine x_bipush (pc := 151) 59 dX2_faultIn_151 rfl ?_
                      refine x_icmp_eq (pc := 153) 168 dX2_faultIn_153 (by decide) (fun _ => ?_) (fun _ => ?_)
                      ·
                        exact hj18
                      ·
                        refine x_iload (pc := 156) 7 dX2_faultIn_156 rfl ?_
                        refine x_bipush (pc := 158) 58 dX2_faultIn_158 rfl ?_
                        refine x_icmp_ne (pc := 160) 200 dX2_faultIn_160 (by decide) (fun _ => ?_) (fun _ => ?_)
                        ·
                          refine x_iload (pc := 200) 6 dX2_faultIn_200 rfl ?_
                          exact x_iret (rm := r2_faultIn) rfl rfl dX2_faultIn_202
                        ·
                          refine x_iload (pc := 163) 5 dX2_faultIn_163 rfl ?_
                          refine x_if_ne (pc := 165) 200 dX2_faultIn_165 (by decide) (fun _ => ?_) (fun _ => ?_)
                          ·
                            refine x_iload (pc := 200) 6 dX2_faultIn_200 rfl ?_
                            exact x_iret (rm := r2_faultIn) rfl rfl dX2_faultIn_202
                          ·
                            exact hj18
              · intro j14 hj15
                refine x_icmp_ne (pc := 122) 137 dX2_faultIn_122 (by decide) (fun _ => ?_) (fun _ => ?_)
                ·
                  exact x_sub [0, 1, 2, 3, 5, 6, 7] rfl (hj15)
                ·
                  refine x_iload_n (pc := 125) 2 dX2_faultIn_125 rfl rfl ?_
                  refine x_if_le (pc := 126) 137 dX2_faultIn_126 (by decide) (fun _ => ?_) (fun _ => ?_)
                  ·
                    exact x_sub [0, 1, 2, 3, 5, 6, 7] rfl (hj15)
                  ·
                    refine x_iinc (pc := 129) (als' := [(2, aI (v2 + (-1))), (0, aR 1210 (some h0)), (1, aI h1), (3, aI v3), (4, aI v4), (5, aI v5), (6, aI v6), (7, aI x2)]) 2 2 (c := (-1)) dX2_faultIn_129 rfl rfl (by decide) rfl ?_
                    refine x_nameV (g := fun y31 => [(2, aI y31), (0, aR 1210 (some h0)), (1, aI h1), (3, aI v3), (4, aI v4), (5, aI v5), (6, aI v6), (7, aI x2)]) (fun x30 => ?_) rfl
                    refine x_iconst (pc := 132) 0 dX2_faultIn_132 rfl ?_
                    refine x_istore_n (pc := 133) (als' := [(3, aI 0), (2, aI x30), (0, aR 1210 (some h0)), (1, aI h1), (4, aI v4), (5, aI v5), (6, aI v6), (7, aI x2)]) 3 dX2_faultIn_133 rfl (by decide) rfl ?_
                    refine x_goto (pc := 134) 203 dX2_faultIn_134 (by decide) ?_
                    exact x_sub [2, 3, 1, 0, 4, 5, 6] rfl (hj8 x30 0 v4 v5)
            · intro j12 hj13
              refine x_if_eq (pc := 100) 118 dX2_faultIn_100 (by decide) (fun _ => ?_) (fun _ => ?_)
              ·
                exact x_sub [1, 2, 3, 4, 5, 6, 7, 0] rfl (hj13)
              ·
                refine x_iload_n (pc := 103) 3 dX2_faultIn_103 rfl rfl ?_
                refine x_if_le (pc := 104) 118 dX2_faultIn_104 (by decide) (fun _ => ?_) (fun _ => ?_)
                ·
                  exact x_sub [1, 2, 3, 4, 5, 6, 7, 0] rfl (hj13)
                ·
                  refine x_iload_n (pc := 107) 3 dX2_faultIn_107 rfl rfl ?_
                  refine x_iconst (pc := 108) 5 dX2_faultIn_108 rfl ?_
                  refine x_icmp_ge (pc := 109) 118 dX2_faultIn_109 (by decide) (fun _ => ?_) (fun _ => ?_)
                  ·
                    exact x_sub [1, 2, 3, 4, 5, 6, 7, 0] rfl (hj13)
                  ·
                    refine x_iinc (pc := 112) (als' := [(3, aI (v3 + 1)), (7, aI x2), (0, aR 1210 (some h0)), (1, aI h1), (2, aI v2), (4, aI v4), (5, aI v5), (6, aI v6)]) 3 4 (c := 1) dX2_faultIn_112 rfl rfl (by decide) rfl ?_
                    refine x_nameV (g := fun y33 => [(3, aI y33), (7, aI x2), (0, aR 1210 (some h0)), (1, aI h1), (2, aI v2), (4, aI v4), (5, aI v5), (6, aI v6)]) (fun x32 => ?_) rfl
                    refine x_goto (pc := 115) 203 dX2_faultIn_115 (by decide) ?_
                    exact x_sub [2, 3, 4, 0, 5, 6, 7] rfl (hj8 v2 x32 v4 v5)
          ·
            refine x_iload (pc := 37) 7 dX2_faultIn_37 rfl ?_
            refine x_bipush (pc := 39) 40 dX2_faultIn_39 rfl ?_
            refine x_join (P := fun (j34 : Option Int32) => X E cX2_faultIn m2_faultIn q (zQr E q eI r2_faultIn σ) 0 0 σ [(0, aR 1210 (some h0)), (1, aI h1), (2, aI v2), (5, aI v5), (6, aI v6), (7, aI x2)] 56 [] j34) ?_ ?_
            ·
              refine x_iload (pc := 56) 7 dX2_faultIn_56 rfl ?_
              refine x_callSNr (pc := 58) (as := [aI x2]) (rest := []) (fun l => c_11_isDigit l q x2 σ) md_X11_isDigit tk_831 (host := RX11) (by decide +kernel) dX2_faultIn_58 rfl ⟨by decide, by decide, by decide, by decide⟩ ⟨fun h => h, fun h => Or.inl h⟩ rfl (Nat.le_of_ble_eq_true rfl) (fun r36 => ?_)
              show X E _ _ _ _ 0 0 _ _ _ [aI r36] _
              refine x_join (P := fun (j37 : Option Int32) => X E cX2_faultIn m2_faultIn q (zQr E q eI r2_faultIn σ) 0 0 σ [(0, aR 1210 (some h0)), (1, aI h1), (2, aI v2), (5, aI v5), (6, aI v6), (7, aI x2)] 72 [] j37) ?_ ?_
              ·
                refine x_iload (pc := 72) 7 dX2_faultIn_72 rfl ?_
                refine x_callSNr (pc := 74) (as := [aI x2]) (rest := []) (fun l => c_11_isDigit l q x2 σ) md_X11_isDigit tk_831 (host := RX11) (by decide +kernel) dX2_faultIn_74 rfl ⟨by decide, by decide, by decide, by decide⟩ ⟨fun h => h, fun h => Or.inl h⟩ rfl (Nat.le_of_ble_eq_true rfl) (fun r39 => ?_)
                show X E _ _ _ _ 0 0 _ _ _ [aI r39] _
                refine x_mg (c := r39 = 0) (a := 0) (b := 1) 85 [] ?_ (fun hm40 => ?_)
                ·
                  refine x_nameI (fun x44 => ?_)
                  refine x_istore_n (pc := 85) (als' := [(3, aI x44), (0, aR 1210 (some h0)), (1, aI h1), (2, aI v2), (5, aI v5), (6, aI v6), (7, aI x2)]) 3 dX2_faultIn_85 rfl (by decide) rfl ?_
                  refine x_iconst (pc := 86) 0 dX2_faultIn_86 rfl ?_
                  refine x_istore (pc := 87) (als' := [(4, aI 0), (3, aI x44), (0, aR 1210 (some h0)), (1, aI h1), (2, aI v2), (5, aI v5), (6, aI v6), (7, aI x2)]) 4 dX2_faultIn_87 (by decide) rfl ?_
                  refine x_goto (pc := 89) 203 dX2_faultIn_89 (by decide) ?_
                  exact x_sub [2, 3, 4, 1, 0, 5, 6] rfl (hj8 v2 x44 0 v5)
                ·
                  refine x_same (c := r39 = 0) ?_
                  refine x_if_eq (pc := 77) 84 dX2_faultIn_77 (by decide) (fun hc41 => ?_) (fun hc41 => ?_)
                  ·
                    have hm42 := x_topT hc41 hm40
                    refine x_iconst (pc := 84) 0 dX2_faultIn_84 rfl ?_
                    exact hm42
                  ·
                    have hm43 := x_topF hc41 hm40
                    refine x_iconst (pc := 80) 1 dX2_faultIn_80 rfl ?_
                    refine x_goto (pc := 81) 85 dX2_faultIn_81 (by decide) ?_
                    exact hm43
              · intro j37 hj38
                refine x_if_ne (pc := 61) 72 dX2_faultIn_61 (by decide) (fun _ => ?_) (fun _ => ?_)
                ·
                  exact hj38
                ·
                  refine x_iload (pc := 64) 7 dX2_faultIn_64 rfl ?_
                  refine x_callSr (pc := 66) (as := [aI x2]) (rest := []) (fun l => c_2_isName l q x2 σ) md_X2_isName tk_929 tk_928 dX2_faultIn_66 rfl ⟨by decide, by decide, by decide, by decide⟩ ⟨fun h => h, fun h => Or.inl h⟩ rfl (Nat.le_of_ble_eq_true rfl) (fun r45 => ?_)
                  show X E _ _ _ _ 0 0 _ _ _ [aI r45] _
                  refine x_if_eq (pc := 69) 92 dX2_faultIn_69 (by decide) (fun _ => ?_) (fun _ => ?_)
                  ·
                    refine x_iload (pc := 92) 6 dX2_faultIn_92 rfl ?_
                    exact x_iret (rm := r2_faultIn) rfl rfl dX2_faultIn_94
                  ·
                    exact hj38
            · intro j34 hj35
              refine x_icmp_ne (pc := 41) 56 dX2_faultIn_41 (by decide) (fun _ => ?_) (fun _ => ?_)
              ·
                exact x_sub [1, 2, 3, 6, 7, 0] rfl (hj35)
              ·
                refine x_iload_n (pc := 44) 2 dX2_faultIn_44 rfl rfl ?_
                refine x_bipush (pc := 45) 6 dX2_faultIn_45 rfl ?_
                refine x_icmp_ge (pc := 47) 56 dX2_faultIn_47 (by decide) (fun _ => ?_) (fun _ => ?_)
                ·
                  exact x_sub [1, 2, 3, 6, 7, 0] rfl (hj35)
                ·
                  refine x_iinc (pc := 50) (als' := [(2, aI (v2 + 1)), (7, aI x2), (0, aR 1210 (some h0)), (1, aI h1), (3, aI v3), (4, aI v4), (5, aI v5), (6, aI v6)]) 2 3 (c := 1) dX2_faultIn_50 rfl rfl (by decide) rfl ?_
                  refine x_nameV (g := fun y47 => [(2, aI y47), (7, aI x2), (0, aR 1210 (some h0)), (1, aI h1), (3, aI v3), (4, aI v4), (5, aI v5), (6, aI v6)]) (fun x46 => ?_) rfl
                  refine x_goto (pc := 53) 203 dX2_faultIn_53 (by decide) ?_
                  exact x_sub [2, 3, 0, 4, 5, 6, 7] rfl (hj8 x46 v3 v4 v5)
set_option maxRecDepth 20000 in
theorem x2_faultIn (E : zEn)  (q : Bool) (h0 : Nat) (v1 : Int32) (σ : zSt) : X E cX2_faultIn m2_faultIn q (zQr E q eI r2_faultIn σ) 0 0 σ [(0, aR 1210 (some h0)), (1, aI v1)] 0 [] (f2_faultIn h0 v1 σ) := by
  unfold f2_faultIn
  refine x_iconst (pc := 0) 0 dX2_faultIn_0 rfl ?_
  refine x_istore_n (pc := 1) (als' := [(2, aI 0), (0, aR 1210 (some h0)), (1, aI v1)]) 2 dX2_faultIn_1 rfl (by decide) rfl ?_
  refine x_iconst (pc := 2) 0 dX2_faultIn_2 rfl ?_
  refine x_istore_n (pc := 3) (als' := [(3, aI 0), (2, aI 0), (0, aR 1210 (some h0)), (1, aI v1)]) 3 dX2_faultIn_3 rfl (by decide) rfl ?_
  refine x_iconst (pc := 4) 1 dX2_faultIn_4 rfl ?_
  refine x_istore (pc := 5) (als' := [(4, aI 1), (3, aI 0), (2, aI 0), (0, aR 1210 (some h0)), (1, aI v1)]) 4 dX2_faultIn_5 (by decide) rfl ?_
  refine x_iconst (pc := 7) 0 dX2_faultIn_7 rfl ?_
  refine x_istore (pc := 8) (als' := [(5, aI 0), (4, aI 1), (3, aI 0), (2, aI 0), (0, aR 1210 (some h0)), (1, aI v1)]) 5 dX2_faultIn_8 (by decide) rfl ?_
  refine x_iconst (pc := 10) 0 dX2_faultIn_10 rfl ?_
  refine x_istore (pc := 11) (als' := [(6, aI 0), (5, aI 0), (4, aI 1), (3, aI 0), (2, aI 0), (0, aR 1210 (some h0)), (1, aI v1)]) 6 dX2_faultIn_11 (by decide) rfl ?_
  refine x_sub [5, 6, 4, 3, 2, 1, 0] rfl (xl2_faultIn_13 E q h0 v1 σ (fun a48 a49 => ?_) zfuel 0 0 1 0 0)
  ·
    refine x_iload (pc := 209) 4 dX2_faultIn_209 rfl ?_
    refine x_join (P := fun (j50 : Option Int32) => X E cX2_faultIn m2_faultIn q (zQr E q eI r2_faultIn σ) 0 0 σ [(1, aI v1)] 218 [] j50) ?_ ?_
    ·
      refine x_iload_n (pc := 218) 1 dX2_faultIn_218 rfl rfl ?_
      refine x_goto (pc := 219) 223 dX2_faultIn_219 (by decide) ?_
      exact x_iret (rm := r2_faultIn) rfl rfl dX2_faultIn_223
    · intro j50 hj51
      refine x_if_ne (pc := 211) 218 dX2_faultIn_211 (by decide) (fun _ => ?_) (fun _ => ?_)
      ·
        exact x_sub [0] rfl (hj51)
      ·
        refine x_iload_n (pc := 214) 2 dX2_faultIn_214 rfl rfl ?_
        refine x_if_le (pc := 215) 222 dX2_faultIn_215 (by decide) (fun _ => ?_) (fun _ => ?_)
        ·
          refine x_iconst (pc := 222) (-1) dX2_faultIn_222 rfl ?_
          exact x_iret (rm := r2_faultIn) rfl rfl dX2_faultIn_223
        ·
          exact x_sub [0] rfl (hj51)
theorem c_2_faultIn (l : Launch)  (q : Bool) (h0 : Nat) (v1 : Int32) (σ : zSt) : zMet l yX2_faultIn cX2_faultIn 8 (some .int) r2_faultIn q eI [aR 1210 (some h0), aI v1] σ (zro (f2_faultIn h0 v1 σ) σ) :=
  zMet_ofR [(0, aR 1210 (some h0)), (1, aI v1)] (by decide +kernel) (fun h => by cases h) (Nat.le_of_ble_eq_true rfl) rfl fun E _ => x2_faultIn E  q h0 v1 σ
