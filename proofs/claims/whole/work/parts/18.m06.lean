abbrev r11_likeliestGroup : Room := { frames := 5, cells := 0, slots := 0, locals := 116 }
abbrev m11_likeliestGroup : zMu := (RX11, 8, (some .int), r11_likeliestGroup, false)
set_option maxRecDepth 20000 in
theorem xl11_likeliestGroup_10 (E : zEn)   (h1 : Nat) (h2 : Int32) (h3 : Int32) (σ : zSt)   : ∀ (n : Nat) (v4 : Int32) (v5 : Int32) (v6 : Int32), X E cX11_likeliestGroup m11_likeliestGroup true (zQr E true eI r11_likeliestGroup σ) 0 0 σ [(0, aR 11 (some 0)), (1, aR 7 (some h1)), (2, aI h2), (3, aI h3), (4, aI v4), (5, aI v5), (6, aI v6)] 10 [] (f11_likeliestGroup_L10 h1 h2 h3 σ n v4 v5 v6) := by
  intro n
  induction n with
  | zero => intros; exact x_none
  | succ n ih =>
    intro v4 v5 v6
    rw [f11_likeliestGroup_L10]
    refine x_iload (pc := 10) 6 dX11_likeliestGroup_10 rfl ?_
    refine x_bipush (pc := 12) 30 dX11_likeliestGroup_12 rfl ?_
    refine x_icmp_gt (pc := 14) 60 dX11_likeliestGroup_14 (by decide) (fun _ => ?_) (fun _ => ?_)
    ·
      refine x_iload (pc := 60) 4 dX11_likeliestGroup_60 rfl ?_
      exact x_iret (rm := r11_likeliestGroup) rfl rfl dX11_likeliestGroup_62
    ·
      refine x_iload (pc := 17) 6 dX11_likeliestGroup_17 rfl ?_
      refine x_callSr (pc := 19) (as := [aI v6]) (rest := []) (fun l => c_11_isGroup l true v6 σ) md_X11_isGroup tk_631 tk_630 dX11_likeliestGroup_19 rfl ⟨by decide, by decide, by decide, by decide⟩ ⟨fun _ => rfl, fun _ => Or.inl rfl⟩ rfl (Nat.le_of_ble_eq_true rfl) (fun r1 => ?_)
      show X E _ _ _ _ 0 0 _ _ _ [aI r1] _
      refine x_join (P := fun (j3 : Int32 → Option Int32) => ∀ (a2 : Int32), X E cX11_likeliestGroup m11_likeliestGroup true (zQr E true eI r11_likeliestGroup σ) 0 0 σ [(0, aR 11 (some 0)), (1, aR 7 (some h1)), (2, aI h2), (3, aI h3), (4, aI v4), (5, aI v5), (6, aI v6)] 37 [aI a2] (j3 a2)) ?_ ?_
      · intro a2
        refine x_istore (pc := 37) (als' := [(7, aI a2), (0, aR 11 (some 0)), (1, aR 7 (some h1)), (2, aI h2), (3, aI h3), (4, aI v4), (5, aI v5), (6, aI v6)]) 7 dX11_likeliestGroup_37 (by decide) rfl ?_
        refine x_iload (pc := 39) 7 dX11_likeliestGroup_39 rfl ?_
        refine x_iload (pc := 41) 5 dX11_likeliestGroup_41 rfl ?_
        refine x_join (P := fun (j7 : Int32 → Int32 → Option Int32) => ∀ (a5 : Int32) (a6 : Int32), X E cX11_likeliestGroup m11_likeliestGroup true (zQr E true eI r11_likeliestGroup σ) 0 0 σ [(0, aR 11 (some 0)), (1, aR 7 (some h1)), (2, aI h2), (3, aI h3), (4, aI a5), (5, aI a6), (6, aI v6)] 54 [] (j7 a5 a6)) ?_ ?_
        · intro a5 a6
          refine x_iinc (pc := 54) (als' := [(6, aI (v6 + 1)), (0, aR 11 (some 0)), (1, aR 7 (some h1)), (2, aI h2), (3, aI h3), (4, aI a5), (5, aI a6)]) 6 6 (c := 1) dX11_likeliestGroup_54 rfl rfl (by decide) rfl ?_
          refine x_nameV (g := fun y10 => [(6, aI y10), (0, aR 11 (some 0)), (1, aR 7 (some h1)), (2, aI h2), (3, aI h3), (4, aI a5), (5, aI a6)]) (fun x9 => ?_) rfl
          refine x_goto (pc := 57) 10 dX11_likeliestGroup_57 (by decide) ?_
          exact x_sub [1, 2, 3, 4, 5, 6, 0] rfl (ih a5 a6 x9)
        · intro j7 hj8
          refine x_icmp_ge (pc := 43) 54 dX11_likeliestGroup_43 (by decide) (fun _ => ?_) (fun _ => ?_)
          ·
            exact x_sub [1, 2, 3, 4, 5, 6, 7] rfl (hj8 v4 v5)
          ·
            refine x_iload (pc := 46) 7 dX11_likeliestGroup_46 rfl ?_
            refine x_istore (pc := 48) (als' := [(5, aI a2), (7, aI a2), (0, aR 11 (some 0)), (1, aR 7 (some h1)), (2, aI h2), (3, aI h3), (4, aI v4), (6, aI v6)]) 5 dX11_likeliestGroup_48 (by decide) rfl ?_
            refine x_iload (pc := 50) 6 dX11_likeliestGroup_50 rfl ?_
            refine x_istore (pc := 52) (als' := [(4, aI v6), (5, aI a2), (7, aI a2), (0, aR 11 (some 0)), (1, aR 7 (some h1)), (2, aI h2), (3, aI h3), (6, aI v6)]) 4 dX11_likeliestGroup_52 (by decide) rfl ?_
            exact x_sub [3, 4, 5, 6, 0, 1, 7] rfl (hj8 v6 a2)
      · intro j3 hj4
        refine x_if_eq (pc := 22) 36 dX11_likeliestGroup_22 (by decide) (fun _ => ?_) (fun _ => ?_)
        ·
          refine x_iload_n (pc := 36) 3 dX11_likeliestGroup_36 rfl rfl ?_
          exact hj4 h3
        ·
          refine x_aload_n (pc := 25) 0 dX11_likeliestGroup_25 rfl rfl ?_
          refine x_aload_n (pc := 26) 1 dX11_likeliestGroup_26 rfl rfl ?_
          refine x_iload (pc := 27) 6 dX11_likeliestGroup_27 rfl ?_
          refine x_iload_n (pc := 29) 2 dX11_likeliestGroup_29 rfl rfl ?_
          refine x_callVr (pc := 30) (as := [aR 7 (some h1), aI v6, aI h2]) (rest := []) (fun l => c_11_chanceOf l h1 v6 h2 σ) md_X11_chanceOf ⟨_, _, rfl, by decide⟩ tk_655 tp_17 tk_653 dX11_likeliestGroup_30 rfl ⟨by decide, by decide, by decide, by decide⟩ ⟨fun _ => rfl, fun _ => Or.inl rfl⟩ rfl (Nat.le_of_ble_eq_true rfl) (fun r11 => ?_)
          show X E _ _ _ _ 0 0 _ _ _ [aI r11] _
          refine x_goto (pc := 33) 37 dX11_likeliestGroup_33 (by decide) ?_
          exact hj4 r11
set_option maxRecDepth 20000 in
theorem x11_likeliestGroup (E : zEn)  (h1 : Nat) (v2 : Int32) (v3 : Int32) (σ : zSt) : X E cX11_likeliestGroup m11_likeliestGroup true (zQr E true eI r11_likeliestGroup σ) 0 0 σ [(0, aR 11 (some 0)), (1, aR 7 (some h1)), (2, aI v2), (3, aI v3)] 0 [] (f11_likeliestGroup h1 v2 v3 σ) := by
  unfold f11_likeliestGroup
  refine x_bipush (pc := 0) (-4) dX11_likeliestGroup_0 rfl ?_
  refine x_istore (pc := 2) (als' := [(4, aI (-4)), (0, aR 11 (some 0)), (1, aR 7 (some h1)), (2, aI v2), (3, aI v3)]) 4 dX11_likeliestGroup_2 (by decide) rfl ?_
  refine x_iload_n (pc := 4) 3 dX11_likeliestGroup_4 rfl rfl ?_
  refine x_istore (pc := 5) (als' := [(5, aI v3), (4, aI (-4)), (0, aR 11 (some 0)), (1, aR 7 (some h1)), (2, aI v2), (3, aI v3)]) 5 dX11_likeliestGroup_5 (by decide) rfl ?_
  refine x_iconst (pc := 7) 0 dX11_likeliestGroup_7 rfl ?_
  refine x_istore (pc := 8) (als' := [(6, aI 0), (5, aI v3), (4, aI (-4)), (0, aR 11 (some 0)), (1, aR 7 (some h1)), (2, aI v2), (3, aI v3)]) 6 dX11_likeliestGroup_8 (by decide) rfl ?_
  refine x_sub [3, 4, 5, 6, 2, 1, 0] rfl (xl11_likeliestGroup_10 E h1 v2 v3 σ zfuel (-4) v3 0)
theorem c_11_likeliestGroup (l : Launch)  (h1 : Nat) (v2 : Int32) (v3 : Int32) (σ : zSt) : zMet l yX11_likeliestGroup cX11_likeliestGroup 8 (some .int) r11_likeliestGroup true eI [aR 11 (some 0), aR 7 (some h1), aI v2, aI v3] σ (zro (f11_likeliestGroup h1 v2 v3 σ) σ) :=
  zMet_ofR [(0, aR 11 (some 0)), (1, aR 7 (some h1)), (2, aI v2), (3, aI v3)] (by decide +kernel) (fun h => by cases h) (Nat.le_of_ble_eq_true rfl) rfl fun E _ => x11_likeliestGroup E  h1 v2 v3 σ
abbrev r11_cause : Room := { frames := 6, cells := 0, slots := 0, locals := 143 }
abbrev m11_cause : zMu := (RX11, 5, (some .int), r11_cause, false)
set_option maxRecDepth 20000 in
theorem x11_cause (E : zEn)  (v1 : Int32) (v2 : Int32) (v3 : Int32) (σ : zSt) : X E cX11_cause m11_cause true (zQw E true eI r11_cause) 0 0 σ [(0, aR 11 (some 0)), (1, aI v1), (2, aI v2), (3, aI v3)] 0 [] (f11_cause v1 v2 v3 σ) := by
  unfold f11_cause
  refine x_aload_n (pc := 0) 0 dX11_cause_0 rfl rfl ?_
  refine x_iload_n (pc := 1) 1 dX11_cause_1 rfl rfl ?_
  refine x_callVr (pc := 2) (as := [aI v1]) (rest := []) (fun l => c_11_kindAt l v1 σ) md_X11_kindAt ⟨_, _, rfl, by decide⟩ tk_382 tp_6 tk_380 dX11_cause_2 rfl ⟨by decide, by decide, by decide, by decide⟩ ⟨fun _ => rfl, fun _ => Or.inl rfl⟩ rfl (Nat.le_of_ble_eq_true rfl) (fun o2 => ?_)
  show X E _ _ _ _ 0 0 _ _ _ [aR 7 o2] _
  refine x_astore (pc := 5) (als' := [(4, aR 7 o2), (0, aR 11 (some 0)), (1, aI v1), (2, aI v2), (3, aI v3)]) 4 dX11_cause_5 (by decide) rfl ?_
  refine x_aload (pc := 7) 4 dX11_cause_7 rfl ?_
  rcases o2 with _ | i3
  ·
    refine x_ifnullN (pc := 9) 31 dX11_cause_9 (by decide) ?_
    refine x_iconst (pc := 31) (-1) dX11_cause_31 rfl ?_
    exact x_iret (rm := r11_cause) rfl rfl dX11_cause_32
  ·
    refine x_ifnullS (pc := 9) dX11_cause_9 ?_
    refine x_iload_n (pc := 12) 2 dX11_cause_12 rfl rfl ?_
    refine x_callSr (pc := 13) (as := [aI v2]) (rest := []) (fun l => c_11_isDay l true v2 σ) md_X11_isDay tk_576 tk_575 dX11_cause_13 rfl ⟨by decide, by decide, by decide, by decide⟩ ⟨fun _ => rfl, fun _ => Or.inl rfl⟩ rfl (Nat.le_of_ble_eq_true rfl) (fun r4 => ?_)
    show X E _ _ _ _ 0 0 _ _ _ [aI r4] _
    refine x_if_eq (pc := 16) 31 dX11_cause_16 (by decide) (fun _ => ?_) (fun _ => ?_)
    ·
      refine x_iconst (pc := 31) (-1) dX11_cause_31 rfl ?_
      exact x_iret (rm := r11_cause) rfl rfl dX11_cause_32
    ·
      refine x_iload_n (pc := 19) 3 dX11_cause_19 rfl rfl ?_
      refine x_iconst (pc := 20) 1 dX11_cause_20 rfl ?_
      refine x_icmp_lt (pc := 21) 31 dX11_cause_21 (by decide) (fun _ => ?_) (fun _ => ?_)
      ·
        refine x_iconst (pc := 31) (-1) dX11_cause_31 rfl ?_
        exact x_iret (rm := r11_cause) rfl rfl dX11_cause_32
      ·
        refine x_iload_n (pc := 24) 3 dX11_cause_24 rfl rfl ?_
        refine x_sipush (pc := 25) 9999 dX11_cause_25 rfl ?_
        refine x_icmp_le (pc := 28) 33 dX11_cause_28 (by decide) (fun _ => ?_) (fun _ => ?_)
        ·
          refine x_aload_n (pc := 33) 0 dX11_cause_33 rfl rfl ?_
          refine x_aload (pc := 34) 4 dX11_cause_34 rfl ?_
          refine x_aload_n (pc := 36) 0 dX11_cause_36 rfl rfl ?_
          refine x_aload (pc := 37) 4 dX11_cause_37 rfl ?_
          refine x_iload_n (pc := 39) 2 dX11_cause_39 rfl rfl ?_
          refine x_callV (pc := 40) (as := [aR 7 (some i3), aI v2]) (rest := [aR 7 (some i3), aR 11 (some 0)]) (fun l => c_11_markHomesWith l i3 v2 σ) md_X11_markHomesWith ⟨_, _, rfl, by decide⟩ tk_635 tp_13 tk_633 dX11_cause_40 rfl ⟨by decide, by decide, by decide, by decide⟩ ⟨fun _ => rfl, fun _ => Or.inl rfl⟩ rfl (Nat.le_of_ble_eq_true rfl) (fun r5 s6 => ?_)
          show X E _ _ _ _ 0 0 _ _ _ [aI r5, aR 7 (some i3), aR 11 (some 0)] _
          refine x_iload_n (pc := 43) 3 dX11_cause_43 rfl rfl ?_
          refine x_callVr (pc := 44) (as := [aR 7 (some i3), aI r5, aI v3]) (rest := []) (fun l => c_11_likeliestGroup l i3 r5 v3 s6) md_X11_likeliestGroup ⟨_, _, rfl, by decide⟩ tk_673 tp_18 tk_671 dX11_cause_44 rfl ⟨by decide, by decide, by decide, by decide⟩ ⟨fun _ => rfl, fun _ => Or.inl rfl⟩ rfl (Nat.le_of_ble_eq_true rfl) (fun r7 => ?_)
          show X E _ _ _ _ 0 0 _ _ _ [aI r7] _
          exact x_iret (rm := r11_cause) rfl rfl dX11_cause_47
        ·
          refine x_iconst (pc := 31) (-1) dX11_cause_31 rfl ?_
          exact x_iret (rm := r11_cause) rfl rfl dX11_cause_32
theorem c_11_cause (l : Launch)  (v1 : Int32) (v2 : Int32) (v3 : Int32) (σ : zSt) : zMet l yX11_cause cX11_cause 5 (some .int) r11_cause true eI [aR 11 (some 0), aI v1, aI v2, aI v3] σ (f11_cause v1 v2 v3 σ) :=
  zMet_of [(0, aR 11 (some 0)), (1, aI v1), (2, aI v2), (3, aI v3)] (by decide +kernel) (fun h => by cases h) (Nat.le_of_ble_eq_true rfl) rfl fun E _ => x11_cause E  v1 v2 v3 σ
abbrev r11_areSameHomes : Room := { frames := 3, cells := 0, slots := 0, locals := 66 }
abbrev m11_areSameHomes : zMu := (RX11, 5, (some .boolean), r11_areSameHomes, false)
set_option maxRecDepth 20000 in
theorem xl11_areSameHomes_3 (E : zEn)   (h1 : Nat) (h2 : Int32) (h3 : Int32) (σ : zSt)   : ∀ (n : Nat) (v4 : Int32), X E cX11_areSameHomes m11_areSameHomes true (zQr E true eI r11_areSameHomes σ) 0 0 σ [(0, aR 11 (some 0)), (1, aR 7 (some h1)), (2, aI h2), (3, aI h3), (4, aI v4)] 3 [] (f11_areSameHomes_L3 h1 h2 h3 σ n v4) := by
  intro n
  induction n with
  | zero => intros; exact x_none
  | succ n ih =>
    intro v4
    rw [f11_areSameHomes_L3]
    refine x_iload (pc := 3) 4 dX11_areSameHomes_3 rfl ?_
    refine x_aload_n (pc := 5) 0 dX11_areSameHomes_5 rfl rfl ?_
    refine x_getI (pc := 6) fd_11_1 tk_153 dX11_areSameHomes_6 ?_
    refine x_icmp_ge (pc := 9) 49 dX11_areSameHomes_9 (by decide) (fun _ => ?_) (fun _ => ?_)
    ·
      refine x_iconst (pc := 49) 1 dX11_areSameHomes_49 rfl ?_
      exact x_zretC (rm := r11_areSameHomes) rfl rfl (by decide) dX11_areSameHomes_50
    ·
      refine x_aload_n (pc := 12) 0 dX11_areSameHomes_12 rfl rfl ?_
      refine x_aload_n (pc := 13) 0 dX11_areSameHomes_13 rfl rfl ?_
      refine x_getF (pc := 14) (j := 0) fd_11_0 rfl rfl tk_152 dX11_areSameHomes_14 ?_
      refine x_iload (pc := 17) 4 dX11_areSameHomes_17 rfl ?_
      refine x_aald (pc := 19) (g0 := 5) ar_1200 (by decide) rfl dX11_areSameHomes_19 (fun m1 => ?_)
      refine x_nameR (fun o2 => ?_)
      refine x_aload_n (pc := 20) 1 dX11_areSameHomes_20 rfl rfl ?_
      refine x_iload_n (pc := 21) 2 dX11_areSameHomes_21 rfl rfl ?_
      rcases o2 with _ | i3
      · exact x_none
      ·
        skip
        refine x_zocS ?_
        refine x_callVr (pc := 22) (as := [aR 5 (some i3), aR 7 (some h1), aI h2]) (rest := []) (fun l => c_11_isOfGroup l i3 h1 h2 σ) md_X11_isOfGroup ⟨_, _, rfl, by decide⟩ tk_647 tp_16 tk_645 dX11_areSameHomes_22 rfl ⟨by decide, by decide, by decide, by decide⟩ ⟨fun _ => rfl, fun _ => Or.inl rfl⟩ rfl (Nat.le_of_ble_eq_true rfl) (fun r4 => ?_)
        show X E _ _ _ _ 0 0 _ _ _ [aI r4] _
        refine x_aload_n (pc := 25) 0 dX11_areSameHomes_25 rfl rfl ?_
        refine x_aload_n (pc := 26) 0 dX11_areSameHomes_26 rfl rfl ?_
        refine x_getF (pc := 27) (j := 0) fd_11_0 rfl rfl tk_152 dX11_areSameHomes_27 ?_
        refine x_iload (pc := 30) 4 dX11_areSameHomes_30 rfl ?_
        refine x_aald (pc := 32) (g0 := 5) ar_1200 (by decide) rfl dX11_areSameHomes_32 (fun m5 => ?_)
        refine x_nameR (fun o6 => ?_)
        refine x_aload_n (pc := 33) 1 dX11_areSameHomes_33 rfl rfl ?_
        refine x_iload_n (pc := 34) 3 dX11_areSameHomes_34 rfl rfl ?_
        rcases o6 with _ | i7
        · exact x_none
        ·
          skip
          refine x_zocS ?_
          refine x_callVr (pc := 35) (as := [aR 5 (some i7), aR 7 (some h1), aI h3]) (rest := [aI r4]) (fun l => c_11_isOfGroup l i7 h1 h3 σ) md_X11_isOfGroup ⟨_, _, rfl, by decide⟩ tk_647 tp_16 tk_645 dX11_areSameHomes_35 rfl ⟨by decide, by decide, by decide, by decide⟩ ⟨fun _ => rfl, fun _ => Or.inl rfl⟩ rfl (Nat.le_of_ble_eq_true rfl) (fun r8 => ?_)
          show X E _ _ _ _ 0 0 _ _ _ [aI r8, aI r4] _
          refine x_icmp_eq (pc := 38) 43 dX11_areSameHomes_38 (by decide) (fun _ => ?_) (fun _ => ?_)
          ·
            refine x_iinc (pc := 43) (als' := [(4, aI (v4 + 1)), (0, aR 11 (some 0)), (1, aR 7 (some h1)), (2, aI h2), (3, aI h3)]) 4 4 (c := 1) dX11_areSameHomes_43 rfl rfl (by decide) rfl ?_
            refine x_nameV (g := fun y10 => [(4, aI y10), (0, aR 11 (some 0)), (1, aR 7 (some h1)), (2, aI h2), (3, aI h3)]) (fun x9 => ?_) rfl
            refine x_goto (pc := 46) 3 dX11_areSameHomes_46 (by decide) ?_
            exact x_sub [1, 2, 3, 4, 0] rfl (ih x9)
          ·
            refine x_iconst (pc := 41) 0 dX11_areSameHomes_41 rfl ?_
            exact x_zretC (rm := r11_areSameHomes) rfl rfl (by decide) dX11_areSameHomes_42
set_option maxRecDepth 20000 in
theorem x11_areSameHomes (E : zEn)  (h1 : Nat) (v2 : Int32) (v3 : Int32) (σ : zSt) : X E cX11_areSameHomes m11_areSameHomes true (zQr E true eI r11_areSameHomes σ) 0 0 σ [(0, aR 11 (some 0)), (1, aR 7 (some h1)), (2, aI v2), (3, aI v3)] 0 [] (f11_areSameHomes h1 v2 v3 σ) := by
  unfold f11_areSameHomes
  refine x_iconst (pc := 0) 0 dX11_areSameHomes_0 rfl ?_
  refine x_istore (pc := 1) (als' := [(4, aI 0), (0, aR 11 (some 0)), (1, aR 7 (some h1)), (2, aI v2), (3, aI v3)]) 4 dX11_areSameHomes_1 (by decide) rfl ?_
  refine x_sub [1, 2, 3, 4, 0] rfl (xl11_areSameHomes_3 E h1 v2 v3 σ zfuel 0)
theorem c_11_areSameHomes (l : Launch)  (h1 : Nat) (v2 : Int32) (v3 : Int32) (σ : zSt) : zMet l yX11_areSameHomes cX11_areSameHomes 5 (some .boolean) r11_areSameHomes true eI [aR 11 (some 0), aR 7 (some h1), aI v2, aI v3] σ (zro (f11_areSameHomes h1 v2 v3 σ) σ) :=
  zMet_ofR [(0, aR 11 (some 0)), (1, aR 7 (some h1)), (2, aI v2), (3, aI v3)] (by decide +kernel) (fun h => by cases h) (Nat.le_of_ble_eq_true rfl) rfl fun E _ => x11_areSameHomes E  h1 v2 v3 σ
abbrev r11_rivals : Room := { frames := 6, cells := 0, slots := 0, locals := 143 }
abbrev m11_rivals : zMu := (RX11, 9, (some .int), r11_rivals, false)
set_option maxRecDepth 20000 in
theorem xl11_rivals_69 (E : zEn)   (h3 : Int32) (h4 : Nat) (h5 : Int32) (h6 : Int32) (σ : zSt)   : ∀ (n : Nat) (v7 : Int32) (v8 : Int32), X E cX11_rivals m11_rivals true (zQw E true eI r11_rivals) 0 0 σ [(0, aR 11 (some 0)), (3, aI h3), (4, aR 7 (some h4)), (5, aI h5), (6, aI h6), (7, aI v7), (8, aI v8)] 69 [] (f11_rivals_L69 h3 h4 h5 h6 σ n v7 v8) := by
  intro n
  induction n with
  | zero => intros; exact x_none
  | succ n ih =>
    intro v7 v8
    rw [f11_rivals_L69]
    refine x_iload (pc := 69) 8 dX11_rivals_69 rfl ?_
    refine x_bipush (pc := 71) 30 dX11_rivals_71 rfl ?_
    refine x_icmp_gt (pc := 73) 120 dX11_rivals_73 (by decide) (fun _ => ?_) (fun _ => ?_)
    ·
      refine x_iload (pc := 120) 7 dX11_rivals_120 rfl ?_
      exact x_iret (rm := r11_rivals) rfl rfl dX11_rivals_122
    ·
      refine x_iload (pc := 76) 8 dX11_rivals_76 rfl ?_
      refine x_callSr (pc := 78) (as := [aI v8]) (rest := []) (fun l => c_11_isGroup l true v8 σ) md_X11_isGroup tk_631 tk_630 dX11_rivals_78 rfl ⟨by decide, by decide, by decide, by decide⟩ ⟨fun _ => rfl, fun _ => Or.inl rfl⟩ rfl (Nat.le_of_ble_eq_true rfl) (fun r8 => ?_)
      show X E _ _ _ _ 0 0 _ _ _ [aI r8] _
      refine x_join (P := fun (j10 : Int32 → Option (Int32 × zSt)) => ∀ (a9 : Int32), X E cX11_rivals m11_rivals true (zQw E true eI r11_rivals) 0 0 σ [(0, aR 11 (some 0)), (3, aI h3), (4, aR 7 (some h4)), (5, aI h5), (6, aI h6), (7, aI a9), (8, aI v8)] 114 [] (j10 a9)) ?_ ?_
      · intro a9
        refine x_iinc (pc := 114) (als' := [(8, aI (v8 + 1)), (0, aR 11 (some 0)), (3, aI h3), (4, aR 7 (some h4)), (5, aI h5), (6, aI h6), (7, aI a9)]) 8 6 (c := 1) dX11_rivals_114 rfl rfl (by decide) rfl ?_
        refine x_nameV (g := fun y13 => [(8, aI y13), (0, aR 11 (some 0)), (3, aI h3), (4, aR 7 (some h4)), (5, aI h5), (6, aI h6), (7, aI a9)]) (fun x12 => ?_) rfl
        refine x_goto (pc := 117) 69 dX11_rivals_117 (by decide) ?_
        exact x_sub [1, 2, 3, 4, 5, 6, 0] rfl (ih a9 x12)
      · intro j10 hj11
        refine x_if_eq (pc := 81) 114 dX11_rivals_81 (by decide) (fun _ => ?_) (fun _ => ?_)
        ·
          exact hj11 v7
        ·
          refine x_aload_n (pc := 84) 0 dX11_rivals_84 rfl rfl ?_
          refine x_aload (pc := 85) 4 dX11_rivals_85 rfl ?_
          refine x_iload (pc := 87) 8 dX11_rivals_87 rfl ?_
          refine x_iload (pc := 89) 5 dX11_rivals_89 rfl ?_
          refine x_callVr (pc := 91) (as := [aR 7 (some h4), aI v8, aI h5]) (rest := []) (fun l => c_11_chanceOf l h4 v8 h5 σ) md_X11_chanceOf ⟨_, _, rfl, by decide⟩ tk_655 tp_17 tk_653 dX11_rivals_91 rfl ⟨by decide, by decide, by decide, by decide⟩ ⟨fun _ => rfl, fun _ => Or.inl rfl⟩ rfl (Nat.le_of_ble_eq_true rfl) (fun r14 => ?_)
          show X E _ _ _ _ 0 0 _ _ _ [aI r14] _
          refine x_iload_n (pc := 94) 3 dX11_rivals_94 rfl rfl ?_
          refine x_icmp_ge (pc := 95) 114 dX11_rivals_95 (by decide) (fun _ => ?_) (fun _ => ?_)
          ·
            exact hj11 v7
          ·
            refine x_aload_n (pc := 98) 0 dX11_rivals_98 rfl rfl ?_
            refine x_aload (pc := 99) 4 dX11_rivals_99 rfl ?_
            refine x_iload (pc := 101) 8 dX11_rivals_101 rfl ?_
            refine x_iload (pc := 103) 6 dX11_rivals_103 rfl ?_
            refine x_callVr (pc := 105) (as := [aR 7 (some h4), aI v8, aI h6]) (rest := []) (fun l => c_11_areSameHomes l h4 v8 h6 σ) md_X11_areSameHomes ⟨_, _, rfl, by decide⟩ tk_681 tp_19 tk_679 dX11_rivals_105 rfl ⟨by decide, by decide, by decide, by decide⟩ ⟨fun _ => rfl, fun _ => Or.inl rfl⟩ rfl (Nat.le_of_ble_eq_true rfl) (fun r15 => ?_)
            show X E _ _ _ _ 0 0 _ _ _ [aI r15] _
            refine x_if_ne (pc := 108) 114 dX11_rivals_108 (by decide) (fun _ => ?_) (fun _ => ?_)
            ·
              exact hj11 v7
            ·
              refine x_iinc (pc := 111) (als' := [(7, aI (v7 + 1)), (0, aR 11 (some 0)), (3, aI h3), (4, aR 7 (some h4)), (5, aI h5), (6, aI h6), (8, aI v8)]) 7 5 (c := 1) dX11_rivals_111 rfl rfl (by decide) rfl ?_
              refine x_nameV (g := fun y17 => [(7, aI y17), (0, aR 11 (some 0)), (3, aI h3), (4, aR 7 (some h4)), (5, aI h5), (6, aI h6), (8, aI v8)]) (fun x16 => ?_) rfl
              exact x_sub [1, 2, 3, 4, 5, 0, 6] rfl (hj11 x16)
set_option maxRecDepth 20000 in
theorem x11_rivals (E : zEn)  (v1 : Int32) (v2 : Int32) (v3 : Int32) (σ : zSt) : X E cX11_rivals m11_rivals true (zQw E true eI r11_rivals) 0 0 σ [(0, aR 11 (some 0)), (1, aI v1), (2, aI v2), (3, aI v3)] 0 [] (f11_rivals v1 v2 v3 σ) := by
  unfold f11_rivals
  refine x_aload_n (pc := 0) 0 dX11_rivals_0 rfl rfl ?_
  refine x_iload_n (pc := 1) 1 dX11_rivals_1 rfl rfl ?_
  refine x_callVr (pc := 2) (as := [aI v1]) (rest := []) (fun l => c_11_kindAt l v1 σ) md_X11_kindAt ⟨_, _, rfl, by decide⟩ tk_382 tp_6 tk_380 dX11_rivals_2 rfl ⟨by decide, by decide, by decide, by decide⟩ ⟨fun _ => rfl, fun _ => Or.inl rfl⟩ rfl (Nat.le_of_ble_eq_true rfl) (fun o2 => ?_)
  show X E _ _ _ _ 0 0 _ _ _ [aR 7 o2] _
  refine x_astore (pc := 5) (als' := [(4, aR 7 o2), (0, aR 11 (some 0)), (1, aI v1), (2, aI v2), (3, aI v3)]) 4 dX11_rivals_5 (by decide) rfl ?_
  refine x_aload (pc := 7) 4 dX11_rivals_7 rfl ?_
  rcases o2 with _ | i3
  ·
    refine x_ifnullN (pc := 9) 31 dX11_rivals_9 (by decide) ?_
    refine x_iconst (pc := 31) (-1) dX11_rivals_31 rfl ?_
    exact x_iret (rm := r11_rivals) rfl rfl dX11_rivals_32
  ·
    refine x_ifnullS (pc := 9) dX11_rivals_9 ?_
    refine x_iload_n (pc := 12) 2 dX11_rivals_12 rfl rfl ?_
    refine x_callSr (pc := 13) (as := [aI v2]) (rest := []) (fun l => c_11_isDay l true v2 σ) md_X11_isDay tk_576 tk_575 dX11_rivals_13 rfl ⟨by decide, by decide, by decide, by decide⟩ ⟨fun _ => rfl, fun _ => Or.inl rfl⟩ rfl (Nat.le_of_ble_eq_true rfl) (fun r4 => ?_)
    show X E _ _ _ _ 0 0 _ _ _ [aI r4] _
    refine x_if_eq (pc := 16) 31 dX11_rivals_16 (by decide) (fun _ => ?_) (fun _ => ?_)
    ·
      refine x_iconst (pc := 31) (-1) dX11_rivals_31 rfl ?_
      exact x_iret (rm := r11_rivals) rfl rfl dX11_rivals_32
    ·
      refine x_iload_n (pc := 19) 3 dX11_rivals_19 rfl rfl ?_
      refine x_iconst (pc := 20) 1 dX11_rivals_20 rfl ?_
      refine x_icmp_lt (pc := 21) 31 dX11_rivals_21 (by decide) (fun _ => ?_) (fun _ => ?_)
      ·
        refine x_iconst (pc := 31) (-1) dX11_rivals_31 rfl ?_
        exact x_iret (rm := r11_rivals) rfl rfl dX11_rivals_32
      ·
        refine x_iload_n (pc := 24) 3 dX11_rivals_24 rfl rfl ?_
        refine x_sipush (pc := 25) 9999 dX11_rivals_25 rfl ?_
        refine x_icmp_le (pc := 28) 33 dX11_rivals_28 (by decide) (fun _ => ?_) (fun _ => ?_)
        ·
          refine x_aload_n (pc := 33) 0 dX11_rivals_33 rfl rfl ?_
          refine x_aload (pc := 34) 4 dX11_rivals_34 rfl ?_
          refine x_iload_n (pc := 36) 2 dX11_rivals_36 rfl rfl ?_
          refine x_callV (pc := 37) (as := [aR 7 (some i3), aI v2]) (rest := []) (fun l => c_11_markHomesWith l i3 v2 σ) md_X11_markHomesWith ⟨_, _, rfl, by decide⟩ tk_635 tp_13 tk_633 dX11_rivals_37 rfl ⟨by decide, by decide, by decide, by decide⟩ ⟨fun _ => rfl, fun _ => Or.inl rfl⟩ rfl (Nat.le_of_ble_eq_true rfl) (fun r5 s6 => ?_)
          show X E _ _ _ _ 0 0 _ _ _ [aI r5] _
          refine x_istore (pc := 40) (als' := [(5, aI r5), (4, aR 7 (some i3)), (0, aR 11 (some 0)), (1, aI v1), (2, aI v2), (3, aI v3)]) 5 dX11_rivals_40 (by decide) rfl ?_
          refine x_aload_n (pc := 42) 0 dX11_rivals_42 rfl rfl ?_
          refine x_aload (pc := 43) 4 dX11_rivals_43 rfl ?_
          refine x_iload (pc := 45) 5 dX11_rivals_45 rfl ?_
          refine x_iload_n (pc := 47) 3 dX11_rivals_47 rfl rfl ?_
          refine x_callVr (pc := 48) (as := [aR 7 (some i3), aI r5, aI v3]) (rest := []) (fun l => c_11_likeliestGroup l i3 r5 v3 s6) md_X11_likeliestGroup ⟨_, _, rfl, by decide⟩ tk_673 tp_18 tk_671 dX11_rivals_48 rfl ⟨by decide, by decide, by decide, by decide⟩ ⟨fun _ => rfl, fun _ => Or.inl rfl⟩ rfl (Nat.le_of_ble_eq_true rfl) (fun r7 => ?_)
          show X E _ _ _ _ 0 0 _ _ _ [aI r7] _
          refine x_istore (pc := 51) (als' := [(6, aI r7), (5, aI r5), (4, aR 7 (some i3)), (0, aR 11 (some 0)), (1, aI v1), (2, aI v2), (3, aI v3)]) 6 dX11_rivals_51 (by decide) rfl ?_
          refine x_iload (pc := 53) 6 dX11_rivals_53 rfl ?_
          refine x_bipush (pc := 55) (-4) dX11_rivals_55 rfl ?_
          refine x_icmp_ne (pc := 57) 63 dX11_rivals_57 (by decide) (fun _ => ?_) (fun _ => ?_)
          ·
            refine x_iconst (pc := 63) 0 dX11_rivals_63 rfl ?_
            refine x_istore (pc := 64) (als' := [(7, aI 0), (6, aI r7), (5, aI r5), (4, aR 7 (some i3)), (0, aR 11 (some 0)), (1, aI v1), (2, aI v2), (3, aI v3)]) 7 dX11_rivals_64 (by decide) rfl ?_
            refine x_iconst (pc := 66) 0 dX11_rivals_66 rfl ?_
            refine x_istore (pc := 67) (als' := [(8, aI 0), (7, aI 0), (6, aI r7), (5, aI r5), (4, aR 7 (some i3)), (0, aR 11 (some 0)), (1, aI v1), (2, aI v2), (3, aI v3)]) 8 dX11_rivals_67 (by decide) rfl ?_
            refine x_sub [5, 8, 4, 3, 2, 1, 0] rfl (xl11_rivals_69 E v3 i3 r5 r7 s6 zfuel 0 0)
          ·
            refine x_bipush (pc := 60) (-4) dX11_rivals_60 rfl ?_
            exact x_iret (rm := r11_rivals) rfl rfl dX11_rivals_62
        ·
          refine x_iconst (pc := 31) (-1) dX11_rivals_31 rfl ?_
          exact x_iret (rm := r11_rivals) rfl rfl dX11_rivals_32
theorem c_11_rivals (l : Launch)  (v1 : Int32) (v2 : Int32) (v3 : Int32) (σ : zSt) : zMet l yX11_rivals cX11_rivals 9 (some .int) r11_rivals true eI [aR 11 (some 0), aI v1, aI v2, aI v3] σ (f11_rivals v1 v2 v3 σ) :=
  zMet_of [(0, aR 11 (some 0)), (1, aI v1), (2, aI v2), (3, aI v3)] (by decide +kernel) (fun h => by cases h) (Nat.le_of_ble_eq_true rfl) rfl fun E _ => x11_rivals E  v1 v2 v3 σ
abbrev r11_read : Room := { frames := 2, cells := 0, slots := 0, locals := 42 }
abbrev m11_read : zMu := (RX11, 4, (some .int), r11_read, false)
set_option maxRecDepth 20000 in
theorem x11_read (E : zEn)  (v1 : Int32) (v2 : Int32) (σ : zSt) : X E cX11_read m11_read true (zQw E true eI r11_read) 0 0 σ [(0, aR 11 (some 0)), (1, aI v1), (2, aI v2)] 0 [] (f11_read v1 v2 σ) := by
  unfold f11_read
  refine x_aload_n (pc := 0) 0 dX11_read_0 rfl rfl ?_
  refine x_iload_n (pc := 1) 1 dX11_read_1 rfl rfl ?_
  refine x_callVr (pc := 2) (as := [aI v1]) (rest := []) (fun l => c_11_faultAt l v1 σ) md_X11_faultAt ⟨_, _, rfl, by decide⟩ tk_521 tp_8 tk_519 dX11_read_2 rfl ⟨by decide, by decide, by decide, by decide⟩ ⟨fun _ => rfl, fun _ => Or.inl rfl⟩ rfl (Nat.le_of_ble_eq_true rfl) (fun o2 => ?_)
  show X E _ _ _ _ 0 0 _ _ _ [aR 1 o2] _
  refine x_astore_n (pc := 5) (als' := [(3, aR 1 o2), (0, aR 11 (some 0)), (1, aI v1), (2, aI v2)]) 3 dX11_read_5 rfl (by decide) rfl ?_
  refine x_aload_n (pc := 6) 3 dX11_read_6 rfl rfl ?_
  rcases o2 with _ | i3
  ·
    refine x_ifnullN (pc := 7) 27 dX11_read_7 (by decide) ?_
    refine x_iconst (pc := 27) (-1) dX11_read_27 rfl ?_
    exact x_iret (rm := r11_read) rfl rfl dX11_read_28
  ·
    refine x_ifnullS (pc := 7) dX11_read_7 ?_
    refine x_aload_n (pc := 10) 3 dX11_read_10 rfl rfl ?_
    refine x_getR (pc := 11) fd_1_8 tk_448 dX11_read_11 ?_
    refine x_nameR (fun o4 => ?_)
    rcases o4 with _ | i5
    ·
      refine x_ifnullN (pc := 14) 27 dX11_read_14 (by decide) ?_
      refine x_iconst (pc := 27) (-1) dX11_read_27 rfl ?_
      exact x_iret (rm := r11_read) rfl rfl dX11_read_28
    ·
      refine x_ifnullS (pc := 14) dX11_read_14 ?_
      refine x_iload_n (pc := 17) 2 dX11_read_17 rfl rfl ?_
      refine x_sipush (pc := 18) 10000 dX11_read_18 rfl ?_
      refine x_callSr (pc := 21) (as := [aI v2, aI 10000]) (rest := []) (fun l => c_11_isIn l true v2 10000 σ) md_X11_isIn tk_219 tk_218 dX11_read_21 rfl ⟨by decide, by decide, by decide, by decide⟩ ⟨fun _ => rfl, fun _ => Or.inl rfl⟩ rfl (Nat.le_of_ble_eq_true rfl) (fun r6 => ?_)
      show X E _ _ _ _ 0 0 _ _ _ [aI r6] _
      refine x_if_ne (pc := 24) 29 dX11_read_24 (by decide) (fun _ => ?_) (fun _ => ?_)
      ·
        refine x_aload_n (pc := 29) 3 dX11_read_29 rfl rfl ?_
        refine x_getR (pc := 30) fd_1_8 tk_448 dX11_read_30 ?_
        refine x_nameR (fun o7 => ?_)
        rcases o7 with _ | i8
        · exact x_none
        ·
          skip
          refine x_zocS ?_
          refine x_callVr (pc := 33) (as := []) (rest := []) (fun l => c_3_lastDay l i8 σ) md_X3_lastDay ⟨_, _, rfl, by decide⟩ tk_688 tk_689 tk_687 dX11_read_33 rfl ⟨by decide, by decide, by decide, by decide⟩ ⟨fun _ => rfl, fun _ => Or.inl rfl⟩ rfl (Nat.le_of_ble_eq_true rfl) (fun r9 => ?_)
          show X E _ _ _ _ 0 0 _ _ _ [aI r9] _
          refine x_aload_n (pc := 36) 0 dX11_read_36 rfl rfl ?_
          refine x_getI (pc := 37) fd_11_6 tk_158 dX11_read_37 ?_
          refine x_icmp_ne (pc := 40) 46 dX11_read_40 (by decide) (fun _ => ?_) (fun _ => ?_)
          ·
            refine x_aload_n (pc := 46) 3 dX11_read_46 rfl rfl ?_
            refine x_getR (pc := 47) fd_1_8 tk_448 dX11_read_47 ?_
            refine x_nameR (fun o10 => ?_)
            refine x_aload_n (pc := 50) 0 dX11_read_50 rfl rfl ?_
            refine x_getI (pc := 51) fd_11_6 tk_158 dX11_read_51 ?_
            refine x_iload_n (pc := 54) 2 dX11_read_54 rfl rfl ?_
            rcases o10 with _ | i11
            · exact x_none
            ·
              skip
              refine x_zocS ?_
              refine x_callV (pc := 55) (as := [aI (gI σ 11 0 6), aI v2]) (rest := []) (fun l => c_3_add l i11 (gI σ 11 0 6) v2 σ) md_X3_add ⟨_, _, rfl, by decide⟩ tk_692 tk_693 tk_691 dX11_read_55 rfl ⟨by decide, by decide, by decide, by decide⟩ ⟨fun _ => rfl, fun _ => Or.inl rfl⟩ rfl (Nat.le_of_ble_eq_true rfl) (fun r12 s13 => ?_)
              show X E _ _ _ _ 0 0 _ _ _ [aI r12] _
              refine x_if_eq (pc := 58) 71 dX11_read_58 (by decide) (fun _ => ?_) (fun _ => ?_)
              ·
                refine x_bipush (pc := 71) (-2) dX11_read_71 rfl ?_
                exact x_iret (rm := r11_read) rfl rfl dX11_read_73
              ·
                refine x_aload_n (pc := 61) 3 dX11_read_61 rfl rfl ?_
                refine x_getR (pc := 62) fd_1_8 tk_448 dX11_read_62 ?_
                refine x_nameR (fun o14 => ?_)
                rcases o14 with _ | i15
                · exact x_none
                ·
                  skip
                  refine x_zocS ?_
                  refine x_getI (pc := 65) fd_3_2 tk_420 dX11_read_65 ?_
                  refine x_goto (pc := 68) 73 dX11_read_68 (by decide) ?_
                  exact x_iret (rm := r11_read) rfl rfl dX11_read_73
          ·
            refine x_bipush (pc := 43) (-3) dX11_read_43 rfl ?_
            exact x_iret (rm := r11_read) rfl rfl dX11_read_45
      ·
        refine x_iconst (pc := 27) (-1) dX11_read_27 rfl ?_
        exact x_iret (rm := r11_read) rfl rfl dX11_read_28
theorem c_11_read (l : Launch)  (v1 : Int32) (v2 : Int32) (σ : zSt) : zMet l yX11_read cX11_read 4 (some .int) r11_read true eI [aR 11 (some 0), aI v1, aI v2] σ (f11_read v1 v2 σ) :=
  zMet_of [(0, aR 11 (some 0)), (1, aI v1), (2, aI v2)] (by decide +kernel) (fun h => by cases h) (Nat.le_of_ble_eq_true rfl) rfl fun E _ => x11_read E  v1 v2 σ
abbrev r11_gauge : Room := { frames := 4, cells := 0, slots := 0, locals := 93 }
abbrev m11_gauge : zMu := (RX11, 4, (some .int), r11_gauge, false)
set_option maxRecDepth 20000 in
theorem x11_gauge (E : zEn)  (v1 : Int32) (v2 : Int32) (σ : zSt) : X E cX11_gauge m11_gauge true (zQr E true eI r11_gauge σ) 0 0 σ [(0, aR 11 (some 0)), (1, aI v1), (2, aI v2)] 0 [] (f11_gauge v1 v2 σ) := by
  unfold f11_gauge
  refine x_aload_n (pc := 0) 0 dX11_gauge_0 rfl rfl ?_
  refine x_iload_n (pc := 1) 1 dX11_gauge_1 rfl rfl ?_
  refine x_callVr (pc := 2) (as := [aI v1]) (rest := []) (fun l => c_11_faultAt l v1 σ) md_X11_faultAt ⟨_, _, rfl, by decide⟩ tk_521 tp_8 tk_519 dX11_gauge_2 rfl ⟨by decide, by decide, by decide, by decide⟩ ⟨fun _ => rfl, fun _ => Or.inl rfl⟩ rfl (Nat.le_of_ble_eq_true rfl) (fun o2 => ?_)
  show X E _ _ _ _ 0 0 _ _ _ [aR 1 o2] _
  refine x_astore_n (pc := 5) (als' := [(3, aR 1 o2), (0, aR 11 (some 0)), (1, aI v1), (2, aI v2)]) 3 dX11_gauge_5 rfl (by decide) rfl ?_
  refine x_aload_n (pc := 6) 3 dX11_gauge_6 rfl rfl ?_
  rcases o2 with _ | i3
  ·
    refine x_ifnullN (pc := 7) 24 dX11_gauge_7 (by decide) ?_
    refine x_iconst (pc := 24) (-1) dX11_gauge_24 rfl ?_
    exact x_iret (rm := r11_gauge) rfl rfl dX11_gauge_25
  ·
    refine x_ifnullS (pc := 7) dX11_gauge_7 ?_
    refine x_aload_n (pc := 10) 3 dX11_gauge_10 rfl rfl ?_
    refine x_getR (pc := 11) fd_1_8 tk_448 dX11_gauge_11 ?_
    refine x_nameR (fun o4 => ?_)
    rcases o4 with _ | i5
    ·
      refine x_ifnullN (pc := 14) 24 dX11_gauge_14 (by decide) ?_
      refine x_iconst (pc := 24) (-1) dX11_gauge_24 rfl ?_
      exact x_iret (rm := r11_gauge) rfl rfl dX11_gauge_25
    ·
      refine x_ifnullS (pc := 14) dX11_gauge_14 ?_
      refine x_iload_n (pc := 17) 2 dX11_gauge_17 rfl rfl ?_
      refine x_callSr (pc := 18) (as := [aI v2]) (rest := []) (fun l => c_11_isDay l true v2 σ) md_X11_isDay tk_576 tk_575 dX11_gauge_18 rfl ⟨by decide, by decide, by decide, by decide⟩ ⟨fun _ => rfl, fun _ => Or.inl rfl⟩ rfl (Nat.le_of_ble_eq_true rfl) (fun r6 => ?_)
      show X E _ _ _ _ 0 0 _ _ _ [aI r6] _
      refine x_if_ne (pc := 21) 26 dX11_gauge_21 (by decide) (fun _ => ?_) (fun _ => ?_)
      ·
        refine x_aload_n (pc := 26) 3 dX11_gauge_26 rfl rfl ?_
        refine x_getR (pc := 27) fd_1_8 tk_448 dX11_gauge_27 ?_
        refine x_nameR (fun o7 => ?_)
        refine x_iload_n (pc := 30) 2 dX11_gauge_30 rfl rfl ?_
        rcases o7 with _ | i8
        · exact x_none
        ·
          skip
          refine x_zocS ?_
          refine x_callVr (pc := 31) (as := [aI v2]) (rest := []) (fun l => c_3_says l i8 v2 σ) md_X3_says ⟨_, _, rfl, by decide⟩ tk_700 tk_701 tk_699 dX11_gauge_31 rfl ⟨by decide, by decide, by decide, by decide⟩ ⟨fun _ => rfl, fun _ => Or.inl rfl⟩ rfl (Nat.le_of_ble_eq_true rfl) (fun r9 => ?_)
          show X E _ _ _ _ 0 0 _ _ _ [aI r9] _
          exact x_iret (rm := r11_gauge) rfl rfl dX11_gauge_34
      ·
        refine x_iconst (pc := 24) (-1) dX11_gauge_24 rfl ?_
        exact x_iret (rm := r11_gauge) rfl rfl dX11_gauge_25
theorem c_11_gauge (l : Launch)  (v1 : Int32) (v2 : Int32) (σ : zSt) : zMet l yX11_gauge cX11_gauge 4 (some .int) r11_gauge true eI [aR 11 (some 0), aI v1, aI v2] σ (zro (f11_gauge v1 v2 σ) σ) :=
  zMet_ofR [(0, aR 11 (some 0)), (1, aI v1), (2, aI v2)] (by decide +kernel) (fun h => by cases h) (Nat.le_of_ble_eq_true rfl) rfl fun E _ => x11_gauge E  v1 v2 σ
abbrev r11_pace : Room := { frames := 2, cells := 0, slots := 0, locals := 43 }
abbrev m11_pace : zMu := (RX11, 4, (some .int), r11_pace, false)
set_option maxRecDepth 20000 in
theorem x11_pace (E : zEn)  (v1 : Int32) (v2 : Int32) (σ : zSt) : X E cX11_pace m11_pace true (zQr E true eI r11_pace σ) 0 0 σ [(0, aR 11 (some 0)), (1, aI v1), (2, aI v2)] 0 [] (f11_pace v1 v2 σ) := by
  unfold f11_pace
  refine x_aload_n (pc := 0) 0 dX11_pace_0 rfl rfl ?_
  refine x_iload_n (pc := 1) 1 dX11_pace_1 rfl rfl ?_
  refine x_callVr (pc := 2) (as := [aI v1]) (rest := []) (fun l => c_11_faultAt l v1 σ) md_X11_faultAt ⟨_, _, rfl, by decide⟩ tk_521 tp_8 tk_519 dX11_pace_2 rfl ⟨by decide, by decide, by decide, by decide⟩ ⟨fun _ => rfl, fun _ => Or.inl rfl⟩ rfl (Nat.le_of_ble_eq_true rfl) (fun o2 => ?_)
  show X E _ _ _ _ 0 0 _ _ _ [aR 1 o2] _
  refine x_astore_n (pc := 5) (als' := [(3, aR 1 o2), (0, aR 11 (some 0)), (1, aI v1), (2, aI v2)]) 3 dX11_pace_5 rfl (by decide) rfl ?_
  refine x_aload_n (pc := 6) 3 dX11_pace_6 rfl rfl ?_
  rcases o2 with _ | i3
  ·
    refine x_ifnullN (pc := 7) 34 dX11_pace_7 (by decide) ?_
    refine x_ldc (pc := 34) (v := (-2000000000)) dX11_pace_34 tk_303 ?_
    exact x_iret (rm := r11_pace) rfl rfl dX11_pace_36
  ·
    refine x_ifnullS (pc := 7) dX11_pace_7 ?_
    refine x_aload_n (pc := 10) 3 dX11_pace_10 rfl rfl ?_
    refine x_getR (pc := 11) fd_1_8 tk_448 dX11_pace_11 ?_
    refine x_nameR (fun o4 => ?_)
    rcases o4 with _ | i5
    ·
      refine x_ifnullN (pc := 14) 34 dX11_pace_14 (by decide) ?_
      refine x_ldc (pc := 34) (v := (-2000000000)) dX11_pace_34 tk_303 ?_
      exact x_iret (rm := r11_pace) rfl rfl dX11_pace_36
    ·
      refine x_ifnullS (pc := 14) dX11_pace_14 ?_
      refine x_iload_n (pc := 17) 2 dX11_pace_17 rfl rfl ?_
      refine x_if_lt (pc := 18) 34 dX11_pace_18 (by decide) (fun _ => ?_) (fun _ => ?_)
      ·
        refine x_ldc (pc := 34) (v := (-2000000000)) dX11_pace_34 tk_303 ?_
        exact x_iret (rm := r11_pace) rfl rfl dX11_pace_36
      ·
        refine x_iload_n (pc := 21) 2 dX11_pace_21 rfl rfl ?_
        refine x_aload_n (pc := 22) 3 dX11_pace_22 rfl rfl ?_
        refine x_getR (pc := 23) fd_1_8 tk_448 dX11_pace_23 ?_
        refine x_nameR (fun o6 => ?_)
        rcases o6 with _ | i7
        · exact x_none
        ·
          skip
          refine x_zocS ?_
          refine x_getI (pc := 26) fd_3_2 tk_420 dX11_pace_26 ?_
          refine x_iconst (pc := 29) 1 dX11_pace_29 rfl ?_
          refine x_isub (pc := 30) dX11_pace_30 ?_
          refine x_icmp_lt (pc := 31) 37 dX11_pace_31 (by decide) (fun _ => ?_) (fun _ => ?_)
          ·
            refine x_aload_n (pc := 37) 3 dX11_pace_37 rfl rfl ?_
            refine x_getR (pc := 38) fd_1_8 tk_448 dX11_pace_38 ?_
            refine x_nameR (fun o8 => ?_)
            refine x_iload_n (pc := 41) 2 dX11_pace_41 rfl rfl ?_
            rcases o8 with _ | i9
            · exact x_none
            ·
              skip
              refine x_zocS ?_
              refine x_callVr (pc := 42) (as := [aI v2]) (rest := []) (fun l => c_3_paceAt l i9 v2 σ) md_X3_paceAt ⟨_, _, rfl, by decide⟩ tk_708 tk_709 tk_726 dX11_pace_42 rfl ⟨by decide, by decide, by decide, by decide⟩ ⟨fun _ => rfl, fun _ => Or.inl rfl⟩ rfl (Nat.le_of_ble_eq_true rfl) (fun r10 => ?_)
              show X E _ _ _ _ 0 0 _ _ _ [aI r10] _
              exact x_iret (rm := r11_pace) rfl rfl dX11_pace_45
          ·
            refine x_ldc (pc := 34) (v := (-2000000000)) dX11_pace_34 tk_303 ?_
            exact x_iret (rm := r11_pace) rfl rfl dX11_pace_36
theorem c_11_pace (l : Launch)  (v1 : Int32) (v2 : Int32) (σ : zSt) : zMet l yX11_pace cX11_pace 4 (some .int) r11_pace true eI [aR 11 (some 0), aI v1, aI v2] σ (zro (f11_pace v1 v2 σ) σ) :=
  zMet_ofR [(0, aR 11 (some 0)), (1, aI v1), (2, aI v2)] (by decide +kernel) (fun h => by cases h) (Nat.le_of_ble_eq_true rfl) rfl fun E _ => x11_pace E  v1 v2 σ
abbrev r11_isSinking : Room := { frames := 5, cells := 0, slots := 0, locals := 114 }
abbrev m11_isSinking : zMu := (RX11, 4, (some .boolean), r11_isSinking, false)
set_option maxRecDepth 20000 in
theorem xl11_isSinking_2 (E : zEn)   (h1 : Nat) (σ : zSt)   : ∀ (n : Nat) (v2 : Int32), X E cX11_isSinking m11_isSinking true (zQr E true eI r11_isSinking σ) 0 0 σ [(0, aR 11 (some 0)), (1, aR 5 (some h1)), (2, aI v2)] 2 [] (f11_isSinking_L2 h1 σ n v2) := by
  intro n
  induction n with
  | zero => intros; exact x_none
  | succ n ih =>
    intro v2
    rw [f11_isSinking_L2]
    refine x_iload_n (pc := 2) 2 dX11_isSinking_2 rfl rfl ?_
    refine x_aload_n (pc := 3) 0 dX11_isSinking_3 rfl rfl ?_
    refine x_getI (pc := 4) fd_11_5 tk_157 dX11_isSinking_4 ?_
    refine x_icmp_ge (pc := 7) 56 dX11_isSinking_7 (by decide) (fun _ => ?_) (fun _ => ?_)
    ·
      refine x_iconst (pc := 56) 0 dX11_isSinking_56 rfl ?_
      exact x_zretC (rm := r11_isSinking) rfl rfl (by decide) dX11_isSinking_57
    ·
      refine x_aload_n (pc := 10) 0 dX11_isSinking_10 rfl rfl ?_
      refine x_getF (pc := 11) (j := 0) fd_11_4 rfl rfl tk_156 dX11_isSinking_11 ?_
      refine x_iload_n (pc := 14) 2 dX11_isSinking_14 rfl rfl ?_
      refine x_aald (pc := 15) (g0 := 1) ar_1204 (by decide) rfl dX11_isSinking_15 (fun m1 => ?_)
      refine x_nameR (fun o2 => ?_)
      refine x_astore_n (pc := 16) (als' := [(3, aR 1 o2), (0, aR 11 (some 0)), (1, aR 5 (some h1)), (2, aI v2)]) 3 dX11_isSinking_16 rfl (by decide) rfl ?_
      refine x_aload_n (pc := 17) 3 dX11_isSinking_17 rfl rfl ?_
      rcases o2 with _ | i3
      · exact x_none
      ·
        skip
        refine x_zocS ?_
        refine x_getR (pc := 18) fd_1_1 tk_432 dX11_isSinking_18 ?_
        refine x_nameR (fun o4 => ?_)
        refine x_aload_n (pc := 21) 1 dX11_isSinking_21 rfl rfl ?_
        refine x_join (P := fun (j5 : Option Int32) => X E cX11_isSinking m11_isSinking true (zQr E true eI r11_isSinking σ) 0 0 σ [(0, aR 11 (some 0)), (1, aR 5 (some h1)), (2, aI v2)] 50 [] j5) ?_ ?_
        ·
          refine x_iinc (pc := 50) (als' := [(2, aI (v2 + 1)), (0, aR 11 (some 0)), (1, aR 5 (some h1))]) 2 2 (c := 1) dX11_isSinking_50 rfl rfl (by decide) rfl ?_
          refine x_nameV (g := fun y8 => [(2, aI y8), (0, aR 11 (some 0)), (1, aR 5 (some h1))]) (fun x7 => ?_) rfl
          refine x_goto (pc := 53) 2 dX11_isSinking_53 (by decide) ?_
          exact x_sub [1, 2, 0] rfl (ih x7)
        · intro j5 hj6
          refine x_acmp_ne (pc := 22) 50 (by decide) dX11_isSinking_22 (by decide) (fun _ => ?_) (fun _ => ?_)
          ·
            exact x_sub [1, 2, 3] rfl (hj6)
          ·
            refine x_aload_n (pc := 25) 3 dX11_isSinking_25 rfl rfl ?_
            refine x_aload_n (pc := 26) 0 dX11_isSinking_26 rfl rfl ?_
            refine x_getI (pc := 27) fd_11_6 tk_158 dX11_isSinking_27 ?_
            refine x_callVr (pc := 30) (as := [aI (gI σ 11 0 6)]) (rest := []) (fun l => c_1_isLeftOn l i3 (gI σ 11 0 6) σ) md_X1_isLeftOn ⟨_, _, rfl, by decide⟩ tk_322 tk_323 tk_321 dX11_isSinking_30 rfl ⟨by decide, by decide, by decide, by decide⟩ ⟨fun _ => rfl, fun _ => Or.inl rfl⟩ rfl (Nat.le_of_ble_eq_true rfl) (fun r9 => ?_)
            show X E _ _ _ _ 0 0 _ _ _ [aI r9] _
            refine x_if_eq (pc := 33) 50 dX11_isSinking_33 (by decide) (fun _ => ?_) (fun _ => ?_)
            ·
              exact x_sub [1, 2, 3] rfl (hj6)
            ·
              refine x_aload_n (pc := 36) 3 dX11_isSinking_36 rfl rfl ?_
              refine x_aload_n (pc := 37) 0 dX11_isSinking_37 rfl rfl ?_
              refine x_getI (pc := 38) fd_11_6 tk_158 dX11_isSinking_38 ?_
              refine x_callVr (pc := 41) (as := [aI (gI σ 11 0 6)]) (rest := []) (fun l => c_1_gaugeSays l i3 (gI σ 11 0 6) σ) md_X1_gaugeSays ⟨_, _, rfl, by decide⟩ tk_736 tk_737 tk_735 dX11_isSinking_41 rfl ⟨by decide, by decide, by decide, by decide⟩ ⟨fun _ => rfl, fun _ => Or.inl rfl⟩ rfl (Nat.le_of_ble_eq_true rfl) (fun r10 => ?_)
              show X E _ _ _ _ 0 0 _ _ _ [aI r10] _
              refine x_iconst (pc := 44) 2 dX11_isSinking_44 rfl ?_
              refine x_icmp_ne (pc := 45) 50 dX11_isSinking_45 (by decide) (fun _ => ?_) (fun _ => ?_)
              ·
                exact x_sub [1, 2, 3] rfl (hj6)
              ·
                refine x_iconst (pc := 48) 1 dX11_isSinking_48 rfl ?_
                exact x_zretC (rm := r11_isSinking) rfl rfl (by decide) dX11_isSinking_49
set_option maxRecDepth 20000 in
theorem x11_isSinking (E : zEn)  (h1 : Nat) (σ : zSt) : X E cX11_isSinking m11_isSinking true (zQr E true eI r11_isSinking σ) 0 0 σ [(0, aR 11 (some 0)), (1, aR 5 (some h1))] 0 [] (f11_isSinking h1 σ) := by
  unfold f11_isSinking
  refine x_iconst (pc := 0) 0 dX11_isSinking_0 rfl ?_
  refine x_istore_n (pc := 1) (als' := [(2, aI 0), (0, aR 11 (some 0)), (1, aR 5 (some h1))]) 2 dX11_isSinking_1 rfl (by decide) rfl ?_
  refine x_sub [1, 2, 0] rfl (xl11_isSinking_2 E h1 σ zfuel 0)
theorem c_11_isSinking (l : Launch)  (h1 : Nat) (σ : zSt) : zMet l yX11_isSinking cX11_isSinking 4 (some .boolean) r11_isSinking true eI [aR 11 (some 0), aR 5 (some h1)] σ (zro (f11_isSinking h1 σ) σ) :=
  zMet_ofR [(0, aR 11 (some 0)), (1, aR 5 (some h1))] (by decide +kernel) (fun h => by cases h) (Nat.le_of_ble_eq_true rfl) rfl fun E _ => x11_isSinking E  h1 σ
abbrev r11_sinking : Room := { frames := 6, cells := 0, slots := 0, locals := 137 }
abbrev m11_sinking : zMu := (RX11, 8, (some .int), r11_sinking, false)
set_option maxRecDepth 20000 in
theorem xl11_sinking_30 (E : zEn)   (h1 : Int32) (h2 : Int32) (σ : zSt) {K111 : Int32 → Int32 → Int32 → Option Int32} (hK111 : ∀ (v3 : Int32) (v4 : Int32) (v5 : Int32), X E cX11_sinking m11_sinking true (zQr E true eI r11_sinking σ) 0 0 σ [(2, aI h2), (3, aI v3), (4, aI v4), (5, aI v5)] 111 [] (K111 v3 v4 v5)) : ∀ (n : Nat) (v3 : Int32) (v4 : Int32) (v5 : Int32) (v6 : Int32), X E cX11_sinking m11_sinking true (zQr E true eI r11_sinking σ) 0 0 σ [(0, aR 11 (some 0)), (1, aI h1), (2, aI h2), (3, aI v3), (4, aI v4), (5, aI v5), (6, aI v6)] 30 [] (f11_sinking_L30 h1 h2 σ K111 n v3 v4 v5 v6) := by
  intro n
  induction n with
  | zero => intros; exact x_none
  | succ n ih =>
    intro v3 v4 v5 v6
    rw [f11_sinking_L30]
    refine x_iload (pc := 30) 6 dX11_sinking_30 rfl ?_
    refine x_aload_n (pc := 32) 0 dX11_sinking_32 rfl rfl ?_
    refine x_getI (pc := 33) fd_11_1 tk_153 dX11_sinking_33 ?_
    refine x_icmp_ge (pc := 36) 111 dX11_sinking_36 (by decide) (fun _ => ?_) (fun _ => ?_)
    ·
      exact x_sub [2, 3, 4, 5] rfl (hK111 v3 v4 v5)
    ·
      refine x_aload_n (pc := 39) 0 dX11_sinking_39 rfl rfl ?_
      refine x_getF (pc := 40) (j := 0) fd_11_0 rfl rfl tk_152 dX11_sinking_40 ?_
      refine x_iload (pc := 43) 6 dX11_sinking_43 rfl ?_
      refine x_aald (pc := 45) (g0 := 5) ar_1200 (by decide) rfl dX11_sinking_45 (fun m3 => ?_)
      refine x_nameR (fun o4 => ?_)
      refine x_astore (pc := 46) (als' := [(7, aR 5 o4), (0, aR 11 (some 0)), (1, aI h1), (2, aI h2), (3, aI v3), (4, aI v4), (5, aI v5), (6, aI v6)]) 7 dX11_sinking_46 (by decide) rfl ?_
      refine x_aload (pc := 48) 7 dX11_sinking_48 rfl ?_
      rcases o4 with _ | i5
      · exact x_none
      ·
        skip
        refine x_zocS ?_
        refine x_getI (pc := 50) fd_5_0 tk_228 dX11_sinking_50 ?_
        refine x_iload_n (pc := 53) 1 dX11_sinking_53 rfl rfl ?_
        refine x_join (P := fun (j9 : Int32 → Int32 → Int32 → Option Int32) => ∀ (a6 : Int32) (a7 : Int32) (a8 : Int32), X E cX11_sinking m11_sinking true (zQr E true eI r11_sinking σ) 0 0 σ [(0, aR 11 (some 0)), (1, aI h1), (2, aI h2), (3, aI a6), (4, aI a7), (5, aI a8), (6, aI v6)] 105 [] (j9 a6 a7 a8)) ?_ ?_
        · intro a6 a7 a8
          refine x_iinc (pc := 105) (als' := [(6, aI (v6 + 1)), (0, aR 11 (some 0)), (1, aI h1), (2, aI h2), (3, aI a6), (4, aI a7), (5, aI a8)]) 6 6 (c := 1) dX11_sinking_105 rfl rfl (by decide) rfl ?_
          refine x_nameV (g := fun y12 => [(6, aI y12), (0, aR 11 (some 0)), (1, aI h1), (2, aI h2), (3, aI a6), (4, aI a7), (5, aI a8)]) (fun x11 => ?_) rfl
          refine x_goto (pc := 108) 30 dX11_sinking_108 (by decide) ?_
          exact x_sub [1, 2, 3, 4, 5, 6, 0] rfl (ih a6 a7 a8 x11)
        · intro j9 hj10
          refine x_icmp_ne (pc := 54) 105 dX11_sinking_54 (by decide) (fun _ => ?_) (fun _ => ?_)
          ·
            exact x_sub [1, 2, 3, 4, 5, 6, 7] rfl (hj10 v3 v4 v5)
          ·
            refine x_aload_n (pc := 57) 0 dX11_sinking_57 rfl rfl ?_
            refine x_aload (pc := 58) 7 dX11_sinking_58 rfl ?_
            refine x_callVr (pc := 60) (as := [aR 5 (some i5)]) (rest := []) (fun l => c_11_isSinking l i5 σ) md_X11_isSinking ⟨_, _, rfl, by decide⟩ tk_733 tp_23 tk_731 dX11_sinking_60 rfl ⟨by decide, by decide, by decide, by decide⟩ ⟨fun _ => rfl, fun _ => Or.inl rfl⟩ rfl (Nat.le_of_ble_eq_true rfl) (fun r13 => ?_)
            show X E _ _ _ _ 0 0 _ _ _ [aI r13] _
            refine x_if_eq (pc := 63) 105 dX11_sinking_63 (by decide) (fun _ => ?_) (fun _ => ?_)
            ·
              exact x_sub [1, 2, 3, 4, 5, 6, 7] rfl (hj10 v3 v4 v5)
            ·
              refine x_iload_n (pc := 66) 3 dX11_sinking_66 rfl rfl ?_
              refine x_join (P := fun (j15 : Int32 → Option Int32) => ∀ (a14 : Int32), X E cX11_sinking m11_sinking true (zQr E true eI r11_sinking σ) 0 0 σ [(0, aR 11 (some 0)), (1, aI h1), (2, aI h2), (3, aI v3), (5, aI v5), (6, aI v6), (7, aR 5 (some i5))] 88 [aI a14] (j15 a14)) ?_ ?_
              · intro a14
                refine x_istore (pc := 88) (als' := [(4, aI a14), (0, aR 11 (some 0)), (1, aI h1), (2, aI h2), (3, aI v3), (5, aI v5), (6, aI v6), (7, aR 5 (some i5))]) 4 dX11_sinking_88 (by decide) rfl ?_
                refine x_iload (pc := 90) 5 dX11_sinking_90 rfl ?_
                refine x_aload (pc := 92) 7 dX11_sinking_92 rfl ?_
                refine x_getI (pc := 94) fd_5_1 tk_230 dX11_sinking_94 ?_
                refine x_zmax (pc := 97) (rest := []) tk_743 tk_744 tk_14 tk_745 dX11_sinking_97 ⟨by decide, by decide, by decide, by decide⟩ (Nat.le_of_ble_eq_true rfl) ?_
                refine x_nameI (fun x17 => ?_)
                refine x_istore (pc := 100) (als' := [(5, aI x17), (4, aI a14), (0, aR 11 (some 0)), (1, aI h1), (2, aI h2), (3, aI v3), (6, aI v6), (7, aR 5 (some i5))]) 5 dX11_sinking_100 (by decide) rfl ?_
                refine x_iinc (pc := 102) (als' := [(3, aI (v3 + 1)), (5, aI x17), (4, aI a14), (0, aR 11 (some 0)), (1, aI h1), (2, aI h2), (6, aI v6), (7, aR 5 (some i5))]) 3 5 (c := 1) dX11_sinking_102 rfl rfl (by decide) rfl ?_
                refine x_nameV (g := fun y19 => [(3, aI y19), (5, aI x17), (4, aI a14), (0, aR 11 (some 0)), (1, aI h1), (2, aI h2), (6, aI v6), (7, aR 5 (some i5))]) (fun x18 => ?_) rfl
                exact x_sub [3, 4, 5, 0, 2, 1, 6] rfl (hj10 x18 a14 x17)
              · intro j15 hj16
                refine x_if_ne (pc := 67) 78 dX11_sinking_67 (by decide) (fun _ => ?_) (fun _ => ?_)
                ·
                  refine x_iload (pc := 78) 4 dX11_sinking_78 rfl ?_
                  refine x_aload (pc := 80) 7 dX11_sinking_80 rfl ?_
                  refine x_getI (pc := 82) fd_5_1 tk_230 dX11_sinking_82 ?_
                  refine x_zmin (pc := 85) (rest := []) tk_740 tk_741 tk_14 tk_742 dX11_sinking_85 ⟨by decide, by decide, by decide, by decide⟩ (Nat.le_of_ble_eq_true rfl) ?_
                  exact x_sub [1, 2, 3, 4, 6, 7, 0] rfl (hj16 (zmin v4 (gI σ 5 i5 1)))
                ·
                  refine x_aload (pc := 70) 7 dX11_sinking_70 rfl ?_
                  refine x_getI (pc := 72) fd_5_1 tk_230 dX11_sinking_72 ?_
                  refine x_goto (pc := 75) 88 dX11_sinking_75 (by decide) ?_
                  exact x_sub [1, 2, 3, 4, 6, 7, 0] rfl (hj16 (gI σ 5 i5 1))
set_option maxRecDepth 20000 in
theorem x11_sinking (E : zEn)  (v1 : Int32) (v2 : Int32) (σ : zSt) : X E cX11_sinking m11_sinking true (zQr E true eI r11_sinking σ) 0 0 σ [(0, aR 11 (some 0)), (1, aI v1), (2, aI v2)] 0 [] (f11_sinking v1 v2 σ) := by
  unfold f11_sinking
  refine x_iload_n (pc := 0) 1 dX11_sinking_0 rfl rfl ?_
  refine x_bipush (pc := 1) 8 dX11_sinking_1 rfl ?_
  refine x_callSr (pc := 3) (as := [aI v1, aI 8]) (rest := []) (fun l => c_11_isIn l true v1 8 σ) md_X11_isIn tk_219 tk_218 dX11_sinking_3 rfl ⟨by decide, by decide, by decide, by decide⟩ ⟨fun _ => rfl, fun _ => Or.inl rfl⟩ rfl (Nat.le_of_ble_eq_true rfl) (fun r1 => ?_)
  show X E _ _ _ _ 0 0 _ _ _ [aI r1] _
  refine x_if_eq (pc := 6) 17 dX11_sinking_6 (by decide) (fun _ => ?_) (fun _ => ?_)
  ·
    refine x_iconst (pc := 17) (-1) dX11_sinking_17 rfl ?_
    exact x_iret (rm := r11_sinking) rfl rfl dX11_sinking_18
  ·
    refine x_iload_n (pc := 9) 2 dX11_sinking_9 rfl rfl ?_
    refine x_iconst (pc := 10) 3 dX11_sinking_10 rfl ?_
    refine x_callSr (pc := 11) (as := [aI v2, aI 3]) (rest := []) (fun l => c_11_isIn l true v2 3 σ) md_X11_isIn tk_219 tk_218 dX11_sinking_11 rfl ⟨by decide, by decide, by decide, by decide⟩ ⟨fun _ => rfl, fun _ => Or.inl rfl⟩ rfl (Nat.le_of_ble_eq_true rfl) (fun r2 => ?_)
    show X E _ _ _ _ 0 0 _ _ _ [aI r2] _
    refine x_if_ne (pc := 14) 19 dX11_sinking_14 (by decide) (fun _ => ?_) (fun _ => ?_)
    ·
      refine x_iconst (pc := 19) 0 dX11_sinking_19 rfl ?_
      refine x_istore_n (pc := 20) (als' := [(3, aI 0), (0, aR 11 (some 0)), (1, aI v1), (2, aI v2)]) 3 dX11_sinking_20 rfl (by decide) rfl ?_
      refine x_iconst (pc := 21) (-1) dX11_sinking_21 rfl ?_
      refine x_istore (pc := 22) (als' := [(4, aI (-1)), (3, aI 0), (0, aR 11 (some 0)), (1, aI v1), (2, aI v2)]) 4 dX11_sinking_22 (by decide) rfl ?_
      refine x_iconst (pc := 24) (-1) dX11_sinking_24 rfl ?_
      refine x_istore (pc := 25) (als' := [(5, aI (-1)), (4, aI (-1)), (3, aI 0), (0, aR 11 (some 0)), (1, aI v1), (2, aI v2)]) 5 dX11_sinking_25 (by decide) rfl ?_
      refine x_iconst (pc := 27) 0 dX11_sinking_27 rfl ?_
      refine x_istore (pc := 28) (als' := [(6, aI 0), (5, aI (-1)), (4, aI (-1)), (3, aI 0), (0, aR 11 (some 0)), (1, aI v1), (2, aI v2)]) 6 dX11_sinking_28 (by decide) rfl ?_
      refine x_sub [4, 5, 6, 3, 2, 1, 0] rfl (xl11_sinking_30 E v1 v2 σ (fun a20 a21 a22 => ?_) zfuel 0 (-1) (-1) 0)
      ·
        refine x_iload_n (pc := 111) 2 dX11_sinking_111 rfl rfl ?_
        refine x_if_ne (pc := 112) 117 dX11_sinking_112 (by decide) (fun _ => ?_) (fun _ => ?_)
        ·
          refine x_iload_n (pc := 117) 2 dX11_sinking_117 rfl rfl ?_
          refine x_iconst (pc := 118) 1 dX11_sinking_118 rfl ?_
          refine x_icmp_ne (pc := 119) 127 dX11_sinking_119 (by decide) (fun _ => ?_) (fun _ => ?_)
          ·
            refine x_iload (pc := 127) 5 dX11_sinking_127 rfl ?_
            exact x_iret (rm := r11_sinking) rfl rfl dX11_sinking_129
          ·
            refine x_iload (pc := 122) 4 dX11_sinking_122 rfl ?_
            refine x_goto (pc := 124) 129 dX11_sinking_124 (by decide) ?_
            exact x_iret (rm := r11_sinking) rfl rfl dX11_sinking_129
        ·
          refine x_iload_n (pc := 115) 3 dX11_sinking_115 rfl rfl ?_
          exact x_iret (rm := r11_sinking) rfl rfl dX11_sinking_116
    ·
      refine x_iconst (pc := 17) (-1) dX11_sinking_17 rfl ?_
      exact x_iret (rm := r11_sinking) rfl rfl dX11_sinking_18
theorem c_11_sinking (l : Launch)  (v1 : Int32) (v2 : Int32) (σ : zSt) : zMet l yX11_sinking cX11_sinking 8 (some .int) r11_sinking true eI [aR 11 (some 0), aI v1, aI v2] σ (zro (f11_sinking v1 v2 σ) σ) :=
  zMet_ofR [(0, aR 11 (some 0)), (1, aI v1), (2, aI v2)] (by decide +kernel) (fun h => by cases h) (Nat.le_of_ble_eq_true rfl) rfl fun E _ => x11_sinking E  v1 v2 σ
abbrev r11_men : Room := { frames := 1, cells := 0, slots := 0, locals := 21 }
abbrev m11_men : zMu := (RX11, 4, (some .int), r11_men, false)
set_option maxRecDepth 20000 in
theorem x11_men (E : zEn)  (v1 : Int32) (v2 : Int32) (σ : zSt) : X E cX11_men m11_men true (zQw E true eI r11_men) 0 0 σ [(0, aR 11 (some 0)), (1, aI v1), (2, aI v2)] 0 [] (f11_men v1 v2 σ) := by
  unfold f11_men
  refine x_iload_n (pc := 0) 1 dX11_men_0 rfl rfl ?_
  refine x_bipush (pc := 1) 10 dX11_men_1 rfl ?_
  refine x_callSr (pc := 3) (as := [aI v1, aI 10]) (rest := []) (fun l => c_11_isIn l true v1 10 σ) md_X11_isIn tk_219 tk_218 dX11_men_3 rfl ⟨by decide, by decide, by decide, by decide⟩ ⟨fun _ => rfl, fun _ => Or.inl rfl⟩ rfl (Nat.le_of_ble_eq_true rfl) (fun r1 => ?_)
  show X E _ _ _ _ 0 0 _ _ _ [aI r1] _
  refine x_if_eq (pc := 6) 18 dX11_men_6 (by decide) (fun _ => ?_) (fun _ => ?_)
  ·
    refine x_iconst (pc := 18) (-1) dX11_men_18 rfl ?_
    exact x_iret (rm := r11_men) rfl rfl dX11_men_19
  ·
    refine x_iload_n (pc := 9) 2 dX11_men_9 rfl rfl ?_
    refine x_bipush (pc := 10) 10 dX11_men_10 rfl ?_
    refine x_callSr (pc := 12) (as := [aI v2, aI 10]) (rest := []) (fun l => c_11_isIn l true v2 10 σ) md_X11_isIn tk_219 tk_218 dX11_men_12 rfl ⟨by decide, by decide, by decide, by decide⟩ ⟨fun _ => rfl, fun _ => Or.inl rfl⟩ rfl (Nat.le_of_ble_eq_true rfl) (fun r2 => ?_)
    show X E _ _ _ _ 0 0 _ _ _ [aI r2] _
    refine x_if_ne (pc := 15) 20 dX11_men_15 (by decide) (fun _ => ?_) (fun _ => ?_)
    ·
      refine x_aload_n (pc := 20) 0 dX11_men_20 rfl rfl ?_
      refine x_getF (pc := 21) (j := 0) fd_11_16 rfl rfl tk_168 dX11_men_21 ?_
      refine x_getF (pc := 24) (j := 0) fd_0_0 rfl rfl tk_122 dX11_men_24 ?_
      refine x_iload_n (pc := 27) 1 dX11_men_27 rfl rfl ?_
      refine x_iald (pc := 28) ar_100 dX11_men_28 (fun m3 => ?_)
      refine x_nameI (fun x4 => ?_)
      refine x_istore_n (pc := 29) (als' := [(3, aI x4), (0, aR 11 (some 0)), (1, aI v1), (2, aI v2)]) 3 dX11_men_29 rfl (by decide) rfl ?_
      refine x_aload_n (pc := 30) 0 dX11_men_30 rfl rfl ?_
      refine x_getF (pc := 31) (j := 0) fd_11_16 rfl rfl tk_168 dX11_men_31 ?_
      refine x_getF (pc := 34) (j := 0) fd_0_0 rfl rfl tk_122 dX11_men_34 ?_
      refine x_iload_n (pc := 37) 1 dX11_men_37 rfl rfl ?_
      refine x_iload_n (pc := 38) 2 dX11_men_38 rfl rfl ?_
      refine x_iast (pc := 39) ar_100 dX11_men_39 (fun m5 => ?_)
      refine x_nameS (fun s6 => ?_)
      refine x_iload_n (pc := 40) 3 dX11_men_40 rfl rfl ?_
      exact x_iret (rm := r11_men) rfl rfl dX11_men_41
    ·
      refine x_iconst (pc := 18) (-1) dX11_men_18 rfl ?_
      exact x_iret (rm := r11_men) rfl rfl dX11_men_19
theorem c_11_men (l : Launch)  (v1 : Int32) (v2 : Int32) (σ : zSt) : zMet l yX11_men cX11_men 4 (some .int) r11_men true eI [aR 11 (some 0), aI v1, aI v2] σ (f11_men v1 v2 σ) :=
  zMet_of [(0, aR 11 (some 0)), (1, aI v1), (2, aI v2)] (by decide +kernel) (fun h => by cases h) (Nat.le_of_ble_eq_true rfl) rfl fun E _ => x11_men E  v1 v2 σ
abbrev r11_job : Room := { frames := 2, cells := 0, slots := 0, locals := 42 }
abbrev m11_job : zMu := (RX11, 3, (some .int), r11_job, false)
set_option maxRecDepth 20000 in
theorem x11_job (E : zEn)  (v1 : Int32) (σ : zSt) : X E cX11_job m11_job true (zQw E true eI r11_job) 0 0 σ [(0, aR 11 (some 0)), (1, aI v1)] 0 [] (f11_job v1 σ) := by
  unfold f11_job
  refine x_aload_n (pc := 0) 0 dX11_job_0 rfl rfl ?_
  refine x_iload_n (pc := 1) 1 dX11_job_1 rfl rfl ?_
  refine x_callVr (pc := 2) (as := [aI v1]) (rest := []) (fun l => c_11_faultAt l v1 σ) md_X11_faultAt ⟨_, _, rfl, by decide⟩ tk_521 tp_8 tk_519 dX11_job_2 rfl ⟨by decide, by decide, by decide, by decide⟩ ⟨fun _ => rfl, fun _ => Or.inl rfl⟩ rfl (Nat.le_of_ble_eq_true rfl) (fun o2 => ?_)
  show X E _ _ _ _ 0 0 _ _ _ [aR 1 o2] _
  refine x_astore_n (pc := 5) (als' := [(2, aR 1 o2), (0, aR 11 (some 0)), (1, aI v1)]) 2 dX11_job_5 rfl (by decide) rfl ?_
  refine x_aload_n (pc := 6) 2 dX11_job_6 rfl rfl ?_
  rcases o2 with _ | i3
  ·
    refine x_ifnonnullN (pc := 7) dX11_job_7 ?_
    refine x_iconst (pc := 10) (-1) dX11_job_10 rfl ?_
    exact x_iret (rm := r11_job) rfl rfl dX11_job_11
  ·
    refine x_ifnonnullS (pc := 7) 12 dX11_job_7 (by decide) ?_
    refine x_aload_n (pc := 12) 2 dX11_job_12 rfl rfl ?_
    refine x_getF (pc := 13) (j := i3) fd_1_7 rfl rfl tk_446 dX11_job_13 ?_
    refine x_callVr (pc := 16) (as := []) (rest := []) (fun l => c_4_now l i3 σ) md_X4_now ⟨_, _, rfl, by decide⟩ tk_503 tk_504 tk_502 dX11_job_16 rfl ⟨by decide, by decide, by decide, by decide⟩ ⟨fun _ => rfl, fun _ => Or.inl rfl⟩ rfl (Nat.le_of_ble_eq_true rfl) (fun r4 => ?_)
    show X E _ _ _ _ 0 0 _ _ _ [aI r4] _
    refine x_iconst (pc := 19) 1 dX11_job_19 rfl ?_
    refine x_icmp_ne (pc := 20) 34 dX11_job_20 (by decide) (fun _ => ?_) (fun _ => ?_)
    ·
      refine x_bipush (pc := 34) (-3) dX11_job_34 rfl ?_
      exact x_iret (rm := r11_job) rfl rfl dX11_job_36
    ·
      refine x_aload_n (pc := 23) 0 dX11_job_23 rfl rfl ?_
      refine x_getF (pc := 24) (j := 0) fd_11_16 rfl rfl tk_168 dX11_job_24 ?_
      refine x_aload_n (pc := 27) 2 dX11_job_27 rfl rfl ?_
      refine x_callVr (pc := 28) (as := [aR 1 (some i3)]) (rest := []) (fun l => c_0_has l i3 σ) md_X0_has ⟨_, _, rfl, by decide⟩ tk_755 tk_756 tk_754 dX11_job_28 rfl ⟨by decide, by decide, by decide, by decide⟩ ⟨fun _ => rfl, fun _ => Or.inl rfl⟩ rfl (Nat.le_of_ble_eq_true rfl) (fun r5 => ?_)
      show X E _ _ _ _ 0 0 _ _ _ [aI r5] _
      refine x_if_eq (pc := 31) 37 dX11_job_31 (by decide) (fun _ => ?_) (fun _ => ?_)
      ·
        refine x_aload_n (pc := 37) 0 dX11_job_37 rfl rfl ?_
        refine x_getF (pc := 38) (j := 0) fd_11_16 rfl rfl tk_168 dX11_job_38 ?_
        refine x_aload_n (pc := 41) 2 dX11_job_41 rfl rfl ?_
        refine x_callV (pc := 42) (as := [aR 1 (some i3)]) (rest := []) (fun l => c_0_add l i3 σ) md_X0_add ⟨_, _, rfl, by decide⟩ tk_759 tk_760 tk_758 dX11_job_42 rfl ⟨by decide, by decide, by decide, by decide⟩ ⟨fun _ => rfl, fun _ => Or.inl rfl⟩ rfl (Nat.le_of_ble_eq_true rfl) (fun r6 s7 => ?_)
        show X E _ _ _ _ 0 0 _ _ _ [aI r6] _
        refine x_if_eq (pc := 45) 58 dX11_job_45 (by decide) (fun _ => ?_) (fun _ => ?_)
        ·
          refine x_bipush (pc := 58) (-2) dX11_job_58 rfl ?_
          exact x_iret (rm := r11_job) rfl rfl dX11_job_60
        ·
          refine x_aload_n (pc := 48) 0 dX11_job_48 rfl rfl ?_
          refine x_getF (pc := 49) (j := 0) fd_11_16 rfl rfl tk_168 dX11_job_49 ?_
          refine x_getI (pc := 52) fd_0_2 tk_125 dX11_job_52 ?_
          refine x_goto (pc := 55) 60 dX11_job_55 (by decide) ?_
          exact x_iret (rm := r11_job) rfl rfl dX11_job_60
      ·
        refine x_bipush (pc := 34) (-3) dX11_job_34 rfl ?_
        exact x_iret (rm := r11_job) rfl rfl dX11_job_36
theorem c_11_job (l : Launch)  (v1 : Int32) (σ : zSt) : zMet l yX11_job cX11_job 3 (some .int) r11_job true eI [aR 11 (some 0), aI v1] σ (f11_job v1 σ) :=
  zMet_of [(0, aR 11 (some 0)), (1, aI v1)] (by decide +kernel) (fun h => by cases h) (Nat.le_of_ble_eq_true rfl) rfl fun E _ => x11_job E  v1 σ
abbrev r11_plan : Room := { frames := 3, cells := 0, slots := 0, locals := 78 }
abbrev m11_plan : zMu := (RX11, 2, (some .int), r11_plan, false)
set_option maxRecDepth 20000 in
theorem x11_plan (E : zEn)  (v1 : Int32) (σ : zSt) : X E cX11_plan m11_plan true (zQw E true eI r11_plan) 0 0 σ [(0, aR 11 (some 0)), (1, aI v1)] 0 [] (f11_plan v1 σ) := by
  unfold f11_plan
  refine x_iload_n (pc := 0) 1 dX11_plan_0 rfl rfl ?_
  refine x_iconst (pc := 1) 1 dX11_plan_1 rfl ?_
  refine x_icmp_lt (pc := 2) 11 dX11_plan_2 (by decide) (fun _ => ?_) (fun _ => ?_)
  ·
    refine x_iconst (pc := 11) (-1) dX11_plan_11 rfl ?_
    exact x_iret (rm := r11_plan) rfl rfl dX11_plan_12
  ·
    refine x_iload_n (pc := 5) 1 dX11_plan_5 rfl rfl ?_
    refine x_bipush (pc := 6) 14 dX11_plan_6 rfl ?_
    refine x_icmp_le (pc := 8) 13 dX11_plan_8 (by decide) (fun _ => ?_) (fun _ => ?_)
    ·
      refine x_aload_n (pc := 13) 0 dX11_plan_13 rfl rfl ?_
      refine x_getF (pc := 14) (j := 0) fd_11_16 rfl rfl tk_168 dX11_plan_14 ?_
      refine x_getI (pc := 17) fd_0_2 tk_125 dX11_plan_17 ?_
      refine x_if_ne (pc := 20) 26 dX11_plan_20 (by decide) (fun _ => ?_) (fun _ => ?_)
      ·
        refine x_aload_n (pc := 26) 0 dX11_plan_26 rfl rfl ?_
        refine x_getF (pc := 27) (j := 0) fd_11_16 rfl rfl tk_168 dX11_plan_27 ?_
        refine x_aload_n (pc := 30) 0 dX11_plan_30 rfl rfl ?_
        refine x_getI (pc := 31) fd_11_6 tk_158 dX11_plan_31 ?_
        refine x_iload_n (pc := 34) 1 dX11_plan_34 rfl rfl ?_
        refine x_sipush (pc := 35) 9999 dX11_plan_35 rfl ?_
        refine x_aload_n (pc := 38) 0 dX11_plan_38 rfl rfl ?_
        refine x_getI (pc := 39) fd_11_6 tk_158 dX11_plan_39 ?_
        refine x_isub (pc := 42) dX11_plan_42 ?_
        refine x_iconst (pc := 43) 1 dX11_plan_43 rfl ?_
        refine x_iadd (pc := 44) dX11_plan_44 ?_
        refine x_zmin (pc := 45) (rest := [aI (gI σ 11 0 6), aR 0 (some 0)]) tk_740 tk_741 tk_14 tk_742 dX11_plan_45 ⟨by decide, by decide, by decide, by decide⟩ (Nat.le_of_ble_eq_true rfl) ?_
        refine x_callV (pc := 48) (as := [aI (gI σ 11 0 6), aI (zmin v1 ((9999 - (gI σ 11 0 6)) + 1))]) (rest := []) (fun l => c_0_settle l (gI σ 11 0 6) (zmin v1 ((9999 - (gI σ 11 0 6)) + 1)) σ) md_X0_settle ⟨_, _, rfl, by decide⟩ tk_767 tk_768 tk_766 dX11_plan_48 rfl ⟨by decide, by decide, by decide, by decide⟩ ⟨fun _ => rfl, fun _ => Or.inl rfl⟩ rfl (Nat.le_of_ble_eq_true rfl) (fun r1 s2 => ?_)
        show X E _ _ _ _ 0 0 _ _ _ [aI r1] _
        exact x_iret (rm := r11_plan) rfl rfl dX11_plan_51
      ·
        refine x_bipush (pc := 23) (-3) dX11_plan_23 rfl ?_
        exact x_iret (rm := r11_plan) rfl rfl dX11_plan_25
    ·
      refine x_iconst (pc := 11) (-1) dX11_plan_11 rfl ?_
      exact x_iret (rm := r11_plan) rfl rfl dX11_plan_12
theorem c_11_plan (l : Launch)  (v1 : Int32) (σ : zSt) : zMet l yX11_plan cX11_plan 2 (some .int) r11_plan true eI [aR 11 (some 0), aI v1] σ (f11_plan v1 σ) :=
  zMet_of [(0, aR 11 (some 0)), (1, aI v1)] (by decide +kernel) (fun h => by cases h) (Nat.le_of_ble_eq_true rfl) rfl fun E _ => x11_plan E  v1 σ
abbrev r11_planned : Room := { frames := 1, cells := 0, slots := 0, locals := 21 }
abbrev m11_planned : zMu := (RX11, 2, (some .int), r11_planned, false)
set_option maxRecDepth 20000 in
theorem x11_planned (E : zEn)  (v1 : Int32) (σ : zSt) : X E cX11_planned m11_planned true (zQr E true eI r11_planned σ) 0 0 σ [(0, aR 11 (some 0)), (1, aI v1)] 0 [] (f11_planned v1 σ) := by
  unfold f11_planned
  refine x_iload_n (pc := 0) 1 dX11_planned_0 rfl rfl ?_
  refine x_aload_n (pc := 1) 0 dX11_planned_1 rfl rfl ?_
  refine x_getF (pc := 2) (j := 0) fd_11_16 rfl rfl tk_168 dX11_planned_2 ?_
  refine x_getI (pc := 5) fd_0_4 tk_129 dX11_planned_5 ?_
  refine x_callSr (pc := 8) (as := [aI v1, aI (gI σ 0 0 4)]) (rest := []) (fun l => c_11_isIn l true v1 (gI σ 0 0 4) σ) md_X11_isIn tk_219 tk_218 dX11_planned_8 rfl ⟨by decide, by decide, by decide, by decide⟩ ⟨fun _ => rfl, fun _ => Or.inl rfl⟩ rfl (Nat.le_of_ble_eq_true rfl) (fun r1 => ?_)
  show X E _ _ _ _ 0 0 _ _ _ [aI r1] _
  refine x_if_eq (pc := 11) 26 dX11_planned_11 (by decide) (fun _ => ?_) (fun _ => ?_)
  ·
    refine x_iconst (pc := 26) (-1) dX11_planned_26 rfl ?_
    exact x_iret (rm := r11_planned) rfl rfl dX11_planned_27
  ·
    refine x_aload_n (pc := 14) 0 dX11_planned_14 rfl rfl ?_
    refine x_getF (pc := 15) (j := 0) fd_11_16 rfl rfl tk_168 dX11_planned_15 ?_
    refine x_getF (pc := 18) (j := 0) fd_0_3 rfl rfl tk_127 dX11_planned_18 ?_
    refine x_iload_n (pc := 21) 1 dX11_planned_21 rfl rfl ?_
    refine x_iald (pc := 22) ar_103 dX11_planned_22 (fun m2 => ?_)
    refine x_goto (pc := 23) 27 dX11_planned_23 (by decide) ?_
    exact x_iret (rm := r11_planned) rfl rfl dX11_planned_27
theorem c_11_planned (l : Launch)  (v1 : Int32) (σ : zSt) : zMet l yX11_planned cX11_planned 2 (some .int) r11_planned true eI [aR 11 (some 0), aI v1] σ (zro (f11_planned v1 σ) σ) :=
  zMet_ofR [(0, aR 11 (some 0)), (1, aI v1)] (by decide +kernel) (fun h => by cases h) (Nat.le_of_ble_eq_true rfl) rfl fun E _ => x11_planned E  v1 σ
abbrev r11_feed : Room := { frames := 0, cells := 0, slots := 0, locals := 0 }
abbrev m11_feed : zMu := (RX11, 4, (some .int), r11_feed, false)
set_option maxRecDepth 20000 in
theorem xl11_feed_29 (E : zEn)   (h1 : Int32) (h2 : Int32) {K69 : zSt → Option (Int32 × zSt)} (hK69 : ∀ (σ : zSt), X E cX11_feed m11_feed true (zQw E true eI r11_feed) 0 0 σ [(0, aR 11 (some 0))] 69 [] (K69 σ)) : ∀ (n : Nat) (v3 : Int32) (σ : zSt), X E cX11_feed m11_feed true (zQw E true eI r11_feed) 0 0 σ [(0, aR 11 (some 0)), (1, aI h1), (2, aI h2), (3, aI v3)] 29 [] (f11_feed_L29 h1 h2 K69 n v3 σ) := by
  intro n
  induction n with
  | zero => intros; exact x_none
  | succ n ih =>
    intro v3 σ
    rw [f11_feed_L29]
    refine x_iload_n (pc := 29) 3 dX11_feed_29 rfl rfl ?_
    refine x_iload_n (pc := 30) 1 dX11_feed_30 rfl rfl ?_
    refine x_icmp_ge (pc := 31) 69 dX11_feed_31 (by decide) (fun _ => ?_) (fun _ => ?_)
    ·
      exact x_sub [0] rfl (hK69 σ)
    ·
      refine x_aload_n (pc := 34) 0 dX11_feed_34 rfl rfl ?_
      refine x_getF (pc := 35) (j := 0) fd_11_10 rfl rfl tk_162 dX11_feed_35 ?_
      refine x_aload_n (pc := 38) 0 dX11_feed_38 rfl rfl ?_
      refine x_getI (pc := 39) fd_11_11 tk_163 dX11_feed_39 ?_
      refine x_iload_n (pc := 42) 2 dX11_feed_42 rfl rfl ?_
      refine x_bipush (pc := 43) 8 dX11_feed_43 rfl ?_
      refine x_iload_n (pc := 45) 3 dX11_feed_45 rfl rfl ?_
      refine x_imul (pc := 46) dX11_feed_46 ?_
      refine x_iushr (pc := 47) dX11_feed_47 ?_
      refine x_sipush (pc := 48) 255 dX11_feed_48 rfl ?_
      refine x_iand (pc := 51) dX11_feed_51 ?_
      refine x_iast (pc := 52) ar_1210 dX11_feed_52 (fun m1 => ?_)
      refine x_nameS (fun s2 => ?_)
      refine x_aload_n (pc := 53) 0 dX11_feed_53 rfl rfl ?_
      refine x_dup (pc := 54) dX11_feed_54 rfl ?_
      refine x_getI (pc := 55) fd_11_11 tk_163 dX11_feed_55 ?_
      refine x_iconst (pc := 58) 1 dX11_feed_58 rfl ?_
      refine x_iadd (pc := 59) dX11_feed_59 ?_
      refine x_putI (pc := 60) fd_11_11 pt_11_11 tk_163 dX11_feed_60 (Or.inl rfl) ?_
      refine x_nameS (fun s3 => ?_)
      refine x_iinc (pc := 63) (als' := [(3, aI (v3 + 1)), (0, aR 11 (some 0)), (1, aI h1), (2, aI h2)]) 3 3 (c := 1) dX11_feed_63 rfl rfl (by decide) rfl ?_
      refine x_nameV (g := fun y5 => [(3, aI y5), (0, aR 11 (some 0)), (1, aI h1), (2, aI h2)]) (fun x4 => ?_) rfl
      refine x_goto (pc := 66) 29 dX11_feed_66 (by decide) ?_
      exact x_sub [1, 2, 3, 0] rfl (ih x4 s3)
set_option maxRecDepth 20000 in
theorem x11_feed (E : zEn)  (v1 : Int32) (v2 : Int32) (σ : zSt) : X E cX11_feed m11_feed true (zQw E true eI r11_feed) 0 0 σ [(0, aR 11 (some 0)), (1, aI v1), (2, aI v2)] 0 [] (f11_feed v1 v2 σ) := by
  unfold f11_feed
  refine x_iload_n (pc := 0) 1 dX11_feed_0 rfl rfl ?_
  refine x_iconst (pc := 1) 1 dX11_feed_1 rfl ?_
  refine x_icmp_lt (pc := 2) 10 dX11_feed_2 (by decide) (fun _ => ?_) (fun _ => ?_)
  ·
    refine x_iconst (pc := 10) (-1) dX11_feed_10 rfl ?_
    exact x_iret (rm := r11_feed) rfl rfl dX11_feed_11
  ·
    refine x_iload_n (pc := 5) 1 dX11_feed_5 rfl rfl ?_
    refine x_iconst (pc := 6) 4 dX11_feed_6 rfl ?_
    refine x_icmp_le (pc := 7) 12 dX11_feed_7 (by decide) (fun _ => ?_) (fun _ => ?_)
    ·
      refine x_aload_n (pc := 12) 0 dX11_feed_12 rfl rfl ?_
      refine x_getI (pc := 13) fd_11_11 tk_163 dX11_feed_13 ?_
      refine x_iload_n (pc := 16) 1 dX11_feed_16 rfl rfl ?_
      refine x_iadd (pc := 17) dX11_feed_17 ?_
      refine x_sipush (pc := 18) 160 dX11_feed_18 rfl ?_
      refine x_icmp_le (pc := 21) 27 dX11_feed_21 (by decide) (fun _ => ?_) (fun _ => ?_)
      ·
        refine x_iconst (pc := 27) 0 dX11_feed_27 rfl ?_
        refine x_istore_n (pc := 28) (als' := [(3, aI 0), (0, aR 11 (some 0)), (1, aI v1), (2, aI v2)]) 3 dX11_feed_28 rfl (by decide) rfl ?_
        refine x_sub [1, 2, 3, 0] rfl (xl11_feed_29 E v1 v2 (fun s6 => ?_) zfuel 0 σ)
        ·
          refine x_aload_n (pc := 69) 0 dX11_feed_69 rfl rfl ?_
          refine x_getI (pc := 70) fd_11_11 tk_163 dX11_feed_70 ?_
          exact x_iret (rm := r11_feed) rfl rfl dX11_feed_73
      ·
        refine x_bipush (pc := 24) (-2) dX11_feed_24 rfl ?_
        exact x_iret (rm := r11_feed) rfl rfl dX11_feed_26
    ·
      refine x_iconst (pc := 10) (-1) dX11_feed_10 rfl ?_
      exact x_iret (rm := r11_feed) rfl rfl dX11_feed_11
theorem c_11_feed (l : Launch)  (v1 : Int32) (v2 : Int32) (σ : zSt) : zMet l yX11_feed cX11_feed 4 (some .int) r11_feed true eI [aR 11 (some 0), aI v1, aI v2] σ (f11_feed v1 v2 σ) :=
  zMet_of [(0, aR 11 (some 0)), (1, aI v1), (2, aI v2)] (by decide +kernel) (fun h => by cases h) (Nat.le_of_ble_eq_true rfl) rfl fun E _ => x11_feed E  v1 v2 σ
abbrev r11_text : Room := { frames := 10, cells := 2, slots := 163, locals := 289 }
abbrev m11_text : zMu := (RX11, 6, (some .int), r11_text, false)
set_option maxRecDepth 20000 in
theorem x11_text (E : zEn)  (v1 : Int32) (v2 : Int32) (σ : zSt) : X E cX11_text m11_text false (zQw E false eI r11_text) 0 0 σ [(0, aR 11 (some 0)), (1, aI v1), (2, aI v2)] 0 [] (f11_text v1 v2 σ) := by
  unfold f11_text
  refine x_iload_n (pc := 0) 1 dX11_text_0 rfl rfl ?_
  refine x_iconst (pc := 1) 2 dX11_text_1 rfl ?_
  refine x_callSr (pc := 2) (as := [aI v1, aI 2]) (rest := []) (fun l => c_11_isIn l false v1 2 σ) md_X11_isIn tk_219 tk_218 dX11_text_2 rfl ⟨by decide, by decide, by decide, by decide⟩ ⟨(fun h => nomatch h), (fun h => nomatch h)⟩ rfl (Nat.le_of_ble_eq_true rfl) (fun r1 => ?_)
  show X E _ _ _ _ 0 0 _ _ _ [aI r1] _
  refine x_if_eq (pc := 5) 15 dX11_text_5 (by decide) (fun _ => ?_) (fun _ => ?_)
  ·
    refine x_iconst (pc := 15) (-1) dX11_text_15 rfl ?_
    refine x_widen (kc' := 2) (ks' := 163) (by decide) (by decide) ?_
    exact x_iret (rm := r11_text) rfl rfl dX11_text_16
  ·
    refine x_iload_n (pc := 8) 2 dX11_text_8 rfl rfl ?_
    refine x_callSr (pc := 9) (as := [aI v2]) (rest := []) (fun l => c_11_isDay l false v2 σ) md_X11_isDay tk_576 tk_575 dX11_text_9 rfl ⟨by decide, by decide, by decide, by decide⟩ ⟨(fun h => nomatch h), (fun h => nomatch h)⟩ rfl (Nat.le_of_ble_eq_true rfl) (fun r2 => ?_)
    show X E _ _ _ _ 0 0 _ _ _ [aI r2] _
    refine x_if_ne (pc := 12) 17 dX11_text_12 (by decide) (fun _ => ?_) (fun _ => ?_)
    ·
      refine x_iload_n (pc := 17) 1 dX11_text_17 rfl rfl ?_
      refine x_join (P := fun (j4 : (Option Nat) → Option (Int32 × zSt)) => ∀ (a3 : (Option Nat)), X E cX11_text m11_text false (zQw E false eI r11_text) 0 0 σ [(0, aR 11 (some 0)), (1, aI v1), (2, aI v2)] 32 [aR 9 a3] (j4 a3)) ?_ ?_
      · intro a3
        refine x_astore_n (pc := 32) (als' := [(3, aR 9 a3), (0, aR 11 (some 0)), (1, aI v1), (2, aI v2)]) 3 dX11_text_32 rfl (by decide) rfl ?_
        refine x_aload_n (pc := 33) 3 dX11_text_33 rfl rfl ?_
        rcases a3 with _ | i6
        · exact x_none
        ·
          skip
          refine x_zocS ?_
          refine x_callVr (pc := 34) (as := []) (rest := []) (fun l => c_9_isFull l false i6 σ) md_X9_isFull ⟨_, _, rfl, by decide⟩ tk_824 tk_825 tk_823 dX11_text_34 rfl ⟨by decide, by decide, by decide, by decide⟩ ⟨(fun h => nomatch h), (fun h => nomatch h)⟩ rfl (Nat.le_of_ble_eq_true rfl) (fun r7 => ?_)
          show X E _ _ _ _ 0 0 _ _ _ [aI r7] _
          refine x_if_eq (pc := 37) 43 dX11_text_37 (by decide) (fun _ => ?_) (fun _ => ?_)
          ·
            refine x_aload_n (pc := 43) 0 dX11_text_43 rfl rfl ?_
            refine x_getI (pc := 44) fd_11_11 tk_163 dX11_text_44 ?_
            refine x_nameI (fun x8 => ?_)
            refine x_istore (pc := 47) (als' := [(4, aI x8), (3, aR 9 (some i6)), (0, aR 11 (some 0)), (1, aI v1), (2, aI v2)]) 4 dX11_text_47 (by decide) rfl ?_
            refine x_aload_n (pc := 49) 0 dX11_text_49 rfl rfl ?_
            refine x_iconst (pc := 50) 0 dX11_text_50 rfl ?_
            refine x_putI (pc := 51) fd_11_11 pt_11_11 tk_163 dX11_text_51 (Or.inl rfl) ?_
            refine x_nameS (fun s9 => ?_)
            refine x_iload_n (pc := 54) 1 dX11_text_54 rfl rfl ?_
            refine x_join (P := fun (j11 : Int32 → Option (Int32 × zSt)) => ∀ (a10 : Int32), X E cX11_text m11_text false (zQw E false eI r11_text) 0 0 s9 [(0, aR 11 (some 0)), (2, aI v2), (3, aR 9 (some i6)), (4, aI x8)] 79 [aI a10] (j11 a10)) ?_ ?_
            · intro a10
              refine x_istore (pc := 79) (als' := [(5, aI a10), (0, aR 11 (some 0)), (2, aI v2), (3, aR 9 (some i6)), (4, aI x8)]) 5 dX11_text_79 (by decide) rfl ?_
              refine x_iload (pc := 81) 5 dX11_text_81 rfl ?_
              refine x_iconst (pc := 83) (-1) dX11_text_83 rfl ?_
              refine x_icmp_eq (pc := 84) 93 dX11_text_84 (by decide) (fun _ => ?_) (fun _ => ?_)
              ·
                refine x_aload_n (pc := 93) 3 dX11_text_93 rfl rfl ?_
                refine x_new (pc := 94) nw_10 tk_937 tk_938 tk_20 dX11_text_94 rfl (by decide) ?_
                refine x_nameN (fun i13 => ?_)
                refine x_nameS (fun s14 => ?_)
                refine x_dup (pc := 97) dX11_text_97 rfl ?_
                refine x_aload_n (pc := 98) 0 dX11_text_98 rfl rfl ?_
                refine x_getR (pc := 99) fd_11_10 tk_162 dX11_text_99 ?_
                refine x_nameR (fun o15 => ?_)
                refine x_iload (pc := 102) 4 dX11_text_102 rfl ?_
                rcases o15 with _ | i16
                · exact x_none
                ·
                  skip
                  refine x_zocS ?_
                  refine x_callS (pc := 104) (as := [aR 1210 (some i16), aI x8]) (rest := [aR 10 (some i13), aR 10 (some i13), aR 9 (some i6)]) (fun l => c_J7_copyOf_59c91 l i16 x8 s14) md_J7_copyOf_59c91 tk_940 tk_939 dX11_text_104 rfl ⟨by decide, by decide, by decide, by decide⟩ ⟨(fun h => nomatch h), (fun h => nomatch h)⟩ rfl (Nat.le_of_ble_eq_true rfl) (fun o18 s19 => ?_)
                  show X E _ _ _ _ 2 163 _ _ _ [aR 1100 o18, aR 10 (some i13), aR 10 (some i13), aR 9 (some i6)] _
                  refine x_aload_n (pc := 107) 0 dX11_text_107 rfl rfl ?_
                  refine x_getI (pc := 108) fd_11_6 tk_158 dX11_text_108 ?_
                  refine x_iload_n (pc := 111) 2 dX11_text_111 rfl rfl ?_
                  rcases o18 with _ | i20
                  · exact x_none
                  ·
                    skip
                    refine x_zocS ?_
                    refine x_callI (pc := 112) (as := [aR 1100 (some i20), aI (gI s19 11 0 6), aI v2]) (rest := [aR 10 (some i13), aR 9 (some i6)]) (fun l => c_10_init l i13 i20 (gI s19 11 0 6) v2 s19) md_X10_init tk_954 rfl tk_953 dX11_text_112 rfl ⟨by decide, by decide, by decide, by decide⟩ ⟨(fun h => nomatch h), (fun h => nomatch h)⟩ rfl (Nat.le_of_ble_eq_true rfl) (fun _ s22 => ?_)
                    show X E _ _ _ _ 2 163 _ _ _ [aR 10 (some i13), aR 9 (some i6)] _
                    refine x_okc (fun hok23 => ?_)
                    refine x_callV (pc := 115) (as := [aR 10 (some i13)]) (rest := []) (fun l => c_9_add l i6 i13 s22) md_X9_add ⟨_, _, rfl, by decide⟩ tk_971 tk_972 tk_970 dX11_text_115 rfl ⟨by decide, by decide, by decide, by decide⟩ ⟨(fun h => nomatch h), (fun _ => Or.inr hok23)⟩ rfl (Nat.le_of_ble_eq_true rfl) (fun r24 s25 => ?_)
                    show X E _ _ _ _ 2 163 _ _ _ [aI r24] _
                    exact x_iret (rm := r11_text) rfl rfl dX11_text_118
              ·
                refine x_bipush (pc := 87) (-100) dX11_text_87 rfl ?_
                refine x_iload (pc := 89) 5 dX11_text_89 rfl ?_
                refine x_isub (pc := 91) dX11_text_91 ?_
                refine x_widen (kc' := 2) (ks' := 163) (by decide) (by decide) ?_
                exact x_iret (rm := r11_text) rfl rfl dX11_text_92
            · intro j11 hj12
              refine x_if_ne (pc := 55) 70 dX11_text_55 (by decide) (fun _ => ?_) (fun _ => ?_)
              ·
                refine x_aload_n (pc := 70) 0 dX11_text_70 rfl rfl ?_
                refine x_getR (pc := 71) fd_11_10 tk_162 dX11_text_71 ?_
                refine x_nameR (fun o29 => ?_)
                refine x_iload (pc := 74) 4 dX11_text_74 rfl ?_
                rcases o29 with _ | i30
                · exact x_none
                ·
                  skip
                  refine x_zocS ?_
                  refine x_callSr (pc := 76) (as := [aR 1210 (some i30), aI x8]) (rest := []) (fun l => c_2_faultIn l false i30 x8 s9) md_X2_faultIn tk_925 tk_924 dX11_text_76 rfl ⟨by decide, by decide, by decide, by decide⟩ ⟨(fun h => nomatch h), (fun h => nomatch h)⟩ rfl (Nat.le_of_ble_eq_true rfl) (fun r31 => ?_)
                  show X E _ _ _ _ 0 0 _ _ _ [aI r31] _
                  exact x_sub [2, 4, 1, 0] rfl (hj12 r31)
              ·
                refine x_aload_n (pc := 58) 0 dX11_text_58 rfl rfl ?_
                refine x_getR (pc := 59) fd_11_10 tk_162 dX11_text_59 ?_
                refine x_nameR (fun o26 => ?_)
                refine x_iload (pc := 62) 4 dX11_text_62 rfl ?_
                rcases o26 with _ | i27
                · exact x_none
                ·
                  skip
                  refine x_zocS ?_
                  refine x_callSr (pc := 64) (as := [aR 1210 (some i27), aI x8]) (rest := []) (fun l => c_6_faultIn l false i27 x8 s9) md_X6_faultIn tk_828 tk_827 dX11_text_64 rfl ⟨by decide, by decide, by decide, by decide⟩ ⟨(fun h => nomatch h), (fun h => nomatch h)⟩ rfl (Nat.le_of_ble_eq_true rfl) (fun r28 => ?_)
                  show X E _ _ _ _ 0 0 _ _ _ [aI r28] _
                  refine x_goto (pc := 67) 79 dX11_text_67 (by decide) ?_
                  exact x_sub [2, 4, 1, 0] rfl (hj12 r28)
          ·
            refine x_bipush (pc := 40) (-2) dX11_text_40 rfl ?_
            refine x_widen (kc' := 2) (ks' := 163) (by decide) (by decide) ?_
            exact x_iret (rm := r11_text) rfl rfl dX11_text_42
      · intro j4 hj5
        refine x_if_ne (pc := 18) 28 dX11_text_18 (by decide) (fun _ => ?_) (fun _ => ?_)
        ·
          refine x_aload_n (pc := 28) 0 dX11_text_28 rfl rfl ?_
          refine x_getR (pc := 29) fd_11_13 tk_165 dX11_text_29 ?_
          refine x_nameR (fun o33 => ?_)
          exact hj5 o33
        ·
          refine x_aload_n (pc := 21) 0 dX11_text_21 rfl rfl ?_
          refine x_getR (pc := 22) fd_11_12 tk_164 dX11_text_22 ?_
          refine x_nameR (fun o32 => ?_)
          refine x_goto (pc := 25) 32 dX11_text_25 (by decide) ?_
          exact hj5 o32
    ·
      refine x_iconst (pc := 15) (-1) dX11_text_15 rfl ?_
      refine x_widen (kc' := 2) (ks' := 163) (by decide) (by decide) ?_
      exact x_iret (rm := r11_text) rfl rfl dX11_text_16
theorem c_11_text (l : Launch)  (v1 : Int32) (v2 : Int32) (σ : zSt) : zMet l yX11_text cX11_text 6 (some .int) r11_text false eI [aR 11 (some 0), aI v1, aI v2] σ (f11_text v1 v2 σ) :=
  zMet_of [(0, aR 11 (some 0)), (1, aI v1), (2, aI v2)] (by decide +kernel) (fun h => by cases h) (Nat.le_of_ble_eq_true rfl) rfl fun E _ => x11_text E  v1 v2 σ
abbrev r11_inForce : Room := { frames := 2, cells := 0, slots := 0, locals := 42 }
abbrev m11_inForce : zMu := (RX11, 5, (some .int), r11_inForce, false)
set_option maxRecDepth 20000 in
theorem x11_inForce (E : zEn)  (v1 : Int32) (v2 : Int32) (v3 : Int32) (σ : zSt) : X E cX11_inForce m11_inForce true (zQr E true eI r11_inForce σ) 0 0 σ [(0, aR 11 (some 0)), (1, aI v1), (2, aI v2), (3, aI v3)] 0 [] (f11_inForce v1 v2 v3 σ) := by
  unfold f11_inForce
  refine x_aload_n (pc := 0) 0 dX11_inForce_0 rfl rfl ?_
  refine x_iload_n (pc := 1) 2 dX11_inForce_1 rfl rfl ?_
  refine x_callVr (pc := 2) (as := [aI v2]) (rest := []) (fun l => c_11_homeAt l v2 σ) md_X11_homeAt ⟨_, _, rfl, by decide⟩ tk_280 tp_0 tk_278 dX11_inForce_2 rfl ⟨by decide, by decide, by decide, by decide⟩ ⟨fun _ => rfl, fun _ => Or.inl rfl⟩ rfl (Nat.le_of_ble_eq_true rfl) (fun o2 => ?_)
  show X E _ _ _ _ 0 0 _ _ _ [aR 5 o2] _
  refine x_astore (pc := 5) (als' := [(4, aR 5 o2), (0, aR 11 (some 0)), (1, aI v1), (2, aI v2), (3, aI v3)]) 4 dX11_inForce_5 (by decide) rfl ?_
  refine x_iload_n (pc := 7) 1 dX11_inForce_7 rfl rfl ?_
  refine x_iconst (pc := 8) 2 dX11_inForce_8 rfl ?_
  refine x_callSr (pc := 9) (as := [aI v1, aI 2]) (rest := []) (fun l => c_11_isIn l true v1 2 σ) md_X11_isIn tk_219 tk_218 dX11_inForce_9 rfl ⟨by decide, by decide, by decide, by decide⟩ ⟨fun _ => rfl, fun _ => Or.inl rfl⟩ rfl (Nat.le_of_ble_eq_true rfl) (fun r3 => ?_)
  show X E _ _ _ _ 0 0 _ _ _ [aI r3] _
  refine x_if_eq (pc := 12) 35 dX11_inForce_12 (by decide) (fun _ => ?_) (fun _ => ?_)
  ·
    refine x_iconst (pc := 35) (-1) dX11_inForce_35 rfl ?_
    exact x_iret (rm := r11_inForce) rfl rfl dX11_inForce_36
  ·
    refine x_aload (pc := 15) 4 dX11_inForce_15 rfl ?_
    rcases o2 with _ | i4
    ·
      refine x_ifnullN (pc := 17) 35 dX11_inForce_17 (by decide) ?_
      refine x_iconst (pc := 35) (-1) dX11_inForce_35 rfl ?_
      exact x_iret (rm := r11_inForce) rfl rfl dX11_inForce_36
    ·
      refine x_ifnullS (pc := 17) dX11_inForce_17 ?_
      refine x_iload_n (pc := 20) 3 dX11_inForce_20 rfl rfl ?_
      refine x_callSr (pc := 21) (as := [aI v3]) (rest := []) (fun l => c_11_isDay l true v3 σ) md_X11_isDay tk_576 tk_575 dX11_inForce_21 rfl ⟨by decide, by decide, by decide, by decide⟩ ⟨fun _ => rfl, fun _ => Or.inl rfl⟩ rfl (Nat.le_of_ble_eq_true rfl) (fun r5 => ?_)
      show X E _ _ _ _ 0 0 _ _ _ [aI r5] _
      refine x_if_eq (pc := 24) 35 dX11_inForce_24 (by decide) (fun _ => ?_) (fun _ => ?_)
      ·
        refine x_iconst (pc := 35) (-1) dX11_inForce_35 rfl ?_
        exact x_iret (rm := r11_inForce) rfl rfl dX11_inForce_36
      ·
        refine x_aload (pc := 27) 4 dX11_inForce_27 rfl ?_
        refine x_callVr (pc := 29) (as := []) (rest := []) (fun l => c_5_hasKey l true i4 σ) md_X5_hasKey ⟨_, _, rfl, by decide⟩ tk_284 tk_285 tk_283 dX11_inForce_29 rfl ⟨by decide, by decide, by decide, by decide⟩ ⟨fun _ => rfl, fun _ => Or.inl rfl⟩ rfl (Nat.le_of_ble_eq_true rfl) (fun r6 => ?_)
        show X E _ _ _ _ 0 0 _ _ _ [aI r6] _
        refine x_if_ne (pc := 32) 37 dX11_inForce_32 (by decide) (fun _ => ?_) (fun _ => ?_)
        ·
          refine x_iload_n (pc := 37) 1 dX11_inForce_37 rfl rfl ?_
          refine x_if_ne (pc := 38) 54 dX11_inForce_38 (by decide) (fun _ => ?_) (fun _ => ?_)
          ·
            refine x_aload_n (pc := 54) 0 dX11_inForce_54 rfl rfl ?_
            refine x_getF (pc := 55) (j := 1) fd_11_13 rfl rfl tk_165 dX11_inForce_55 ?_
            refine x_aload (pc := 58) 4 dX11_inForce_58 rfl ?_
            refine x_iload_n (pc := 60) 3 dX11_inForce_60 rfl rfl ?_
            refine x_callVr (pc := 61) (as := [aR 5 (some i4), aI v3]) (rest := []) (fun l => c_9_holding l 1 i4 v3 σ) md_X9_holding ⟨_, _, rfl, by decide⟩ tk_979 tk_980 tk_978 dX11_inForce_61 rfl ⟨by decide, by decide, by decide, by decide⟩ ⟨fun _ => rfl, fun _ => Or.inl rfl⟩ rfl (Nat.le_of_ble_eq_true rfl) (fun r8 => ?_)
            show X E _ _ _ _ 0 0 _ _ _ [aI r8] _
            exact x_iret (rm := r11_inForce) rfl rfl dX11_inForce_64
          ·
            refine x_aload_n (pc := 41) 0 dX11_inForce_41 rfl rfl ?_
            refine x_getF (pc := 42) (j := 0) fd_11_12 rfl rfl tk_164 dX11_inForce_42 ?_
            refine x_aload (pc := 45) 4 dX11_inForce_45 rfl ?_
            refine x_iload_n (pc := 47) 3 dX11_inForce_47 rfl rfl ?_
            refine x_callVr (pc := 48) (as := [aR 5 (some i4), aI v3]) (rest := []) (fun l => c_9_holding l 0 i4 v3 σ) md_X9_holding ⟨_, _, rfl, by decide⟩ tk_979 tk_980 tk_978 dX11_inForce_48 rfl ⟨by decide, by decide, by decide, by decide⟩ ⟨fun _ => rfl, fun _ => Or.inl rfl⟩ rfl (Nat.le_of_ble_eq_true rfl) (fun r7 => ?_)
            show X E _ _ _ _ 0 0 _ _ _ [aI r7] _
            refine x_goto (pc := 51) 64 dX11_inForce_51 (by decide) ?_
            exact x_iret (rm := r11_inForce) rfl rfl dX11_inForce_64
        ·
          refine x_iconst (pc := 35) (-1) dX11_inForce_35 rfl ?_
          exact x_iret (rm := r11_inForce) rfl rfl dX11_inForce_36
theorem c_11_inForce (l : Launch)  (v1 : Int32) (v2 : Int32) (v3 : Int32) (σ : zSt) : zMet l yX11_inForce cX11_inForce 5 (some .int) r11_inForce true eI [aR 11 (some 0), aI v1, aI v2, aI v3] σ (zro (f11_inForce v1 v2 v3 σ) σ) :=
  zMet_ofR [(0, aR 11 (some 0)), (1, aI v1), (2, aI v2), (3, aI v3)] (by decide +kernel) (fun h => by cases h) (Nat.le_of_ble_eq_true rfl) rfl fun E _ => x11_inForce E  v1 v2 v3 σ
abbrev r11_chargedCrew : Room := { frames := 3, cells := 0, slots := 0, locals := 71 }
abbrev m11_chargedCrew : zMu := (RX11, 3, (some .int), r11_chargedCrew, false)
set_option maxRecDepth 20000 in
theorem x11_chargedCrew (E : zEn)  (h1 : Nat) (σ : zSt) : X E cX11_chargedCrew m11_chargedCrew true (zQr E true eI r11_chargedCrew σ) 0 0 σ [(0, aR 11 (some 0)), (1, aR 1 (some h1))] 0 [] (f11_chargedCrew h1 σ) := by
  unfold f11_chargedCrew
  refine x_aload_n (pc := 0) 0 dX11_chargedCrew_0 rfl rfl ?_
  refine x_aload_n (pc := 1) 1 dX11_chargedCrew_1 rfl rfl ?_
  refine x_callVr (pc := 2) (as := [aR 1 (some h1)]) (rest := []) (fun l => c_11_damager l h1 σ) md_X11_damager ⟨_, _, rfl, by decide⟩ tk_611 tp_11 tk_609 dX11_chargedCrew_2 rfl ⟨by decide, by decide, by decide, by decide⟩ ⟨fun _ => rfl, fun _ => Or.inl rfl⟩ rfl (Nat.le_of_ble_eq_true rfl) (fun o2 => ?_)
  show X E _ _ _ _ 0 0 _ _ _ [aR 1 o2] _
  refine x_astore_n (pc := 5) (als' := [(2, aR 1 o2), (0, aR 11 (some 0)), (1, aR 1 (some h1))]) 2 dX11_chargedCrew_5 rfl (by decide) rfl ?_
  refine x_aload_n (pc := 6) 2 dX11_chargedCrew_6 rfl rfl ?_
  rcases o2 with _ | i3
  ·
    refine x_ifnonnullN (pc := 7) dX11_chargedCrew_7 ?_
    refine x_bipush (pc := 10) (-4) dX11_chargedCrew_10 rfl ?_
    refine x_goto (pc := 12) 28 dX11_chargedCrew_12 (by decide) ?_
    exact x_iret (rm := r11_chargedCrew) rfl rfl dX11_chargedCrew_28
  ·
    refine x_ifnonnullS (pc := 7) 15 dX11_chargedCrew_7 (by decide) ?_
    refine x_aload_n (pc := 15) 2 dX11_chargedCrew_15 rfl rfl ?_
    refine x_getF (pc := 16) (j := i3) fd_1_7 rfl rfl tk_446 dX11_chargedCrew_16 ?_
    refine x_aload_n (pc := 19) 0 dX11_chargedCrew_19 rfl rfl ?_
    refine x_aload_n (pc := 20) 1 dX11_chargedCrew_20 rfl rfl ?_
    refine x_aload_n (pc := 21) 2 dX11_chargedCrew_21 rfl rfl ?_
    refine x_callVr (pc := 22) (as := [aR 1 (some h1), aR 1 (some i3)]) (rest := [aR 4 (some i3)]) (fun l => c_11_saidAheadOf l h1 i3 σ) md_X11_saidAheadOf ⟨_, _, rfl, by decide⟩ tk_615 tp_12 tk_613 dX11_chargedCrew_22 rfl ⟨by decide, by decide, by decide, by decide⟩ ⟨fun _ => rfl, fun _ => Or.inl rfl⟩ rfl (Nat.le_of_ble_eq_true rfl) (fun r4 => ?_)
    show X E _ _ _ _ 0 0 _ _ _ [aI r4, aR 4 (some i3)] _
    refine x_callVr (pc := 25) (as := [aI r4]) (rest := []) (fun l => c_4_crewAt l i3 r4 σ) md_X4_crewAt ⟨_, _, rfl, by decide⟩ tk_558 tk_559 tk_1015 dX11_chargedCrew_25 rfl ⟨by decide, by decide, by decide, by decide⟩ ⟨fun _ => rfl, fun _ => Or.inl rfl⟩ rfl (Nat.le_of_ble_eq_true rfl) (fun r5 => ?_)
    show X E _ _ _ _ 0 0 _ _ _ [aI r5] _
    exact x_iret (rm := r11_chargedCrew) rfl rfl dX11_chargedCrew_28
theorem c_11_chargedCrew (l : Launch)  (h1 : Nat) (σ : zSt) : zMet l yX11_chargedCrew cX11_chargedCrew 3 (some .int) r11_chargedCrew true eI [aR 11 (some 0), aR 1 (some h1)] σ (zro (f11_chargedCrew h1 σ) σ) :=
  zMet_ofR [(0, aR 11 (some 0)), (1, aR 1 (some h1))] (by decide +kernel) (fun h => by cases h) (Nat.le_of_ble_eq_true rfl) rfl fun E _ => x11_chargedCrew E  h1 σ
abbrev r11_decide : Room := { frames := 10, cells := 0, slots := 0, locals := 290 }
abbrev m11_decide : zMu := (RX11, 6, none, r11_decide, false)
set_option maxRecDepth 20000 in
theorem x11_decide (E : zEn)  (h1 : Nat) (σ : zSt) : X E cX11_decide m11_decide true (zQw E true eV r11_decide) 0 0 σ [(0, aR 11 (some 0)), (1, aR 1 (some h1))] 0 [] (f11_decide h1 σ) := by
  unfold f11_decide
  refine x_aload_n (pc := 0) 1 dX11_decide_0 rfl rfl ?_
  refine x_callVr (pc := 1) (as := []) (rest := []) (fun l => c_1_isAheadOfKey l true h1 σ) md_X1_isAheadOfKey ⟨_, _, rfl, by decide⟩ tk_991 tk_992 tk_990 dX11_decide_1 rfl ⟨by decide, by decide, by decide, by decide⟩ ⟨fun _ => rfl, fun _ => Or.inl rfl⟩ rfl (Nat.le_of_ble_eq_true rfl) (fun r1 => ?_)
  show X E _ _ _ _ 0 0 _ _ _ [aI r1] _
  refine x_if_eq (pc := 4) 19 dX11_decide_4 (by decide) (fun _ => ?_) (fun _ => ?_)
  ·
    refine x_aload_n (pc := 19) 0 dX11_decide_19 rfl rfl ?_
    refine x_getF (pc := 20) (j := 0) fd_11_12 rfl rfl tk_164 dX11_decide_20 ?_
    refine x_aload_n (pc := 23) 0 dX11_decide_23 rfl rfl ?_
    refine x_getF (pc := 24) (j := 0) fd_11_12 rfl rfl tk_164 dX11_decide_24 ?_
    refine x_aload_n (pc := 27) 1 dX11_decide_27 rfl rfl ?_
    refine x_getR (pc := 28) fd_1_1 tk_432 dX11_decide_28 ?_
    refine x_nameR (fun o2 => ?_)
    refine x_aload_n (pc := 31) 0 dX11_decide_31 rfl rfl ?_
    refine x_getI (pc := 32) fd_11_6 tk_158 dX11_decide_32 ?_
    rcases o2 with _ | i3
    · exact x_none
    ·
      skip
      refine x_zocS ?_
      refine x_callVr (pc := 35) (as := [aR 5 (some i3), aI (gI σ 11 0 6)]) (rest := [aR 9 (some 0)]) (fun l => c_9_holding l 0 i3 (gI σ 11 0 6) σ) md_X9_holding ⟨_, _, rfl, by decide⟩ tk_979 tk_980 tk_978 dX11_decide_35 rfl ⟨by decide, by decide, by decide, by decide⟩ ⟨fun _ => rfl, fun _ => Or.inl rfl⟩ rfl (Nat.le_of_ble_eq_true rfl) (fun r4 => ?_)
      show X E _ _ _ _ 0 0 _ _ _ [aI r4, aR 9 (some 0)] _
      refine x_callVr (pc := 38) (as := [aI r4]) (rest := []) (fun l => c_9_at l 0 r4 σ) md_X9_at ⟨_, _, rfl, by decide⟩ tk_1003 tk_1004 tk_1002 dX11_decide_38 rfl ⟨by decide, by decide, by decide, by decide⟩ ⟨fun _ => rfl, fun _ => Or.inl rfl⟩ rfl (Nat.le_of_ble_eq_true rfl) (fun o6 => ?_)
      show X E _ _ _ _ 0 0 _ _ _ [aR 10 o6] _
      refine x_astore_n (pc := 41) (als' := [(2, aR 10 o6), (0, aR 11 (some 0)), (1, aR 1 (some h1))]) 2 dX11_decide_41 rfl (by decide) rfl ?_
      refine x_aload_n (pc := 42) 2 dX11_decide_42 rfl rfl ?_
      rcases o6 with _ | i7
      ·
        refine x_ifnonnullN (pc := 43) dX11_decide_43 ?_
        refine x_aload_n (pc := 46) 0 dX11_decide_46 rfl rfl ?_
        refine x_getF (pc := 47) (j := 0) fd_11_14 rfl rfl tk_166 dX11_decide_47 ?_
        refine x_aload_n (pc := 50) 1 dX11_decide_50 rfl rfl ?_
        refine x_callVr (pc := 51) (as := []) (rest := [aR 6 (some 0)]) (fun l => c_1_price l true h1 σ) md_X1_price ⟨_, _, rfl, by decide⟩ tk_588 tk_589 tk_587 dX11_decide_51 rfl ⟨by decide, by decide, by decide, by decide⟩ ⟨fun _ => rfl, fun _ => Or.inl rfl⟩ rfl (Nat.le_of_ble_eq_true rfl) (fun r8 => ?_)
        show X E _ _ _ _ 0 0 _ _ _ [aI r8, aR 6 (some 0)] _
        refine x_callV (pc := 54) (as := [aI r8]) (rest := []) (fun l => c_6_ownerPaysAll l true r8 σ) md_X6_ownerPaysAll ⟨_, _, rfl, by decide⟩ tk_1008 tk_1009 tk_1007 dX11_decide_54 rfl ⟨by decide, by decide, by decide, by decide⟩ ⟨fun _ => rfl, fun _ => Or.inl rfl⟩ rfl (Nat.le_of_ble_eq_true rfl) (fun _ s10 => ?_)
        show X E _ _ _ _ 0 0 _ _ _ [] _
        exact x_vret (rm := r11_decide) rfl rfl dX11_decide_57
      ·
        refine x_ifnonnullS (pc := 43) 58 dX11_decide_43 (by decide) ?_
        refine x_aload_n (pc := 58) 0 dX11_decide_58 rfl rfl ?_
        refine x_aload_n (pc := 59) 1 dX11_decide_59 rfl rfl ?_
        refine x_callVr (pc := 60) (as := [aR 1 (some h1)]) (rest := []) (fun l => c_11_chargedCrew l h1 σ) md_X11_chargedCrew ⟨_, _, rfl, by decide⟩ tk_1013 tp_32 tk_1011 dX11_decide_60 rfl ⟨by decide, by decide, by decide, by decide⟩ ⟨fun _ => rfl, fun _ => Or.inl rfl⟩ rfl (Nat.le_of_ble_eq_true rfl) (fun r11 => ?_)
        show X E _ _ _ _ 0 0 _ _ _ [aI r11] _
        refine x_istore_n (pc := 63) (als' := [(3, aI r11), (2, aR 10 (some i7)), (0, aR 11 (some 0)), (1, aR 1 (some h1))]) 3 dX11_decide_63 rfl (by decide) rfl ?_
        refine x_aload_n (pc := 64) 0 dX11_decide_64 rfl rfl ?_
        refine x_getF (pc := 65) (j := 0) fd_11_14 rfl rfl tk_166 dX11_decide_65 ?_
        refine x_getF (pc := 68) (j := 0) fd_6_0 rfl rfl tk_60 dX11_decide_68 ?_
        refine x_astore (pc := 71) (als' := [(4, aR 700 (some 0)), (3, aI r11), (2, aR 10 (some i7)), (0, aR 11 (some 0)), (1, aR 1 (some h1))]) 4 dX11_decide_71 (by decide) rfl ?_
        refine x_aload (pc := 73) 4 dX11_decide_73 rfl ?_
        refine x_iconst (pc := 75) 0 dX11_decide_75 rfl ?_
        refine x_aload_n (pc := 76) 1 dX11_decide_76 rfl rfl ?_
        refine x_getI (pc := 77) fd_1_9 tk_450 dX11_decide_77 ?_
        refine x_aload_n (pc := 80) 1 dX11_decide_80 rfl rfl ?_
        refine x_getR (pc := 81) fd_1_1 tk_432 dX11_decide_81 ?_
        refine x_nameR (fun o12 => ?_)
        rcases o12 with _ | i13
        · exact x_none
        ·
          skip
          refine x_zocS ?_
          refine x_getI (pc := 84) fd_5_4 tk_237 dX11_decide_84 ?_
          refine x_isub (pc := 87) dX11_decide_87 ?_
          refine x_sipush (pc := 88) 360 dX11_decide_88 rfl ?_
          refine x_idivC (pc := 91) dX11_decide_91 (by decide) ?_
          refine x_iast (pc := 92) ar_700 dX11_decide_92 (fun m14 => ?_)
          refine x_nameS (fun s15 => ?_)
          refine x_aload (pc := 93) 4 dX11_decide_93 rfl ?_
          refine x_iconst (pc := 95) 1 dX11_decide_95 rfl ?_
          refine x_aload_n (pc := 96) 1 dX11_decide_96 rfl rfl ?_
          refine x_getI (pc := 97) fd_1_3 tk_436 dX11_decide_97 ?_
          refine x_iast (pc := 100) ar_700 dX11_decide_100 (fun m16 => ?_)
          refine x_nameS (fun s17 => ?_)
          refine x_aload (pc := 101) 4 dX11_decide_101 rfl ?_
          refine x_iconst (pc := 103) 2 dX11_decide_103 rfl ?_
          refine x_aload_n (pc := 104) 1 dX11_decide_104 rfl rfl ?_
          refine x_getR (pc := 105) fd_1_4 tk_439 dX11_decide_105 ?_
          refine x_nameR (fun o18 => ?_)
          rcases o18 with _ | i19
          · exact x_none
          ·
            skip
            refine x_zocS ?_
            refine x_getI (pc := 108) fd_7_0 tk_365 dX11_decide_108 ?_
            refine x_iast (pc := 111) ar_700 dX11_decide_111 (fun m20 => ?_)
            refine x_nameS (fun s21 => ?_)
            refine x_aload (pc := 112) 4 dX11_decide_112 rfl ?_
            refine x_iconst (pc := 114) 3 dX11_decide_114 rfl ?_
            refine x_aload_n (pc := 115) 1 dX11_decide_115 rfl rfl ?_
            refine x_getI (pc := 116) fd_1_5 tk_442 dX11_decide_116 ?_
            refine x_iast (pc := 119) ar_700 dX11_decide_119 (fun m22 => ?_)
            refine x_nameS (fun s23 => ?_)
            refine x_aload (pc := 120) 4 dX11_decide_120 rfl ?_
            refine x_iconst (pc := 122) 4 dX11_decide_122 rfl ?_
            refine x_aload_n (pc := 123) 1 dX11_decide_123 rfl rfl ?_
            refine x_getI (pc := 124) fd_1_11 tk_454 dX11_decide_124 ?_
            refine x_mg (c := (gI s23 1 h1 11) = 0) (a := 0) (b := 1) 135 [aI 4, aR 700 (some 0)] ?_ (fun hm24 => ?_)
            ·
              refine x_iast (pc := 135) ar_700 dX11_decide_135 (fun m28 => ?_)
              refine x_nameS (fun s29 => ?_)
              refine x_aload (pc := 136) 4 dX11_decide_136 rfl ?_
              refine x_iconst (pc := 138) 5 dX11_decide_138 rfl ?_
              refine x_aload_n (pc := 139) 1 dX11_decide_139 rfl rfl ?_
              refine x_getR (pc := 140) fd_1_1 tk_432 dX11_decide_140 ?_
              refine x_nameR (fun o30 => ?_)
              refine x_aload_n (pc := 143) 1 dX11_decide_143 rfl rfl ?_
              refine x_getI (pc := 144) fd_1_9 tk_450 dX11_decide_144 ?_
              rcases o30 with _ | i31
              · exact x_none
              ·
                skip
                refine x_zocS ?_
                refine x_callVr (pc := 147) (as := [aI (gI s29 1 h1 9)]) (rest := [aI 5, aR 700 (some 0)]) (fun l => c_5_salesBy l i31 (gI s29 1 h1 9) s29) md_X5_salesBy ⟨_, _, rfl, by decide⟩ tk_1017 tk_1018 tk_1016 dX11_decide_147 rfl ⟨by decide, by decide, by decide, by decide⟩ ⟨fun _ => rfl, fun _ => Or.inl rfl⟩ rfl (Nat.le_of_ble_eq_true rfl) (fun r32 => ?_)
                show X E _ _ _ _ 0 0 _ _ _ [aI r32, aI 5, aR 700 (some 0)] _
                refine x_iast (pc := 150) ar_700 dX11_decide_150 (fun m33 => ?_)
                refine x_nameS (fun s34 => ?_)
                refine x_aload (pc := 151) 4 dX11_decide_151 rfl ?_
                refine x_bipush (pc := 153) 6 dX11_decide_153 rfl ?_
                refine x_aload_n (pc := 155) 1 dX11_decide_155 rfl rfl ?_
                refine x_aload_n (pc := 156) 0 dX11_decide_156 rfl rfl ?_
                refine x_getI (pc := 157) fd_11_6 tk_158 dX11_decide_157 ?_
                refine x_callVr (pc := 160) (as := [aI (gI s34 11 0 6)]) (rest := [aI 6, aR 700 (some 0)]) (fun l => c_1_gaugeSays l h1 (gI s34 11 0 6) s34) md_X1_gaugeSays ⟨_, _, rfl, by decide⟩ tk_736 tk_737 tk_735 dX11_decide_160 rfl ⟨by decide, by decide, by decide, by decide⟩ ⟨fun _ => rfl, fun _ => Or.inl rfl⟩ rfl (Nat.le_of_ble_eq_true rfl) (fun r35 => ?_)
                show X E _ _ _ _ 0 0 _ _ _ [aI r35, aI 6, aR 700 (some 0)] _
                refine x_iast (pc := 163) ar_700 dX11_decide_163 (fun m36 => ?_)
                refine x_nameS (fun s37 => ?_)
                refine x_aload (pc := 164) 4 dX11_decide_164 rfl ?_
                refine x_bipush (pc := 166) 7 dX11_decide_166 rfl ?_
                refine x_iload_n (pc := 168) 3 dX11_decide_168 rfl rfl ?_
                refine x_bipush (pc := 169) (-4) dX11_decide_169 rfl ?_
                refine x_mg (c := r11 = (-4)) (a := 0) (b := 1) 179 [aI 7, aR 700 (some 0)] ?_ (fun hm38 => ?_)
                ·
                  refine x_iast (pc := 179) ar_700 dX11_decide_179 (fun m42 => ?_)
                  refine x_nameS (fun s43 => ?_)
                  refine x_aload (pc := 180) 4 dX11_decide_180 rfl ?_
                  refine x_bipush (pc := 182) 8 dX11_decide_182 rfl ?_
                  refine x_aload_n (pc := 184) 1 dX11_decide_184 rfl rfl ?_
                  refine x_getI (pc := 185) fd_1_2 tk_434 dX11_decide_185 ?_
                  refine x_iconst (pc := 188) 4 dX11_decide_188 rfl ?_
                  refine x_idivC (pc := 189) dX11_decide_189 (by decide) ?_
                  refine x_iast (pc := 190) ar_700 dX11_decide_190 (fun m44 => ?_)
                  refine x_nameS (fun s45 => ?_)
                  refine x_iload_n (pc := 191) 3 dX11_decide_191 rfl rfl ?_
                  refine x_bipush (pc := 192) (-4) dX11_decide_192 rfl ?_
                  refine x_join (P := fun (j47 : Int32 → Option (Unit × zSt)) => ∀ (a46 : Int32), X E cX11_decide m11_decide true (zQw E true eV r11_decide) 0 0 s45 [(0, aR 11 (some 0)), (1, aR 1 (some h1)), (2, aR 10 (some i7))] 215 [aI a46] (j47 a46)) ?_ ?_
                  · intro a46
                    refine x_istore (pc := 215) (als' := [(5, aI a46), (0, aR 11 (some 0)), (1, aR 1 (some h1)), (2, aR 10 (some i7))]) 5 dX11_decide_215 (by decide) rfl ?_
                    refine x_aload_n (pc := 217) 0 dX11_decide_217 rfl rfl ?_
                    refine x_getF (pc := 218) (j := 0) fd_11_14 rfl rfl tk_166 dX11_decide_218 ?_
                    refine x_aload_n (pc := 221) 2 dX11_decide_221 rfl rfl ?_
                    refine x_aload_n (pc := 222) 1 dX11_decide_222 rfl rfl ?_
                    refine x_callVr (pc := 223) (as := []) (rest := [aR 10 (some i7), aR 6 (some 0)]) (fun l => c_1_price l true h1 s45) md_X1_price ⟨_, _, rfl, by decide⟩ tk_588 tk_589 tk_587 dX11_decide_223 rfl ⟨by decide, by decide, by decide, by decide⟩ ⟨fun _ => rfl, fun _ => Or.inl rfl⟩ rfl (Nat.le_of_ble_eq_true rfl) (fun r49 => ?_)
                    show X E _ _ _ _ 0 0 _ _ _ [aI r49, aR 10 (some i7), aR 6 (some 0)] _
                    refine x_iload (pc := 226) 5 dX11_decide_226 rfl ?_
                    refine x_callV (pc := 228) (as := [aR 10 (some i7), aI r49, aI a46]) (rest := []) (fun l => c_6_decideBy l i7 r49 a46 s45) md_X6_decideBy ⟨_, _, rfl, by decide⟩ tk_1021 tk_1022 tk_1020 dX11_decide_228 rfl ⟨by decide, by decide, by decide, by decide⟩ ⟨fun _ => rfl, fun _ => Or.inl rfl⟩ rfl (Nat.le_of_ble_eq_true rfl) (fun _ s51 => ?_)
                    show X E _ _ _ _ 0 0 _ _ _ [] _
                    exact x_vret (rm := r11_decide) rfl rfl dX11_decide_231
                  · intro j47 hj48
                    refine x_icmp_ne (pc := 194) 214 dX11_decide_194 (by decide) (fun _ => ?_) (fun _ => ?_)
                    ·
                      refine x_iload_n (pc := 214) 3 dX11_decide_214 rfl rfl ?_
                      exact x_sub [3, 4, 2] rfl (hj48 r11)
                    ·
                      refine x_aload_n (pc := 197) 1 dX11_decide_197 rfl rfl ?_
                      refine x_getR (pc := 198) fd_1_1 tk_432 dX11_decide_198 ?_
                      refine x_nameR (fun o52 => ?_)
                      refine x_aload_n (pc := 201) 1 dX11_decide_201 rfl rfl ?_
                      refine x_getR (pc := 202) fd_1_4 tk_439 dX11_decide_202 ?_
                      refine x_nameR (fun o53 => ?_)
                      rcases o53 with _ | i54
                      · exact x_none
                      ·
                        skip
                        refine x_zocS ?_
                        refine x_getI (pc := 205) fd_7_0 tk_365 dX11_decide_205 ?_
                        rcases o52 with _ | i55
                        · exact x_none
                        ·
                          skip
                          refine x_zocS ?_
                          refine x_callVr (pc := 208) (as := [aI (gI s45 7 i54 0)]) (rest := []) (fun l => c_5_crewOf l i55 (gI s45 7 i54 0) s45) md_X5_crewOf ⟨_, _, rfl, by decide⟩ tk_305 tk_306 tk_304 dX11_decide_208 rfl ⟨by decide, by decide, by decide, by decide⟩ ⟨fun _ => rfl, fun _ => Or.inl rfl⟩ rfl (Nat.le_of_ble_eq_true rfl) (fun r56 => ?_)
                          show X E _ _ _ _ 0 0 _ _ _ [aI r56] _
                          refine x_goto (pc := 211) 215 dX11_decide_211 (by decide) ?_
                          exact x_sub [3, 4, 2] rfl (hj48 r56)
                ·
                  refine x_same (c := r11 = (-4)) ?_
                  refine x_icmp_ne (pc := 171) 178 dX11_decide_171 (by decide) (fun hc39 => ?_) (fun hc39 => ?_)
                  ·
                    have hm41 := x_topF hc39 hm38
                    refine x_iconst (pc := 178) 1 dX11_decide_178 rfl ?_
                    exact hm41
                  ·
                    have hm40 := x_topT hc39 hm38
                    refine x_iconst (pc := 174) 0 dX11_decide_174 rfl ?_
                    refine x_goto (pc := 175) 179 dX11_decide_175 (by decide) ?_
                    exact hm40
            ·
              refine x_same (c := (gI s23 1 h1 11) = 0) ?_
              refine x_if_eq (pc := 127) 134 dX11_decide_127 (by decide) (fun hc25 => ?_) (fun hc25 => ?_)
              ·
                have hm26 := x_topT hc25 hm24
                refine x_iconst (pc := 134) 0 dX11_decide_134 rfl ?_
                exact hm26
              ·
                have hm27 := x_topF hc25 hm24
                refine x_iconst (pc := 130) 1 dX11_decide_130 rfl ?_
                refine x_goto (pc := 131) 135 dX11_decide_131 (by decide) ?_
                exact hm27
  ·
    refine x_aload_n (pc := 7) 0 dX11_decide_7 rfl rfl ?_
    refine x_getF (pc := 8) (j := 0) fd_11_14 rfl rfl tk_166 dX11_decide_8 ?_
    refine x_aload_n (pc := 11) 1 dX11_decide_11 rfl rfl ?_
    refine x_callVr (pc := 12) (as := []) (rest := [aR 6 (some 0)]) (fun l => c_1_price l true h1 σ) md_X1_price ⟨_, _, rfl, by decide⟩ tk_588 tk_589 tk_587 dX11_decide_12 rfl ⟨by decide, by decide, by decide, by decide⟩ ⟨fun _ => rfl, fun _ => Or.inl rfl⟩ rfl (Nat.le_of_ble_eq_true rfl) (fun r57 => ?_)
    show X E _ _ _ _ 0 0 _ _ _ [aI r57, aR 6 (some 0)] _
    refine x_callV (pc := 15) (as := [aI r57]) (rest := []) (fun l => c_6_builderPaysAll l true r57 σ) md_X6_builderPaysAll ⟨_, _, rfl, by decide⟩ tk_995 tk_996 tk_994 dX11_decide_15 rfl ⟨by decide, by decide, by decide, by decide⟩ ⟨fun _ => rfl, fun _ => Or.inl rfl⟩ rfl (Nat.le_of_ble_eq_true rfl) (fun _ s59 => ?_)
    show X E _ _ _ _ 0 0 _ _ _ [] _
    exact x_vret (rm := r11_decide) rfl rfl dX11_decide_18
theorem c_11_decide (l : Launch)  (h1 : Nat) (σ : zSt) : zMet l yX11_decide cX11_decide 6 none r11_decide true eV [aR 11 (some 0), aR 1 (some h1)] σ (f11_decide h1 σ) :=
  zMet_of [(0, aR 11 (some 0)), (1, aR 1 (some h1))] (by decide +kernel) (fun h => by cases h) (Nat.le_of_ble_eq_true rfl) rfl fun E _ => x11_decide E  h1 σ
