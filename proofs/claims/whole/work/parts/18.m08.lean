abbrev r11_ofCrew : Room := { frames := 5, cells := 0, slots := 0, locals := 116 }
abbrev m11_ofCrew : zMu := (RX11, 3, (some .int), r11_ofCrew, false)
set_option maxRecDepth 20000 in
theorem x11_ofCrew (E : zEn)  (v1 : Int32) (v2 : Int32) (σ : zSt) : X E cX11_ofCrew m11_ofCrew true (zQr E true eI r11_ofCrew σ) 0 0 σ [(0, aR 11 (some 0)), (1, aI v1), (2, aI v2)] 0 [] (f11_ofCrew v1 v2 σ) := by
  unfold f11_ofCrew
  refine x_iload_n (pc := 0) 1 dX11_ofCrew_0 rfl rfl ?_
  refine x_bipush (pc := 1) 10 dX11_ofCrew_1 rfl ?_
  refine x_callSr (pc := 3) (as := [aI v1, aI 10]) (rest := []) (fun l => c_11_isIn l true v1 10 σ) md_X11_isIn tk_219 tk_218 dX11_ofCrew_3 rfl ⟨by decide, by decide, by decide, by decide⟩ ⟨fun _ => rfl, fun _ => Or.inl rfl⟩ rfl (Nat.le_of_ble_eq_true rfl) (fun r1 => ?_)
  show X E _ _ _ _ 0 0 _ _ _ [aI r1] _
  refine x_if_ne (pc := 6) 11 dX11_ofCrew_6 (by decide) (fun _ => ?_) (fun _ => ?_)
  ·
    refine x_iload_n (pc := 11) 2 dX11_ofCrew_11 rfl rfl ?_
    refine x_table (pc := 12) dX11_ofCrew_12 (by decide) (fun tg2 ht3 => ?_) (fun x => ?_)
    ·
      refine x_ite (fun hc4 => ?_) (fun hc4 => ?_)
      ·
        obtain rfl : tg2 = 44 := zsw_at hc4 ht3 (by decide)
        refine x_aload_n (pc := 44) 0 dX11_ofCrew_44 rfl rfl ?_
        refine x_iload_n (pc := 45) 1 dX11_ofCrew_45 rfl rfl ?_
        refine x_callVr (pc := 46) (as := [aI v1]) (rest := []) (fun l => c_11_saidBy l v1 σ) md_X11_saidBy ⟨_, _, rfl, by decide⟩ tk_1144 tp_47 tk_1142 dX11_ofCrew_46 rfl ⟨by decide, by decide, by decide, by decide⟩ ⟨fun _ => rfl, fun _ => Or.inl rfl⟩ rfl (Nat.le_of_ble_eq_true rfl) (fun r5 => ?_)
        show X E _ _ _ _ 0 0 _ _ _ [aI r5] _
        exact x_iret (rm := r11_ofCrew) rfl rfl dX11_ofCrew_49
      ·
        refine x_ite (fun hc6 => ?_) (fun hc6 => ?_)
        ·
          obtain rfl : tg2 = 50 := zsw_at hc6 ht3 (by decide)
          refine x_aload_n (pc := 50) 0 dX11_ofCrew_50 rfl rfl ?_
          refine x_getF (pc := 51) (j := 0) fd_11_17 rfl rfl tk_169 dX11_ofCrew_51 ?_
          refine x_iload_n (pc := 54) 1 dX11_ofCrew_54 rfl rfl ?_
          refine x_iald (pc := 55) ar_1217 dX11_ofCrew_55 (fun m7 => ?_)
          exact x_iret (rm := r11_ofCrew) rfl rfl dX11_ofCrew_56
        ·
          refine x_ite (fun hc8 => ?_) (fun hc8 => ?_)
          ·
            obtain rfl : tg2 = 57 := zsw_at hc8 ht3 (by decide)
            refine x_aload_n (pc := 57) 0 dX11_ofCrew_57 rfl rfl ?_
            refine x_iload_n (pc := 58) 1 dX11_ofCrew_58 rfl rfl ?_
            refine x_callVr (pc := 59) (as := [aI v1]) (rest := []) (fun l => c_11_falseBy l v1 σ) md_X11_falseBy ⟨_, _, rfl, by decide⟩ tk_1148 tp_48 tk_1146 dX11_ofCrew_59 rfl ⟨by decide, by decide, by decide, by decide⟩ ⟨fun _ => rfl, fun _ => Or.inl rfl⟩ rfl (Nat.le_of_ble_eq_true rfl) (fun r9 => ?_)
            show X E _ _ _ _ 0 0 _ _ _ [aI r9] _
            exact x_iret (rm := r11_ofCrew) rfl rfl dX11_ofCrew_62
          ·
            refine x_ite (fun hc10 => ?_) (fun hc10 => ?_)
            ·
              obtain rfl : tg2 = 63 := zsw_at hc10 ht3 (by decide)
              refine x_aload_n (pc := 63) 0 dX11_ofCrew_63 rfl rfl ?_
              refine x_iload_n (pc := 64) 1 dX11_ofCrew_64 rfl rfl ?_
              refine x_callVr (pc := 65) (as := [aI v1]) (rest := []) (fun l => c_11_chargedTo l v1 σ) md_X11_chargedTo ⟨_, _, rfl, by decide⟩ tk_1152 tp_49 tk_1150 dX11_ofCrew_65 rfl ⟨by decide, by decide, by decide, by decide⟩ ⟨fun _ => rfl, fun _ => Or.inl rfl⟩ rfl (Nat.le_of_ble_eq_true rfl) (fun r11 => ?_)
              show X E _ _ _ _ 0 0 _ _ _ [aI r11] _
              exact x_iret (rm := r11_ofCrew) rfl rfl dX11_ofCrew_68
            ·
              obtain rfl : tg2 = 69 := zswd_at (cs := [0, 1, 2, 3]) ht3 (by decide) (by simp only [List.mem_cons, List.not_mem_nil, or_false, not_or]; exact ⟨hc4, hc6, hc8, hc10⟩) (by decide)
              refine x_iconst (pc := 69) (-1) dX11_ofCrew_69 rfl ?_
              exact x_iret (rm := r11_ofCrew) rfl rfl dX11_ofCrew_70
    · exact ztoff_pos (by decide) (by decide) x
  ·
    refine x_iconst (pc := 9) (-1) dX11_ofCrew_9 rfl ?_
    exact x_iret (rm := r11_ofCrew) rfl rfl dX11_ofCrew_10
theorem c_11_ofCrew (l : Launch)  (v1 : Int32) (v2 : Int32) (σ : zSt) : zMet l yX11_ofCrew cX11_ofCrew 3 (some .int) r11_ofCrew true eI [aR 11 (some 0), aI v1, aI v2] σ (zro (f11_ofCrew v1 v2 σ) σ) :=
  zMet_ofR [(0, aR 11 (some 0)), (1, aI v1), (2, aI v2)] (by decide +kernel) (fun h => by cases h) (Nat.le_of_ble_eq_true rfl) rfl fun E _ => x11_ofCrew E  v1 v2 σ
abbrev r11_bounds : Room := { frames := 3, cells := 0, slots := 0, locals := 77 }
abbrev m11_bounds : zMu := (RX11, 7, (some .int), r11_bounds, false)
set_option maxRecDepth 20000 in
theorem x11_bounds (E : zEn)  (v1 : Int32) (v2 : Int32) (v3 : Int32) (σ : zSt) : X E cX11_bounds m11_bounds true (zQr E true eI r11_bounds σ) 0 0 σ [(0, aR 11 (some 0)), (1, aI v1), (2, aI v2), (3, aI v3)] 0 [] (f11_bounds v1 v2 v3 σ) := by
  unfold f11_bounds
  refine x_iload_n (pc := 0) 1 dX11_bounds_0 rfl rfl ?_
  refine x_bipush (pc := 1) 10 dX11_bounds_1 rfl ?_
  refine x_callSr (pc := 3) (as := [aI v1, aI 10]) (rest := []) (fun l => c_11_isIn l true v1 10 σ) md_X11_isIn tk_219 tk_218 dX11_bounds_3 rfl ⟨by decide, by decide, by decide, by decide⟩ ⟨fun _ => rfl, fun _ => Or.inl rfl⟩ rfl (Nat.le_of_ble_eq_true rfl) (fun r1 => ?_)
  show X E _ _ _ _ 0 0 _ _ _ [aI r1] _
  refine x_if_eq (pc := 6) 28 dX11_bounds_6 (by decide) (fun _ => ?_) (fun _ => ?_)
  ·
    refine x_iconst (pc := 28) (-1) dX11_bounds_28 rfl ?_
    exact x_iret (rm := r11_bounds) rfl rfl dX11_bounds_29
  ·
    refine x_iload_n (pc := 9) 2 dX11_bounds_9 rfl rfl ?_
    refine x_iconst (pc := 10) 1 dX11_bounds_10 rfl ?_
    refine x_icmp_lt (pc := 11) 28 dX11_bounds_11 (by decide) (fun _ => ?_) (fun _ => ?_)
    ·
      refine x_iconst (pc := 28) (-1) dX11_bounds_28 rfl ?_
      exact x_iret (rm := r11_bounds) rfl rfl dX11_bounds_29
    ·
      refine x_iload_n (pc := 14) 2 dX11_bounds_14 rfl rfl ?_
      refine x_bipush (pc := 15) 49 dX11_bounds_15 rfl ?_
      refine x_icmp_gt (pc := 17) 28 dX11_bounds_17 (by decide) (fun _ => ?_) (fun _ => ?_)
      ·
        refine x_iconst (pc := 28) (-1) dX11_bounds_28 rfl ?_
        exact x_iret (rm := r11_bounds) rfl rfl dX11_bounds_29
      ·
        refine x_iload_n (pc := 20) 3 dX11_bounds_20 rfl rfl ?_
        refine x_iconst (pc := 21) 2 dX11_bounds_21 rfl ?_
        refine x_callSr (pc := 22) (as := [aI v3, aI 2]) (rest := []) (fun l => c_11_isIn l true v3 2 σ) md_X11_isIn tk_219 tk_218 dX11_bounds_22 rfl ⟨by decide, by decide, by decide, by decide⟩ ⟨fun _ => rfl, fun _ => Or.inl rfl⟩ rfl (Nat.le_of_ble_eq_true rfl) (fun r2 => ?_)
        show X E _ _ _ _ 0 0 _ _ _ [aI r2] _
        refine x_if_ne (pc := 25) 30 dX11_bounds_25 (by decide) (fun _ => ?_) (fun _ => ?_)
        ·
          refine x_aload_n (pc := 30) 0 dX11_bounds_30 rfl rfl ?_
          refine x_iload_n (pc := 31) 1 dX11_bounds_31 rfl rfl ?_
          refine x_callVr (pc := 32) (as := [aI v1]) (rest := []) (fun l => c_11_saidBy l v1 σ) md_X11_saidBy ⟨_, _, rfl, by decide⟩ tk_1144 tp_47 tk_1142 dX11_bounds_32 rfl ⟨by decide, by decide, by decide, by decide⟩ ⟨fun _ => rfl, fun _ => Or.inl rfl⟩ rfl (Nat.le_of_ble_eq_true rfl) (fun r3 => ?_)
          show X E _ _ _ _ 0 0 _ _ _ [aI r3] _
          refine x_istore (pc := 35) (als' := [(4, aI r3), (0, aR 11 (some 0)), (1, aI v1), (2, aI v2), (3, aI v3)]) 4 dX11_bounds_35 (by decide) rfl ?_
          refine x_iload (pc := 37) 4 dX11_bounds_37 rfl ?_
          refine x_bipush (pc := 39) 40 dX11_bounds_39 rfl ?_
          refine x_icmp_le (pc := 41) 47 dX11_bounds_41 (by decide) (fun _ => ?_) (fun _ => ?_)
          ·
            refine x_aload_n (pc := 47) 0 dX11_bounds_47 rfl rfl ?_
            refine x_getF (pc := 48) (j := 0) fd_11_17 rfl rfl tk_169 dX11_bounds_48 ?_
            refine x_iload_n (pc := 51) 1 dX11_bounds_51 rfl rfl ?_
            refine x_iald (pc := 52) ar_1217 dX11_bounds_52 (fun m4 => ?_)
            refine x_nameI (fun x5 => ?_)
            refine x_istore (pc := 53) (als' := [(5, aI x5), (4, aI r3), (0, aR 11 (some 0)), (1, aI v1), (2, aI v2), (3, aI v3)]) 5 dX11_bounds_53 (by decide) rfl ?_
            refine x_aload_n (pc := 55) 0 dX11_bounds_55 rfl rfl ?_
            refine x_iload_n (pc := 56) 1 dX11_bounds_56 rfl rfl ?_
            refine x_callVr (pc := 57) (as := [aI v1]) (rest := []) (fun l => c_11_falseBy l v1 σ) md_X11_falseBy ⟨_, _, rfl, by decide⟩ tk_1148 tp_48 tk_1146 dX11_bounds_57 rfl ⟨by decide, by decide, by decide, by decide⟩ ⟨fun _ => rfl, fun _ => Or.inl rfl⟩ rfl (Nat.le_of_ble_eq_true rfl) (fun r6 => ?_)
            show X E _ _ _ _ 0 0 _ _ _ [aI r6] _
            refine x_istore (pc := 60) (als' := [(6, aI r6), (5, aI x5), (4, aI r3), (0, aR 11 (some 0)), (1, aI v1), (2, aI v2), (3, aI v3)]) 6 dX11_bounds_60 (by decide) rfl ?_
            refine x_iload_n (pc := 62) 3 dX11_bounds_62 rfl rfl ?_
            refine x_if_ne (pc := 63) 79 dX11_bounds_63 (by decide) (fun _ => ?_) (fun _ => ?_)
            ·
              refine x_iload (pc := 79) 4 dX11_bounds_79 rfl ?_
              refine x_iload (pc := 81) 5 dX11_bounds_81 rfl ?_
              refine x_iload (pc := 83) 6 dX11_bounds_83 rfl ?_
              refine x_iload_n (pc := 85) 2 dX11_bounds_85 rfl rfl ?_
              refine x_callSr (pc := 86) (as := [aI r3, aI x5, aI r6, aI v2]) (rest := []) (fun l => c_8_greatestFalse l true r3 x5 r6 v2 σ) md_X8_greatestFalse tk_1163 tk_1162 dX11_bounds_86 rfl ⟨by decide, by decide, by decide, by decide⟩ ⟨fun _ => rfl, fun _ => Or.inl rfl⟩ rfl (Nat.le_of_ble_eq_true rfl) (fun r8 => ?_)
              show X E _ _ _ _ 0 0 _ _ _ [aI r8] _
              exact x_iret (rm := r11_bounds) rfl rfl dX11_bounds_89
            ·
              refine x_iload (pc := 66) 4 dX11_bounds_66 rfl ?_
              refine x_iload (pc := 68) 5 dX11_bounds_68 rfl ?_
              refine x_iload (pc := 70) 6 dX11_bounds_70 rfl ?_
              refine x_iload_n (pc := 72) 2 dX11_bounds_72 rfl rfl ?_
              refine x_callSr (pc := 73) (as := [aI r3, aI x5, aI r6, aI v2]) (rest := []) (fun l => c_8_leastFalse l true r3 x5 r6 v2 σ) md_X8_leastFalse tk_1159 tk_1158 dX11_bounds_73 rfl ⟨by decide, by decide, by decide, by decide⟩ ⟨fun _ => rfl, fun _ => Or.inl rfl⟩ rfl (Nat.le_of_ble_eq_true rfl) (fun r7 => ?_)
              show X E _ _ _ _ 0 0 _ _ _ [aI r7] _
              refine x_goto (pc := 76) 89 dX11_bounds_76 (by decide) ?_
              exact x_iret (rm := r11_bounds) rfl rfl dX11_bounds_89
          ·
            refine x_bipush (pc := 44) (-5) dX11_bounds_44 rfl ?_
            exact x_iret (rm := r11_bounds) rfl rfl dX11_bounds_46
        ·
          refine x_iconst (pc := 28) (-1) dX11_bounds_28 rfl ?_
          exact x_iret (rm := r11_bounds) rfl rfl dX11_bounds_29
theorem c_11_bounds (l : Launch)  (v1 : Int32) (v2 : Int32) (v3 : Int32) (σ : zSt) : zMet l yX11_bounds cX11_bounds 7 (some .int) r11_bounds true eI [aR 11 (some 0), aI v1, aI v2, aI v3] σ (zro (f11_bounds v1 v2 v3 σ) σ) :=
  zMet_ofR [(0, aR 11 (some 0)), (1, aI v1), (2, aI v2), (3, aI v3)] (by decide +kernel) (fun h => by cases h) (Nat.le_of_ble_eq_true rfl) rfl fun E _ => x11_bounds E  v1 v2 v3 σ
abbrev r11_weightOf : Room := { frames := 2, cells := 0, slots := 0, locals := 45 }
abbrev m11_weightOf : zMu := (RX11, 6, (some .int), r11_weightOf, false)
set_option maxRecDepth 20000 in
theorem xl11_weightOf_5 (E : zEn)   (h1 : Int32) (h2 : Int32) (σ : zSt)   : ∀ (n : Nat) (v3 : Int32) (v4 : Int32), X E cX11_weightOf m11_weightOf true (zQr E true eI r11_weightOf σ) 0 0 σ [(0, aR 11 (some 0)), (1, aI h1), (2, aI h2), (3, aI v3), (4, aI v4)] 5 [] (f11_weightOf_L5 h1 h2 σ n v3 v4) := by
  intro n
  induction n with
  | zero => intros; exact x_none
  | succ n ih =>
    intro v3 v4
    rw [f11_weightOf_L5]
    refine x_iload (pc := 5) 4 dX11_weightOf_5 rfl ?_
    refine x_aload_n (pc := 7) 0 dX11_weightOf_7 rfl rfl ?_
    refine x_getI (pc := 8) fd_11_5 tk_157 dX11_weightOf_8 ?_
    refine x_icmp_ge (pc := 11) 62 dX11_weightOf_11 (by decide) (fun _ => ?_) (fun _ => ?_)
    ·
      refine x_iload_n (pc := 62) 3 dX11_weightOf_62 rfl rfl ?_
      exact x_iret (rm := r11_weightOf) rfl rfl dX11_weightOf_63
    ·
      refine x_aload_n (pc := 14) 0 dX11_weightOf_14 rfl rfl ?_
      refine x_getF (pc := 15) (j := 0) fd_11_4 rfl rfl tk_156 dX11_weightOf_15 ?_
      refine x_iload (pc := 18) 4 dX11_weightOf_18 rfl ?_
      refine x_aald (pc := 20) (g0 := 1) ar_1204 (by decide) rfl dX11_weightOf_20 (fun m1 => ?_)
      refine x_nameR (fun o2 => ?_)
      refine x_astore (pc := 21) (als' := [(5, aR 1 o2), (0, aR 11 (some 0)), (1, aI h1), (2, aI h2), (3, aI v3), (4, aI v4)]) 5 dX11_weightOf_21 (by decide) rfl ?_
      refine x_iload_n (pc := 23) 3 dX11_weightOf_23 rfl rfl ?_
      refine x_aload (pc := 24) 5 dX11_weightOf_24 rfl ?_
      rcases o2 with _ | i3
      · exact x_none
      ·
        skip
        refine x_zocS ?_
        refine x_getR (pc := 26) fd_1_1 tk_432 dX11_weightOf_26 ?_
        refine x_nameR (fun o4 => ?_)
        rcases o4 with _ | i5
        · exact x_none
        ·
          skip
          refine x_zocS ?_
          refine x_getI (pc := 29) fd_5_0 tk_228 dX11_weightOf_29 ?_
          refine x_iload_n (pc := 32) 1 dX11_weightOf_32 rfl rfl ?_
          refine x_join (P := fun (j7 : Int32 → Option Int32) => ∀ (a6 : Int32), X E cX11_weightOf m11_weightOf true (zQr E true eI r11_weightOf σ) 0 0 σ [(0, aR 11 (some 0)), (1, aI h1), (2, aI h2), (4, aI v4)] 54 [aI a6, aI v3] (j7 a6)) ?_ ?_
          · intro a6
            refine x_iadd (pc := 54) dX11_weightOf_54 ?_
            refine x_nameI (fun x9 => ?_)
            refine x_istore_n (pc := 55) (als' := [(3, aI x9), (0, aR 11 (some 0)), (1, aI h1), (2, aI h2), (4, aI v4)]) 3 dX11_weightOf_55 rfl (by decide) rfl ?_
            refine x_iinc (pc := 56) (als' := [(4, aI (v4 + 1)), (3, aI x9), (0, aR 11 (some 0)), (1, aI h1), (2, aI h2)]) 4 4 (c := 1) dX11_weightOf_56 rfl rfl (by decide) rfl ?_
            refine x_nameV (g := fun y11 => [(4, aI y11), (3, aI x9), (0, aR 11 (some 0)), (1, aI h1), (2, aI h2)]) (fun x10 => ?_) rfl
            refine x_goto (pc := 59) 5 dX11_weightOf_59 (by decide) ?_
            exact x_sub [2, 3, 4, 1, 0] rfl (ih x9 x10)
          · intro j7 hj8
            refine x_join (P := fun (j12 : Option Int32) => X E cX11_weightOf m11_weightOf true (zQr E true eI r11_weightOf σ) 0 0 σ [(0, aR 11 (some 0)), (1, aI h1), (2, aI h2), (4, aI v4)] 53 [aI v3] j12) ?_ ?_
            ·
              refine x_iconst (pc := 53) 0 dX11_weightOf_53 rfl ?_
              exact hj8 0
            · intro j12 hj13
              refine x_icmp_ne (pc := 33) 53 dX11_weightOf_33 (by decide) (fun _ => ?_) (fun _ => ?_)
              ·
                exact x_sub [1, 2, 3, 5] rfl (hj13)
              ·
                refine x_aload (pc := 36) 5 dX11_weightOf_36 rfl ?_
                refine x_iload_n (pc := 38) 2 dX11_weightOf_38 rfl rfl ?_
                refine x_callVr (pc := 39) (as := [aI h2]) (rest := [aI v3]) (fun l => c_1_isLeftOn l i3 h2 σ) md_X1_isLeftOn ⟨_, _, rfl, by decide⟩ tk_322 tk_323 tk_321 dX11_weightOf_39 rfl ⟨by decide, by decide, by decide, by decide⟩ ⟨fun _ => rfl, fun _ => Or.inl rfl⟩ rfl (Nat.le_of_ble_eq_true rfl) (fun r14 => ?_)
                show X E _ _ _ _ 0 0 _ _ _ [aI r14, aI v3] _
                refine x_if_eq (pc := 42) 53 dX11_weightOf_42 (by decide) (fun _ => ?_) (fun _ => ?_)
                ·
                  exact x_sub [1, 2, 3, 5] rfl (hj13)
                ·
                  refine x_aload (pc := 45) 5 dX11_weightOf_45 rfl ?_
                  refine x_getI (pc := 47) fd_1_5 tk_442 dX11_weightOf_47 ?_
                  refine x_goto (pc := 50) 54 dX11_weightOf_50 (by decide) ?_
                  exact x_sub [1, 2, 3, 5] rfl (hj8 (gI σ 1 i3 5))
set_option maxRecDepth 20000 in
theorem x11_weightOf (E : zEn)  (v1 : Int32) (v2 : Int32) (σ : zSt) : X E cX11_weightOf m11_weightOf true (zQr E true eI r11_weightOf σ) 0 0 σ [(0, aR 11 (some 0)), (1, aI v1), (2, aI v2)] 0 [] (f11_weightOf v1 v2 σ) := by
  unfold f11_weightOf
  refine x_iconst (pc := 0) 0 dX11_weightOf_0 rfl ?_
  refine x_istore_n (pc := 1) (als' := [(3, aI 0), (0, aR 11 (some 0)), (1, aI v1), (2, aI v2)]) 3 dX11_weightOf_1 rfl (by decide) rfl ?_
  refine x_iconst (pc := 2) 0 dX11_weightOf_2 rfl ?_
  refine x_istore (pc := 3) (als' := [(4, aI 0), (3, aI 0), (0, aR 11 (some 0)), (1, aI v1), (2, aI v2)]) 4 dX11_weightOf_3 (by decide) rfl ?_
  refine x_sub [2, 3, 4, 1, 0] rfl (xl11_weightOf_5 E v1 v2 σ zfuel 0 0)
theorem c_11_weightOf (l : Launch)  (v1 : Int32) (v2 : Int32) (σ : zSt) : zMet l yX11_weightOf cX11_weightOf 6 (some .int) r11_weightOf true eI [aR 11 (some 0), aI v1, aI v2] σ (zro (f11_weightOf v1 v2 σ) σ) :=
  zMet_ofR [(0, aR 11 (some 0)), (1, aI v1), (2, aI v2)] (by decide +kernel) (fun h => by cases h) (Nat.le_of_ble_eq_true rfl) rfl fun E _ => x11_weightOf E  v1 v2 σ
abbrev r11_placeOf : Room := { frames := 3, cells := 0, slots := 0, locals := 70 }
abbrev m11_placeOf : zMu := (RX11, 7, (some .int), r11_placeOf, false)
set_option maxRecDepth 20000 in
theorem xl11_placeOf_13 (E : zEn)   (h1 : Int32) (h2 : Int32) (h3 : Int32) (σ : zSt)   : ∀ (n : Nat) (v4 : Int32) (v5 : Int32), X E cX11_placeOf m11_placeOf true (zQr E true eI r11_placeOf σ) 0 0 σ [(0, aR 11 (some 0)), (1, aI h1), (2, aI h2), (3, aI h3), (4, aI v4), (5, aI v5)] 13 [] (f11_placeOf_L13 h1 h2 h3 σ n v4 v5) := by
  intro n
  induction n with
  | zero => intros; exact x_none
  | succ n ih =>
    intro v4 v5
    rw [f11_placeOf_L13]
    refine x_iload (pc := 13) 5 dX11_placeOf_13 rfl ?_
    refine x_bipush (pc := 15) 8 dX11_placeOf_15 rfl ?_
    refine x_icmp_ge (pc := 17) 63 dX11_placeOf_17 (by decide) (fun _ => ?_) (fun _ => ?_)
    ·
      refine x_iload (pc := 63) 4 dX11_placeOf_63 rfl ?_
      exact x_iret (rm := r11_placeOf) rfl rfl dX11_placeOf_65
    ·
      refine x_aload_n (pc := 20) 0 dX11_placeOf_20 rfl rfl ?_
      refine x_iload (pc := 21) 5 dX11_placeOf_21 rfl ?_
      refine x_iload_n (pc := 23) 2 dX11_placeOf_23 rfl rfl ?_
      refine x_callVr (pc := 24) (as := [aI v5, aI h2]) (rest := []) (fun l => c_11_weightOf l v5 h2 σ) md_X11_weightOf ⟨_, _, rfl, by decide⟩ tk_1175 tp_51 tk_1173 dX11_placeOf_24 rfl ⟨by decide, by decide, by decide, by decide⟩ ⟨fun _ => rfl, fun _ => Or.inl rfl⟩ rfl (Nat.le_of_ble_eq_true rfl) (fun r2 => ?_)
      show X E _ _ _ _ 0 0 _ _ _ [aI r2] _
      refine x_istore (pc := 27) (als' := [(6, aI r2), (0, aR 11 (some 0)), (1, aI h1), (2, aI h2), (3, aI h3), (4, aI v4), (5, aI v5)]) 6 dX11_placeOf_27 (by decide) rfl ?_
      refine x_iload (pc := 29) 4 dX11_placeOf_29 rfl ?_
      refine x_iload (pc := 31) 6 dX11_placeOf_31 rfl ?_
      refine x_iload_n (pc := 33) 3 dX11_placeOf_33 rfl rfl ?_
      refine x_mg (c := h3 < r2) (a := 1) (b := (if r2 = h3 then (if h1 ≤ v5 then 0 else 1) else 0)) 54 [aI v4] ?_ (fun hm3 => ?_)
      ·
        refine x_iadd (pc := 54) dX11_placeOf_54 ?_
        refine x_nameI (fun x13 => ?_)
        refine x_istore (pc := 55) (als' := [(4, aI x13), (6, aI r2), (0, aR 11 (some 0)), (1, aI h1), (2, aI h2), (3, aI h3), (5, aI v5)]) 4 dX11_placeOf_55 (by decide) rfl ?_
        refine x_iinc (pc := 57) (als' := [(5, aI (v5 + 1)), (4, aI x13), (6, aI r2), (0, aR 11 (some 0)), (1, aI h1), (2, aI h2), (3, aI h3)]) 5 6 (c := 1) dX11_placeOf_57 rfl rfl (by decide) rfl ?_
        refine x_nameV (g := fun y15 => [(5, aI y15), (4, aI x13), (6, aI r2), (0, aR 11 (some 0)), (1, aI h1), (2, aI h2), (3, aI h3)]) (fun x14 => ?_) rfl
        refine x_goto (pc := 60) 13 dX11_placeOf_60 (by decide) ?_
        exact x_sub [3, 4, 5, 6, 1, 0] rfl (ih x13 x14)
      ·
        refine x_same (c := h3 < r2) ?_
        refine x_icmp_gt (pc := 34) 49 dX11_placeOf_34 (by decide) (fun hc4 => ?_) (fun hc4 => ?_)
        ·
          have hm5 := x_topT hc4 hm3
          refine x_iconst (pc := 49) 1 dX11_placeOf_49 rfl ?_
          refine x_goto (pc := 50) 54 dX11_placeOf_50 (by decide) ?_
          exact hm5
        ·
          have hm6 := x_topF hc4 hm3
          refine x_iload (pc := 37) 6 dX11_placeOf_37 rfl ?_
          refine x_iload_n (pc := 39) 3 dX11_placeOf_39 rfl rfl ?_
          refine x_same (c := r2 = h3) ?_
          refine x_icmp_ne (pc := 40) 53 dX11_placeOf_40 (by decide) (fun hc7 => ?_) (fun hc7 => ?_)
          ·
            have hm9 := x_topF hc7 hm6
            refine x_iconst (pc := 53) 0 dX11_placeOf_53 rfl ?_
            exact hm9
          ·
            have hm8 := x_topT hc7 hm6
            refine x_iload (pc := 43) 5 dX11_placeOf_43 rfl ?_
            refine x_iload_n (pc := 45) 1 dX11_placeOf_45 rfl rfl ?_
            refine x_same (c := h1 ≤ v5) ?_
            refine x_icmp_ge (pc := 46) 53 dX11_placeOf_46 (by decide) (fun hc10 => ?_) (fun hc10 => ?_)
            ·
              have hm11 := x_topT hc10 hm8
              refine x_iconst (pc := 53) 0 dX11_placeOf_53 rfl ?_
              exact hm11
            ·
              have hm12 := x_topF hc10 hm8
              refine x_iconst (pc := 49) 1 dX11_placeOf_49 rfl ?_
              refine x_goto (pc := 50) 54 dX11_placeOf_50 (by decide) ?_
              exact hm12
set_option maxRecDepth 20000 in
theorem x11_placeOf (E : zEn)  (v1 : Int32) (v2 : Int32) (σ : zSt) : X E cX11_placeOf m11_placeOf true (zQr E true eI r11_placeOf σ) 0 0 σ [(0, aR 11 (some 0)), (1, aI v1), (2, aI v2)] 0 [] (f11_placeOf v1 v2 σ) := by
  unfold f11_placeOf
  refine x_aload_n (pc := 0) 0 dX11_placeOf_0 rfl rfl ?_
  refine x_iload_n (pc := 1) 1 dX11_placeOf_1 rfl rfl ?_
  refine x_iload_n (pc := 2) 2 dX11_placeOf_2 rfl rfl ?_
  refine x_callVr (pc := 3) (as := [aI v1, aI v2]) (rest := []) (fun l => c_11_weightOf l v1 v2 σ) md_X11_weightOf ⟨_, _, rfl, by decide⟩ tk_1175 tp_51 tk_1173 dX11_placeOf_3 rfl ⟨by decide, by decide, by decide, by decide⟩ ⟨fun _ => rfl, fun _ => Or.inl rfl⟩ rfl (Nat.le_of_ble_eq_true rfl) (fun r1 => ?_)
  show X E _ _ _ _ 0 0 _ _ _ [aI r1] _
  refine x_istore_n (pc := 6) (als' := [(3, aI r1), (0, aR 11 (some 0)), (1, aI v1), (2, aI v2)]) 3 dX11_placeOf_6 rfl (by decide) rfl ?_
  refine x_iconst (pc := 7) 0 dX11_placeOf_7 rfl ?_
  refine x_istore (pc := 8) (als' := [(4, aI 0), (3, aI r1), (0, aR 11 (some 0)), (1, aI v1), (2, aI v2)]) 4 dX11_placeOf_8 (by decide) rfl ?_
  refine x_iconst (pc := 10) 0 dX11_placeOf_10 rfl ?_
  refine x_istore (pc := 11) (als' := [(5, aI 0), (4, aI 0), (3, aI r1), (0, aR 11 (some 0)), (1, aI v1), (2, aI v2)]) 5 dX11_placeOf_11 (by decide) rfl ?_
  refine x_sub [3, 4, 5, 2, 1, 0] rfl (xl11_placeOf_13 E v1 v2 r1 σ zfuel 0 0)
theorem c_11_placeOf (l : Launch)  (v1 : Int32) (v2 : Int32) (σ : zSt) : zMet l yX11_placeOf cX11_placeOf 7 (some .int) r11_placeOf true eI [aR 11 (some 0), aI v1, aI v2] σ (zro (f11_placeOf v1 v2 σ) σ) :=
  zMet_ofR [(0, aR 11 (some 0)), (1, aI v1), (2, aI v2)] (by decide +kernel) (fun h => by cases h) (Nat.le_of_ble_eq_true rfl) rfl fun E _ => x11_placeOf E  v1 v2 σ
abbrev r11_worst : Room := { frames := 4, cells := 0, slots := 0, locals := 96 }
abbrev m11_worst : zMu := (RX11, 4, (some .int), r11_worst, false)
set_option maxRecDepth 20000 in
theorem xl11_worst_20 (E : zEn)   (h1 : Int32) (h2 : Int32) (σ : zSt)   : ∀ (n : Nat) (v3 : Int32), X E cX11_worst m11_worst true (zQr E true eI r11_worst σ) 0 0 σ [(0, aR 11 (some 0)), (1, aI h1), (2, aI h2), (3, aI v3)] 20 [] (f11_worst_L20 h1 h2 σ n v3) := by
  intro n
  induction n with
  | zero => intros; exact x_none
  | succ n ih =>
    intro v3
    rw [f11_worst_L20]
    refine x_iload_n (pc := 20) 3 dX11_worst_20 rfl rfl ?_
    refine x_bipush (pc := 21) 8 dX11_worst_21 rfl ?_
    refine x_icmp_ge (pc := 23) 44 dX11_worst_23 (by decide) (fun _ => ?_) (fun _ => ?_)
    ·
      refine x_iconst (pc := 44) (-1) dX11_worst_44 rfl ?_
      exact x_iret (rm := r11_worst) rfl rfl dX11_worst_45
    ·
      refine x_aload_n (pc := 26) 0 dX11_worst_26 rfl rfl ?_
      refine x_iload_n (pc := 27) 3 dX11_worst_27 rfl rfl ?_
      refine x_iload_n (pc := 28) 2 dX11_worst_28 rfl rfl ?_
      refine x_callVr (pc := 29) (as := [aI v3, aI h2]) (rest := []) (fun l => c_11_placeOf l v3 h2 σ) md_X11_placeOf ⟨_, _, rfl, by decide⟩ tk_1171 tp_50 tk_1169 dX11_worst_29 rfl ⟨by decide, by decide, by decide, by decide⟩ ⟨fun _ => rfl, fun _ => Or.inl rfl⟩ rfl (Nat.le_of_ble_eq_true rfl) (fun r3 => ?_)
      show X E _ _ _ _ 0 0 _ _ _ [aI r3] _
      refine x_iload_n (pc := 32) 1 dX11_worst_32 rfl rfl ?_
      refine x_icmp_ne (pc := 33) 38 dX11_worst_33 (by decide) (fun _ => ?_) (fun _ => ?_)
      ·
        refine x_iinc (pc := 38) (als' := [(3, aI (v3 + 1)), (0, aR 11 (some 0)), (1, aI h1), (2, aI h2)]) 3 3 (c := 1) dX11_worst_38 rfl rfl (by decide) rfl ?_
        refine x_nameV (g := fun y5 => [(3, aI y5), (0, aR 11 (some 0)), (1, aI h1), (2, aI h2)]) (fun x4 => ?_) rfl
        refine x_goto (pc := 41) 20 dX11_worst_41 (by decide) ?_
        exact x_sub [1, 2, 3, 0] rfl (ih x4)
      ·
        refine x_iload_n (pc := 36) 3 dX11_worst_36 rfl rfl ?_
        exact x_iret (rm := r11_worst) rfl rfl dX11_worst_37
set_option maxRecDepth 20000 in
theorem x11_worst (E : zEn)  (v1 : Int32) (v2 : Int32) (σ : zSt) : X E cX11_worst m11_worst true (zQr E true eI r11_worst σ) 0 0 σ [(0, aR 11 (some 0)), (1, aI v1), (2, aI v2)] 0 [] (f11_worst v1 v2 σ) := by
  unfold f11_worst
  refine x_iload_n (pc := 0) 1 dX11_worst_0 rfl rfl ?_
  refine x_bipush (pc := 1) 8 dX11_worst_1 rfl ?_
  refine x_callSr (pc := 3) (as := [aI v1, aI 8]) (rest := []) (fun l => c_11_isIn l true v1 8 σ) md_X11_isIn tk_219 tk_218 dX11_worst_3 rfl ⟨by decide, by decide, by decide, by decide⟩ ⟨fun _ => rfl, fun _ => Or.inl rfl⟩ rfl (Nat.le_of_ble_eq_true rfl) (fun r1 => ?_)
  show X E _ _ _ _ 0 0 _ _ _ [aI r1] _
  refine x_if_eq (pc := 6) 16 dX11_worst_6 (by decide) (fun _ => ?_) (fun _ => ?_)
  ·
    refine x_iconst (pc := 16) (-1) dX11_worst_16 rfl ?_
    exact x_iret (rm := r11_worst) rfl rfl dX11_worst_17
  ·
    refine x_iload_n (pc := 9) 2 dX11_worst_9 rfl rfl ?_
    refine x_callSr (pc := 10) (as := [aI v2]) (rest := []) (fun l => c_11_isDay l true v2 σ) md_X11_isDay tk_576 tk_575 dX11_worst_10 rfl ⟨by decide, by decide, by decide, by decide⟩ ⟨fun _ => rfl, fun _ => Or.inl rfl⟩ rfl (Nat.le_of_ble_eq_true rfl) (fun r2 => ?_)
    show X E _ _ _ _ 0 0 _ _ _ [aI r2] _
    refine x_if_ne (pc := 13) 18 dX11_worst_13 (by decide) (fun _ => ?_) (fun _ => ?_)
    ·
      refine x_iconst (pc := 18) 0 dX11_worst_18 rfl ?_
      refine x_istore_n (pc := 19) (als' := [(3, aI 0), (0, aR 11 (some 0)), (1, aI v1), (2, aI v2)]) 3 dX11_worst_19 rfl (by decide) rfl ?_
      refine x_sub [1, 2, 3, 0] rfl (xl11_worst_20 E v1 v2 σ zfuel 0)
    ·
      refine x_iconst (pc := 16) (-1) dX11_worst_16 rfl ?_
      exact x_iret (rm := r11_worst) rfl rfl dX11_worst_17
theorem c_11_worst (l : Launch)  (v1 : Int32) (v2 : Int32) (σ : zSt) : zMet l yX11_worst cX11_worst 4 (some .int) r11_worst true eI [aR 11 (some 0), aI v1, aI v2] σ (zro (f11_worst v1 v2 σ) σ) :=
  zMet_ofR [(0, aR 11 (some 0)), (1, aI v1), (2, aI v2)] (by decide +kernel) (fun h => by cases h) (Nat.le_of_ble_eq_true rfl) rfl fun E _ => x11_worst E  v1 v2 σ
abbrev r11_weight : Room := { frames := 3, cells := 0, slots := 0, locals := 70 }
abbrev m11_weight : zMu := (RX11, 3, (some .int), r11_weight, false)
set_option maxRecDepth 20000 in
theorem x11_weight (E : zEn)  (v1 : Int32) (v2 : Int32) (σ : zSt) : X E cX11_weight m11_weight true (zQr E true eI r11_weight σ) 0 0 σ [(0, aR 11 (some 0)), (1, aI v1), (2, aI v2)] 0 [] (f11_weight v1 v2 σ) := by
  unfold f11_weight
  refine x_iload_n (pc := 0) 1 dX11_weight_0 rfl rfl ?_
  refine x_bipush (pc := 1) 8 dX11_weight_1 rfl ?_
  refine x_callSr (pc := 3) (as := [aI v1, aI 8]) (rest := []) (fun l => c_11_isIn l true v1 8 σ) md_X11_isIn tk_219 tk_218 dX11_weight_3 rfl ⟨by decide, by decide, by decide, by decide⟩ ⟨fun _ => rfl, fun _ => Or.inl rfl⟩ rfl (Nat.le_of_ble_eq_true rfl) (fun r1 => ?_)
  show X E _ _ _ _ 0 0 _ _ _ [aI r1] _
  refine x_if_eq (pc := 6) 16 dX11_weight_6 (by decide) (fun _ => ?_) (fun _ => ?_)
  ·
    refine x_iconst (pc := 16) (-1) dX11_weight_16 rfl ?_
    exact x_iret (rm := r11_weight) rfl rfl dX11_weight_17
  ·
    refine x_iload_n (pc := 9) 2 dX11_weight_9 rfl rfl ?_
    refine x_callSr (pc := 10) (as := [aI v2]) (rest := []) (fun l => c_11_isDay l true v2 σ) md_X11_isDay tk_576 tk_575 dX11_weight_10 rfl ⟨by decide, by decide, by decide, by decide⟩ ⟨fun _ => rfl, fun _ => Or.inl rfl⟩ rfl (Nat.le_of_ble_eq_true rfl) (fun r2 => ?_)
    show X E _ _ _ _ 0 0 _ _ _ [aI r2] _
    refine x_if_ne (pc := 13) 18 dX11_weight_13 (by decide) (fun _ => ?_) (fun _ => ?_)
    ·
      refine x_aload_n (pc := 18) 0 dX11_weight_18 rfl rfl ?_
      refine x_iload_n (pc := 19) 1 dX11_weight_19 rfl rfl ?_
      refine x_iload_n (pc := 20) 2 dX11_weight_20 rfl rfl ?_
      refine x_callVr (pc := 21) (as := [aI v1, aI v2]) (rest := []) (fun l => c_11_weightOf l v1 v2 σ) md_X11_weightOf ⟨_, _, rfl, by decide⟩ tk_1175 tp_51 tk_1173 dX11_weight_21 rfl ⟨by decide, by decide, by decide, by decide⟩ ⟨fun _ => rfl, fun _ => Or.inl rfl⟩ rfl (Nat.le_of_ble_eq_true rfl) (fun r3 => ?_)
      show X E _ _ _ _ 0 0 _ _ _ [aI r3] _
      exact x_iret (rm := r11_weight) rfl rfl dX11_weight_24
    ·
      refine x_iconst (pc := 16) (-1) dX11_weight_16 rfl ?_
      exact x_iret (rm := r11_weight) rfl rfl dX11_weight_17
theorem c_11_weight (l : Launch)  (v1 : Int32) (v2 : Int32) (σ : zSt) : zMet l yX11_weight cX11_weight 3 (some .int) r11_weight true eI [aR 11 (some 0), aI v1, aI v2] σ (zro (f11_weight v1 v2 σ) σ) :=
  zMet_ofR [(0, aR 11 (some 0)), (1, aI v1), (2, aI v2)] (by decide +kernel) (fun h => by cases h) (Nat.le_of_ble_eq_true rfl) rfl fun E _ => x11_weight E  v1 v2 σ
abbrev r11_sumOfHomes : Room := { frames := 1, cells := 0, slots := 0, locals := 20 }
abbrev m11_sumOfHomes : zMu := (RX11, 5, (some .int), r11_sumOfHomes, false)
set_option maxRecDepth 20000 in
theorem xl11_sumOfHomes_4 (E : zEn)   (h1 : Int32) (σ : zSt)   : ∀ (n : Nat) (v2 : Int32) (v3 : Int32), X E cX11_sumOfHomes m11_sumOfHomes true (zQr E true eI r11_sumOfHomes σ) 0 0 σ [(0, aR 11 (some 0)), (1, aI h1), (2, aI v2), (3, aI v3)] 4 [] (f11_sumOfHomes_L4 h1 σ n v2 v3) := by
  intro n
  induction n with
  | zero => intros; exact x_none
  | succ n ih =>
    intro v2 v3
    rw [f11_sumOfHomes_L4]
    refine x_iload_n (pc := 4) 3 dX11_sumOfHomes_4 rfl rfl ?_
    refine x_aload_n (pc := 5) 0 dX11_sumOfHomes_5 rfl rfl ?_
    refine x_getI (pc := 6) fd_11_1 tk_153 dX11_sumOfHomes_6 ?_
    refine x_icmp_ge (pc := 9) 103 dX11_sumOfHomes_9 (by decide) (fun _ => ?_) (fun _ => ?_)
    ·
      refine x_iload_n (pc := 103) 2 dX11_sumOfHomes_103 rfl rfl ?_
      exact x_iret (rm := r11_sumOfHomes) rfl rfl dX11_sumOfHomes_104
    ·
      refine x_aload_n (pc := 12) 0 dX11_sumOfHomes_12 rfl rfl ?_
      refine x_getF (pc := 13) (j := 0) fd_11_0 rfl rfl tk_152 dX11_sumOfHomes_13 ?_
      refine x_iload_n (pc := 16) 3 dX11_sumOfHomes_16 rfl rfl ?_
      refine x_aald (pc := 17) (g0 := 5) ar_1200 (by decide) rfl dX11_sumOfHomes_17 (fun m1 => ?_)
      refine x_nameR (fun o2 => ?_)
      refine x_astore (pc := 18) (als' := [(4, aR 5 o2), (0, aR 11 (some 0)), (1, aI h1), (2, aI v2), (3, aI v3)]) 4 dX11_sumOfHomes_18 (by decide) rfl ?_
      refine x_iload_n (pc := 20) 1 dX11_sumOfHomes_20 rfl rfl ?_
      refine x_join (P := fun (j4 : Int32 → Option Int32) => ∀ (a3 : Int32), X E cX11_sumOfHomes m11_sumOfHomes true (zQr E true eI r11_sumOfHomes σ) 0 0 σ [(0, aR 11 (some 0)), (1, aI h1), (2, aI a3), (3, aI v3)] 97 [] (j4 a3)) ?_ ?_
      · intro a3
        refine x_iinc (pc := 97) (als' := [(3, aI (v3 + 1)), (0, aR 11 (some 0)), (1, aI h1), (2, aI a3)]) 3 3 (c := 1) dX11_sumOfHomes_97 rfl rfl (by decide) rfl ?_
        refine x_nameV (g := fun y7 => [(3, aI y7), (0, aR 11 (some 0)), (1, aI h1), (2, aI a3)]) (fun x6 => ?_) rfl
        refine x_goto (pc := 100) 4 dX11_sumOfHomes_100 (by decide) ?_
        exact x_sub [1, 2, 3, 0] rfl (ih a3 x6)
      · intro j4 hj5
        refine x_table (pc := 21) dX11_sumOfHomes_21 (by decide) (fun tg8 ht9 => ?_) (fun x => ?_)
        ·
          refine x_ite (fun hc10 => ?_) (fun hc10 => ?_)
          ·
            obtain rfl : tg8 = 48 := zsw_at hc10 ht9 (by decide)
            refine x_iload_n (pc := 48) 2 dX11_sumOfHomes_48 rfl rfl ?_
            refine x_aload (pc := 49) 4 dX11_sumOfHomes_49 rfl ?_
            rcases o2 with _ | i11
            · exact x_none
            ·
              skip
              refine x_zocS ?_
              refine x_getI (pc := 51) fd_5_6 tk_241 dX11_sumOfHomes_51 ?_
              refine x_iadd (pc := 54) dX11_sumOfHomes_54 ?_
              refine x_nameI (fun x12 => ?_)
              refine x_istore_n (pc := 55) (als' := [(2, aI x12), (4, aR 5 (some i11)), (0, aR 11 (some 0)), (1, aI h1), (3, aI v3)]) 2 dX11_sumOfHomes_55 rfl (by decide) rfl ?_
              refine x_goto (pc := 56) 97 dX11_sumOfHomes_56 (by decide) ?_
              exact x_sub [2, 3, 0, 4] rfl (hj5 x12)
          ·
            refine x_ite (fun hc13 => ?_) (fun hc13 => ?_)
            ·
              obtain rfl : tg8 = 59 := zsw_at hc13 ht9 (by decide)
              refine x_iload_n (pc := 59) 2 dX11_sumOfHomes_59 rfl rfl ?_
              refine x_aload (pc := 60) 4 dX11_sumOfHomes_60 rfl ?_
              rcases o2 with _ | i14
              · exact x_none
              ·
                skip
                refine x_zocS ?_
                refine x_getI (pc := 62) fd_5_7 tk_242 dX11_sumOfHomes_62 ?_
                refine x_iadd (pc := 65) dX11_sumOfHomes_65 ?_
                refine x_nameI (fun x15 => ?_)
                refine x_istore_n (pc := 66) (als' := [(2, aI x15), (4, aR 5 (some i14)), (0, aR 11 (some 0)), (1, aI h1), (3, aI v3)]) 2 dX11_sumOfHomes_66 rfl (by decide) rfl ?_
                refine x_goto (pc := 67) 97 dX11_sumOfHomes_67 (by decide) ?_
                exact x_sub [2, 3, 0, 4] rfl (hj5 x15)
            ·
              refine x_ite (fun hc16 => ?_) (fun hc16 => ?_)
              ·
                obtain rfl : tg8 = 70 := zsw_at hc16 ht9 (by decide)
                refine x_iload_n (pc := 70) 2 dX11_sumOfHomes_70 rfl rfl ?_
                refine x_aload (pc := 71) 4 dX11_sumOfHomes_71 rfl ?_
                rcases o2 with _ | i17
                · exact x_none
                ·
                  skip
                  refine x_zocS ?_
                  refine x_getI (pc := 73) fd_5_8 tk_243 dX11_sumOfHomes_73 ?_
                  refine x_iadd (pc := 76) dX11_sumOfHomes_76 ?_
                  refine x_nameI (fun x18 => ?_)
                  refine x_istore_n (pc := 77) (als' := [(2, aI x18), (4, aR 5 (some i17)), (0, aR 11 (some 0)), (1, aI h1), (3, aI v3)]) 2 dX11_sumOfHomes_77 rfl (by decide) rfl ?_
                  refine x_goto (pc := 78) 97 dX11_sumOfHomes_78 (by decide) ?_
                  exact x_sub [2, 3, 0, 4] rfl (hj5 x18)
              ·
                obtain rfl : tg8 = 81 := zswd_at (cs := [8, 9, 10]) ht9 (by decide) (by simp only [List.mem_cons, List.not_mem_nil, or_false, not_or]; exact ⟨hc10, hc13, hc16⟩) (by decide)
                refine x_iload_n (pc := 81) 2 dX11_sumOfHomes_81 rfl rfl ?_
                refine x_aload (pc := 82) 4 dX11_sumOfHomes_82 rfl ?_
                rcases o2 with _ | i19
                · exact x_none
                ·
                  skip
                  refine x_zocS ?_
                  refine x_callVr (pc := 84) (as := []) (rest := [aI v2]) (fun l => c_5_hasKey l true i19 σ) md_X5_hasKey ⟨_, _, rfl, by decide⟩ tk_284 tk_285 tk_283 dX11_sumOfHomes_84 rfl ⟨by decide, by decide, by decide, by decide⟩ ⟨fun _ => rfl, fun _ => Or.inl rfl⟩ rfl (Nat.le_of_ble_eq_true rfl) (fun r20 => ?_)
                  show X E _ _ _ _ 0 0 _ _ _ [aI r20, aI v2] _
                  refine x_mg (c := r20 = 0) (a := 0) (b := 1) 95 [aI v2] ?_ (fun hm21 => ?_)
                  ·
                    refine x_iadd (pc := 95) dX11_sumOfHomes_95 ?_
                    refine x_nameI (fun x25 => ?_)
                    refine x_istore_n (pc := 96) (als' := [(2, aI x25), (4, aR 5 (some i19)), (0, aR 11 (some 0)), (1, aI h1), (3, aI v3)]) 2 dX11_sumOfHomes_96 rfl (by decide) rfl ?_
                    exact x_sub [2, 3, 0, 4] rfl (hj5 x25)
                  ·
                    refine x_same (c := r20 = 0) ?_
                    refine x_if_eq (pc := 87) 94 dX11_sumOfHomes_87 (by decide) (fun hc22 => ?_) (fun hc22 => ?_)
                    ·
                      have hm23 := x_topT hc22 hm21
                      refine x_iconst (pc := 94) 0 dX11_sumOfHomes_94 rfl ?_
                      exact hm23
                    ·
                      have hm24 := x_topF hc22 hm21
                      refine x_iconst (pc := 90) 1 dX11_sumOfHomes_90 rfl ?_
                      refine x_goto (pc := 91) 95 dX11_sumOfHomes_91 (by decide) ?_
                      exact hm24
        · exact ztoff_pos (by decide) (by decide) x
set_option maxRecDepth 20000 in
theorem x11_sumOfHomes (E : zEn)  (v1 : Int32) (σ : zSt) : X E cX11_sumOfHomes m11_sumOfHomes true (zQr E true eI r11_sumOfHomes σ) 0 0 σ [(0, aR 11 (some 0)), (1, aI v1)] 0 [] (f11_sumOfHomes v1 σ) := by
  unfold f11_sumOfHomes
  refine x_iconst (pc := 0) 0 dX11_sumOfHomes_0 rfl ?_
  refine x_istore_n (pc := 1) (als' := [(2, aI 0), (0, aR 11 (some 0)), (1, aI v1)]) 2 dX11_sumOfHomes_1 rfl (by decide) rfl ?_
  refine x_iconst (pc := 2) 0 dX11_sumOfHomes_2 rfl ?_
  refine x_istore_n (pc := 3) (als' := [(3, aI 0), (2, aI 0), (0, aR 11 (some 0)), (1, aI v1)]) 3 dX11_sumOfHomes_3 rfl (by decide) rfl ?_
  refine x_sub [2, 3, 1, 0] rfl (xl11_sumOfHomes_4 E v1 σ zfuel 0 0)
theorem c_11_sumOfHomes (l : Launch)  (v1 : Int32) (σ : zSt) : zMet l yX11_sumOfHomes cX11_sumOfHomes 5 (some .int) r11_sumOfHomes true eI [aR 11 (some 0), aI v1] σ (zro (f11_sumOfHomes v1 σ) σ) :=
  zMet_ofR [(0, aR 11 (some 0)), (1, aI v1)] (by decide +kernel) (fun h => by cases h) (Nat.le_of_ble_eq_true rfl) rfl fun E _ => x11_sumOfHomes E  v1 σ
abbrev r11_count : Room := { frames := 2, cells := 0, slots := 0, locals := 44 }
abbrev m11_count : zMu := (RX11, 2, (some .int), r11_count, false)
set_option maxRecDepth 20000 in
theorem x11_count (E : zEn)  (v1 : Int32) (σ : zSt) : X E cX11_count m11_count true (zQr E true eI r11_count σ) 0 0 σ [(0, aR 11 (some 0)), (1, aI v1)] 0 [] (f11_count v1 σ) := by
  unfold f11_count
  refine x_iload_n (pc := 0) 1 dX11_count_0 rfl rfl ?_
  refine x_table (pc := 1) dX11_count_1 (by decide) (fun tg1 ht2 => ?_) (fun x => ?_)
  ·
    refine x_ite (fun hc3 => ?_) (fun hc3 => ?_)
    ·
      obtain rfl : tg1 = 64 := zsw_at hc3 ht2 (by decide)
      refine x_aload_n (pc := 64) 0 dX11_count_64 rfl rfl ?_
      refine x_getI (pc := 65) fd_11_1 tk_153 dX11_count_65 ?_
      exact x_iret (rm := r11_count) rfl rfl dX11_count_68
    ·
      refine x_ite (fun hc4 => ?_) (fun hc4 => ?_)
      ·
        obtain rfl : tg1 = 69 := zsw_at hc4 ht2 (by decide)
        refine x_aload_n (pc := 69) 0 dX11_count_69 rfl rfl ?_
        refine x_getI (pc := 70) fd_11_3 tk_155 dX11_count_70 ?_
        exact x_iret (rm := r11_count) rfl rfl dX11_count_73
      ·
        refine x_ite (fun hc5 => ?_) (fun hc5 => ?_)
        ·
          obtain rfl : tg1 = 74 := zsw_at hc5 ht2 (by decide)
          refine x_aload_n (pc := 74) 0 dX11_count_74 rfl rfl ?_
          refine x_getI (pc := 75) fd_11_5 tk_157 dX11_count_75 ?_
          exact x_iret (rm := r11_count) rfl rfl dX11_count_78
        ·
          refine x_ite (fun hc6 => ?_) (fun hc6 => ?_)
          ·
            obtain rfl : tg1 = 79 := zsw_at hc6 ht2 (by decide)
            refine x_aload_n (pc := 79) 0 dX11_count_79 rfl rfl ?_
            refine x_getI (pc := 80) fd_11_6 tk_158 dX11_count_80 ?_
            exact x_iret (rm := r11_count) rfl rfl dX11_count_83
          ·
            refine x_ite (fun hc7 => ?_) (fun hc7 => ?_)
            ·
              obtain rfl : tg1 = 84 := zsw_at hc7 ht2 (by decide)
              refine x_aload_n (pc := 84) 0 dX11_count_84 rfl rfl ?_
              refine x_getF (pc := 85) (j := 0) fd_11_12 rfl rfl tk_164 dX11_count_85 ?_
              refine x_getI (pc := 88) fd_9_1 tk_46 dX11_count_88 ?_
              exact x_iret (rm := r11_count) rfl rfl dX11_count_91
            ·
              refine x_ite (fun hc8 => ?_) (fun hc8 => ?_)
              ·
                obtain rfl : tg1 = 92 := zsw_at hc8 ht2 (by decide)
                refine x_aload_n (pc := 92) 0 dX11_count_92 rfl rfl ?_
                refine x_getF (pc := 93) (j := 1) fd_11_13 rfl rfl tk_165 dX11_count_93 ?_
                refine x_getI (pc := 96) fd_9_1 tk_46 dX11_count_96 ?_
                exact x_iret (rm := r11_count) rfl rfl dX11_count_99
              ·
                refine x_ite (fun hc9 => ?_) (fun hc9 => ?_)
                ·
                  obtain rfl : tg1 = 100 := zsw_at hc9 ht2 (by decide)
                  refine x_aload_n (pc := 100) 0 dX11_count_100 rfl rfl ?_
                  refine x_getI (pc := 101) fd_11_11 tk_163 dX11_count_101 ?_
                  exact x_iret (rm := r11_count) rfl rfl dX11_count_104
                ·
                  refine x_ite (fun hc10 => ?_) (fun hc10 => ?_)
                  ·
                    obtain rfl : tg1 = 105 := zsw_at hc10 ht2 (by decide)
                    refine x_aload_n (pc := 105) 0 dX11_count_105 rfl rfl ?_
                    refine x_getF (pc := 106) (j := 0) fd_11_16 rfl rfl tk_168 dX11_count_106 ?_
                    refine x_getI (pc := 109) fd_0_2 tk_125 dX11_count_109 ?_
                    exact x_iret (rm := r11_count) rfl rfl dX11_count_112
                  ·
                    refine x_ite (fun hc11 => ?_) (fun hc11 => ?_)
                    ·
                      obtain rfl : tg1 = 113 := zsw_at hc11 ht2 (by decide)
                      refine x_aload_n (pc := 113) 0 dX11_count_113 rfl rfl ?_
                      refine x_iload_n (pc := 114) 1 dX11_count_114 rfl rfl ?_
                      refine x_callVr (pc := 115) (as := [aI v1]) (rest := []) (fun l => c_11_sumOfHomes l v1 σ) md_X11_sumOfHomes ⟨_, _, rfl, by decide⟩ tk_1187 tp_52 tk_1185 dX11_count_115 rfl ⟨by decide, by decide, by decide, by decide⟩ ⟨fun _ => rfl, fun _ => Or.inl rfl⟩ rfl (Nat.le_of_ble_eq_true rfl) (fun r12 => ?_)
                      show X E _ _ _ _ 0 0 _ _ _ [aI r12] _
                      exact x_iret (rm := r11_count) rfl rfl dX11_count_118
                    ·
                      refine x_ite (fun hc13 => ?_) (fun hc13 => ?_)
                      ·
                        obtain rfl : tg1 = 113 := zsw_at hc13 ht2 (by decide)
                        refine x_aload_n (pc := 113) 0 dX11_count_113 rfl rfl ?_
                        refine x_iload_n (pc := 114) 1 dX11_count_114 rfl rfl ?_
                        refine x_callVr (pc := 115) (as := [aI v1]) (rest := []) (fun l => c_11_sumOfHomes l v1 σ) md_X11_sumOfHomes ⟨_, _, rfl, by decide⟩ tk_1187 tp_52 tk_1185 dX11_count_115 rfl ⟨by decide, by decide, by decide, by decide⟩ ⟨fun _ => rfl, fun _ => Or.inl rfl⟩ rfl (Nat.le_of_ble_eq_true rfl) (fun r14 => ?_)
                        show X E _ _ _ _ 0 0 _ _ _ [aI r14] _
                        exact x_iret (rm := r11_count) rfl rfl dX11_count_118
                      ·
                        refine x_ite (fun hc15 => ?_) (fun hc15 => ?_)
                        ·
                          obtain rfl : tg1 = 113 := zsw_at hc15 ht2 (by decide)
                          refine x_aload_n (pc := 113) 0 dX11_count_113 rfl rfl ?_
                          refine x_iload_n (pc := 114) 1 dX11_count_114 rfl rfl ?_
                          refine x_callVr (pc := 115) (as := [aI v1]) (rest := []) (fun l => c_11_sumOfHomes l v1 σ) md_X11_sumOfHomes ⟨_, _, rfl, by decide⟩ tk_1187 tp_52 tk_1185 dX11_count_115 rfl ⟨by decide, by decide, by decide, by decide⟩ ⟨fun _ => rfl, fun _ => Or.inl rfl⟩ rfl (Nat.le_of_ble_eq_true rfl) (fun r16 => ?_)
                          show X E _ _ _ _ 0 0 _ _ _ [aI r16] _
                          exact x_iret (rm := r11_count) rfl rfl dX11_count_118
                        ·
                          refine x_ite (fun hc17 => ?_) (fun hc17 => ?_)
                          ·
                            obtain rfl : tg1 = 113 := zsw_at hc17 ht2 (by decide)
                            refine x_aload_n (pc := 113) 0 dX11_count_113 rfl rfl ?_
                            refine x_iload_n (pc := 114) 1 dX11_count_114 rfl rfl ?_
                            refine x_callVr (pc := 115) (as := [aI v1]) (rest := []) (fun l => c_11_sumOfHomes l v1 σ) md_X11_sumOfHomes ⟨_, _, rfl, by decide⟩ tk_1187 tp_52 tk_1185 dX11_count_115 rfl ⟨by decide, by decide, by decide, by decide⟩ ⟨fun _ => rfl, fun _ => Or.inl rfl⟩ rfl (Nat.le_of_ble_eq_true rfl) (fun r18 => ?_)
                            show X E _ _ _ _ 0 0 _ _ _ [aI r18] _
                            exact x_iret (rm := r11_count) rfl rfl dX11_count_118
                          ·
                            obtain rfl : tg1 = 119 := zswd_at (cs := [0, 1, 2, 3, 4, 5, 6, 7, 8, 9, 10, 11]) ht2 (by decide) (by simp only [List.mem_cons, List.not_mem_nil, or_false, not_or]; exact ⟨hc3, hc4, hc5, hc6, hc7, hc8, hc9, hc10, hc11, hc13, hc15, hc17⟩) (by decide)
                            refine x_iconst (pc := 119) (-1) dX11_count_119 rfl ?_
                            exact x_iret (rm := r11_count) rfl rfl dX11_count_120
  · exact ztoff_pos (by decide) (by decide) x
theorem c_11_count (l : Launch)  (v1 : Int32) (σ : zSt) : zMet l yX11_count cX11_count 2 (some .int) r11_count true eI [aR 11 (some 0), aI v1] σ (zro (f11_count v1 σ) σ) :=
  zMet_ofR [(0, aR 11 (some 0)), (1, aI v1)] (by decide +kernel) (fun h => by cases h) (Nat.le_of_ble_eq_true rfl) rfl fun E _ => x11_count E  v1 σ
abbrev r12_init : Room := { frames := 1, cells := 52, slots := 31197, locals := 12 }
abbrev m12_init : zMu := (RX12, 2, none, r12_init, true)
set_option maxRecDepth 20000 in
theorem xl12_init_462 (E : zEn)   (h0 : Nat)   : ∀ (n : Nat) (v1 : Int32) (σ : zSt), X E cX12_init m12_init false (zQw E false eV r12_init) 52 31197 σ [(0, aR 12 (some h0)), (1, aI v1)] 462 [] (f12_init_L462 h0 n v1 σ) := by
  intro n
  induction n with
  | zero => intros; exact x_none
  | succ n ih =>
    intro v1 σ
    rw [f12_init_L462]
    refine x_iload_n (pc := 462) 1 dX12_init_462 rfl rfl ?_
    refine x_bipush (pc := 463) 10 dX12_init_463 rfl ?_
    refine x_icmp_ge (pc := 465) 481 dX12_init_465 (by decide) (fun _ => ?_) (fun _ => ?_)
    ·
      exact x_vret (rm := r12_init) rfl rfl dX12_init_481
    ·
      refine x_aload_n (pc := 468) 0 dX12_init_468 rfl rfl ?_
      refine x_getR (pc := 469) fd_12_45 tk_1240 dX12_init_469 ?_
      refine x_nameR (fun o160 => ?_)
      refine x_iload_n (pc := 472) 1 dX12_init_472 rfl rfl ?_
      refine x_iconst (pc := 473) 1 dX12_init_473 rfl ?_
      rcases o160 with _ | i161
      · exact x_none
      ·
        skip
        refine x_zocS ?_
        refine x_iast (pc := 474) ar_1345 dX12_init_474 (fun m162 => ?_)
        refine x_nameS (fun s163 => ?_)
        refine x_iinc (pc := 475) (als' := [(1, aI (v1 + 1)), (0, aR 12 (some h0))]) 1 1 (c := 1) dX12_init_475 rfl rfl (by decide) rfl ?_
        refine x_nameV (g := fun y165 => [(1, aI y165), (0, aR 12 (some h0))]) (fun x164 => ?_) rfl
        refine x_goto (pc := 478) 462 dX12_init_478 (by decide) ?_
        exact x_sub [1, 0] rfl (ih x164 s163)
set_option maxRecDepth 20000 in
theorem x12_init (E : zEn)  (h : Nat) (σ : zSt) : X E cX12_init m12_init false (zQw E false eV r12_init) 0 0 σ [(0, aR 12 (some h))] 0 [] (f12_init h σ) := by
  unfold f12_init
  refine x_aload_n (pc := 0) 0 dX12_init_0 rfl rfl ?_
  refine x_objInit (pc := 1) tk_1194 tk_28 tk_29 dX12_init_1 (by decide) ?_
  refine x_aload_n (pc := 4) 0 dX12_init_4 rfl rfl ?_
  refine x_bipush (pc := 5) 40 dX12_init_5 rfl ?_
  refine x_newaI (pc := 7) 1301 (n := 40) ar_1301 rfl (by decide) tk_52 dX12_init_7 rfl (by decide) ?_
  refine x_nameN (fun i1 => ?_)
  refine x_nameS (fun s2 => ?_)
  refine x_putR (pc := 9) fd_12_1 pt_12_1 (Or.inr ⟨_, rfl⟩) tk_1196 dX12_init_9 (Or.inr ⟨rfl, rfl⟩) (Or.inl rfl) ?_
  refine x_nameS (fun s3 => ?_)
  refine x_aload_n (pc := 12) 0 dX12_init_12 rfl rfl ?_
  refine x_bipush (pc := 13) 40 dX12_init_13 rfl ?_
  refine x_newaI (pc := 15) 1302 (n := 40) ar_1302 rfl (by decide) tk_52 dX12_init_15 rfl (by decide) ?_
  refine x_nameN (fun i4 => ?_)
  refine x_nameS (fun s5 => ?_)
  refine x_putR (pc := 17) fd_12_2 pt_12_2 (Or.inr ⟨_, rfl⟩) tk_1197 dX12_init_17 (Or.inr ⟨rfl, rfl⟩) (Or.inl rfl) ?_
  refine x_nameS (fun s6 => ?_)
  refine x_aload_n (pc := 20) 0 dX12_init_20 rfl rfl ?_
  refine x_bipush (pc := 21) 40 dX12_init_21 rfl ?_
  refine x_newaI (pc := 23) 1303 (n := 40) ar_1303 rfl (by decide) tk_52 dX12_init_23 rfl (by decide) ?_
  refine x_nameN (fun i7 => ?_)
  refine x_nameS (fun s8 => ?_)
  refine x_putR (pc := 25) fd_12_3 pt_12_3 (Or.inr ⟨_, rfl⟩) tk_1198 dX12_init_25 (Or.inr ⟨rfl, rfl⟩) (Or.inl rfl) ?_
  refine x_nameS (fun s9 => ?_)
  refine x_aload_n (pc := 28) 0 dX12_init_28 rfl rfl ?_
  refine x_bipush (pc := 29) 40 dX12_init_29 rfl ?_
  refine x_newaI (pc := 31) 1304 (n := 40) ar_1304 rfl (by decide) tk_52 dX12_init_31 rfl (by decide) ?_
  refine x_nameN (fun i10 => ?_)
  refine x_nameS (fun s11 => ?_)
  refine x_putR (pc := 33) fd_12_4 pt_12_4 (Or.inr ⟨_, rfl⟩) tk_1199 dX12_init_33 (Or.inr ⟨rfl, rfl⟩) (Or.inl rfl) ?_
  refine x_nameS (fun s12 => ?_)
  refine x_aload_n (pc := 36) 0 dX12_init_36 rfl rfl ?_
  refine x_bipush (pc := 37) 40 dX12_init_37 rfl ?_
  refine x_newaI (pc := 39) 1305 (n := 40) ar_1305 rfl (by decide) tk_52 dX12_init_39 rfl (by decide) ?_
  refine x_nameN (fun i13 => ?_)
  refine x_nameS (fun s14 => ?_)
  refine x_putR (pc := 41) fd_12_5 pt_12_5 (Or.inr ⟨_, rfl⟩) tk_1200 dX12_init_41 (Or.inr ⟨rfl, rfl⟩) (Or.inl rfl) ?_
  refine x_nameS (fun s15 => ?_)
  refine x_aload_n (pc := 44) 0 dX12_init_44 rfl rfl ?_
  refine x_sipush (pc := 45) 800 dX12_init_45 rfl ?_
  refine x_newaI (pc := 48) 1306 (n := 800) ar_1306 rfl (by decide) tk_52 dX12_init_48 rfl (by decide) ?_
  refine x_nameN (fun i16 => ?_)
  refine x_nameS (fun s17 => ?_)
  refine x_putR (pc := 50) fd_12_6 pt_12_6 (Or.inr ⟨_, rfl⟩) tk_1201 dX12_init_50 (Or.inr ⟨rfl, rfl⟩) (Or.inl rfl) ?_
  refine x_nameS (fun s18 => ?_)
  refine x_aload_n (pc := 53) 0 dX12_init_53 rfl rfl ?_
  refine x_bipush (pc := 54) 40 dX12_init_54 rfl ?_
  refine x_newaI (pc := 56) 1307 (n := 40) ar_1307 rfl (by decide) tk_52 dX12_init_56 rfl (by decide) ?_
  refine x_nameN (fun i19 => ?_)
  refine x_nameS (fun s20 => ?_)
  refine x_putR (pc := 58) fd_12_7 pt_12_7 (Or.inr ⟨_, rfl⟩) tk_1202 dX12_init_58 (Or.inr ⟨rfl, rfl⟩) (Or.inl rfl) ?_
  refine x_nameS (fun s21 => ?_)
  refine x_aload_n (pc := 61) 0 dX12_init_61 rfl rfl ?_
  refine x_bipush (pc := 62) 40 dX12_init_62 rfl ?_
  refine x_newaI (pc := 64) 1308 (n := 40) ar_1308 rfl (by decide) tk_52 dX12_init_64 rfl (by decide) ?_
  refine x_nameN (fun i22 => ?_)
  refine x_nameS (fun s23 => ?_)
  refine x_putR (pc := 66) fd_12_8 pt_12_8 (Or.inr ⟨_, rfl⟩) tk_1203 dX12_init_66 (Or.inr ⟨rfl, rfl⟩) (Or.inl rfl) ?_
  refine x_nameS (fun s24 => ?_)
  refine x_aload_n (pc := 69) 0 dX12_init_69 rfl rfl ?_
  refine x_sipush (pc := 70) 400 dX12_init_70 rfl ?_
  refine x_newaI (pc := 73) 1309 (n := 400) ar_1309 rfl (by decide) tk_52 dX12_init_73 rfl (by decide) ?_
  refine x_nameN (fun i25 => ?_)
  refine x_nameS (fun s26 => ?_)
  refine x_putR (pc := 75) fd_12_9 pt_12_9 (Or.inr ⟨_, rfl⟩) tk_1204 dX12_init_75 (Or.inr ⟨rfl, rfl⟩) (Or.inl rfl) ?_
  refine x_nameS (fun s27 => ?_)
  refine x_aload_n (pc := 78) 0 dX12_init_78 rfl rfl ?_
  refine x_bipush (pc := 79) 40 dX12_init_79 rfl ?_
  refine x_newaI (pc := 81) 1310 (n := 40) ar_1310 rfl (by decide) tk_52 dX12_init_81 rfl (by decide) ?_
  refine x_nameN (fun i28 => ?_)
  refine x_nameS (fun s29 => ?_)
  refine x_putR (pc := 83) fd_12_10 pt_12_10 (Or.inr ⟨_, rfl⟩) tk_1205 dX12_init_83 (Or.inr ⟨rfl, rfl⟩) (Or.inl rfl) ?_
  refine x_nameS (fun s30 => ?_)
  refine x_aload_n (pc := 86) 0 dX12_init_86 rfl rfl ?_
  refine x_bipush (pc := 87) 40 dX12_init_87 rfl ?_
  refine x_newaI (pc := 89) 1311 (n := 40) ar_1311 rfl (by decide) tk_52 dX12_init_89 rfl (by decide) ?_
  refine x_nameN (fun i31 => ?_)
  refine x_nameS (fun s32 => ?_)
  refine x_putR (pc := 91) fd_12_11 pt_12_11 (Or.inr ⟨_, rfl⟩) tk_1206 dX12_init_91 (Or.inr ⟨rfl, rfl⟩) (Or.inl rfl) ?_
  refine x_nameS (fun s33 => ?_)
  refine x_aload_n (pc := 94) 0 dX12_init_94 rfl rfl ?_
  refine x_bipush (pc := 95) 40 dX12_init_95 rfl ?_
  refine x_newaI (pc := 97) 1312 (n := 40) ar_1312 rfl (by decide) tk_52 dX12_init_97 rfl (by decide) ?_
  refine x_nameN (fun i34 => ?_)
  refine x_nameS (fun s35 => ?_)
  refine x_putR (pc := 99) fd_12_12 pt_12_12 (Or.inr ⟨_, rfl⟩) tk_1207 dX12_init_99 (Or.inr ⟨rfl, rfl⟩) (Or.inl rfl) ?_
  refine x_nameS (fun s36 => ?_)
  refine x_aload_n (pc := 102) 0 dX12_init_102 rfl rfl ?_
  refine x_bipush (pc := 103) 20 dX12_init_103 rfl ?_
  refine x_newaI (pc := 105) 1314 (n := 20) ar_1314 rfl (by decide) tk_52 dX12_init_105 rfl (by decide) ?_
  refine x_nameN (fun i37 => ?_)
  refine x_nameS (fun s38 => ?_)
  refine x_putR (pc := 107) fd_12_14 pt_12_14 (Or.inr ⟨_, rfl⟩) tk_1209 dX12_init_107 (Or.inr ⟨rfl, rfl⟩) (Or.inl rfl) ?_
  refine x_nameS (fun s39 => ?_)
  refine x_aload_n (pc := 110) 0 dX12_init_110 rfl rfl ?_
  refine x_bipush (pc := 111) 20 dX12_init_111 rfl ?_
  refine x_newaI (pc := 113) 1315 (n := 20) ar_1315 rfl (by decide) tk_52 dX12_init_113 rfl (by decide) ?_
  refine x_nameN (fun i40 => ?_)
  refine x_nameS (fun s41 => ?_)
  refine x_putR (pc := 115) fd_12_15 pt_12_15 (Or.inr ⟨_, rfl⟩) tk_1210 dX12_init_115 (Or.inr ⟨rfl, rfl⟩) (Or.inl rfl) ?_
  refine x_nameS (fun s42 => ?_)
  refine x_aload_n (pc := 118) 0 dX12_init_118 rfl rfl ?_
  refine x_bipush (pc := 119) 20 dX12_init_119 rfl ?_
  refine x_newaI (pc := 121) 1316 (n := 20) ar_1316 rfl (by decide) tk_52 dX12_init_121 rfl (by decide) ?_
  refine x_nameN (fun i43 => ?_)
  refine x_nameS (fun s44 => ?_)
  refine x_putR (pc := 123) fd_12_16 pt_12_16 (Or.inr ⟨_, rfl⟩) tk_1211 dX12_init_123 (Or.inr ⟨rfl, rfl⟩) (Or.inl rfl) ?_
  refine x_nameS (fun s45 => ?_)
  refine x_aload_n (pc := 126) 0 dX12_init_126 rfl rfl ?_
  refine x_sipush (pc := 127) 200 dX12_init_127 rfl ?_
  refine x_newaI (pc := 130) 1318 (n := 200) ar_1318 rfl (by decide) tk_52 dX12_init_130 rfl (by decide) ?_
  refine x_nameN (fun i46 => ?_)
  refine x_nameS (fun s47 => ?_)
  refine x_putR (pc := 132) fd_12_18 pt_12_18 (Or.inr ⟨_, rfl⟩) tk_1213 dX12_init_132 (Or.inr ⟨rfl, rfl⟩) (Or.inl rfl) ?_
  refine x_nameS (fun s48 => ?_)
  refine x_aload_n (pc := 135) 0 dX12_init_135 rfl rfl ?_
  refine x_sipush (pc := 136) 200 dX12_init_136 rfl ?_
  refine x_newaI (pc := 139) 1319 (n := 200) ar_1319 rfl (by decide) tk_52 dX12_init_139 rfl (by decide) ?_
  refine x_nameN (fun i49 => ?_)
  refine x_nameS (fun s50 => ?_)
  refine x_putR (pc := 141) fd_12_19 pt_12_19 (Or.inr ⟨_, rfl⟩) tk_1214 dX12_init_141 (Or.inr ⟨rfl, rfl⟩) (Or.inl rfl) ?_
  refine x_nameS (fun s51 => ?_)
  refine x_aload_n (pc := 144) 0 dX12_init_144 rfl rfl ?_
  refine x_sipush (pc := 145) 200 dX12_init_145 rfl ?_
  refine x_newaI (pc := 148) 1320 (n := 200) ar_1320 rfl (by decide) tk_52 dX12_init_148 rfl (by decide) ?_
  refine x_nameN (fun i52 => ?_)
  refine x_nameS (fun s53 => ?_)
  refine x_putR (pc := 150) fd_12_20 pt_12_20 (Or.inr ⟨_, rfl⟩) tk_1215 dX12_init_150 (Or.inr ⟨rfl, rfl⟩) (Or.inl rfl) ?_
  refine x_nameS (fun s54 => ?_)
  refine x_aload_n (pc := 153) 0 dX12_init_153 rfl rfl ?_
  refine x_sipush (pc := 154) 200 dX12_init_154 rfl ?_
  refine x_newaI (pc := 157) 1321 (n := 200) ar_1321 rfl (by decide) tk_52 dX12_init_157 rfl (by decide) ?_
  refine x_nameN (fun i55 => ?_)
  refine x_nameS (fun s56 => ?_)
  refine x_putR (pc := 159) fd_12_21 pt_12_21 (Or.inr ⟨_, rfl⟩) tk_1216 dX12_init_159 (Or.inr ⟨rfl, rfl⟩) (Or.inl rfl) ?_
  refine x_nameS (fun s57 => ?_)
  refine x_aload_n (pc := 162) 0 dX12_init_162 rfl rfl ?_
  refine x_sipush (pc := 163) 200 dX12_init_163 rfl ?_
  refine x_newaI (pc := 166) 1322 (n := 200) ar_1322 rfl (by decide) tk_52 dX12_init_166 rfl (by decide) ?_
  refine x_nameN (fun i58 => ?_)
  refine x_nameS (fun s59 => ?_)
  refine x_putR (pc := 168) fd_12_22 pt_12_22 (Or.inr ⟨_, rfl⟩) tk_1217 dX12_init_168 (Or.inr ⟨rfl, rfl⟩) (Or.inl rfl) ?_
  refine x_nameS (fun s60 => ?_)
  refine x_aload_n (pc := 171) 0 dX12_init_171 rfl rfl ?_
  refine x_sipush (pc := 172) 200 dX12_init_172 rfl ?_
  refine x_newaI (pc := 175) 1323 (n := 200) ar_1323 rfl (by decide) tk_52 dX12_init_175 rfl (by decide) ?_
  refine x_nameN (fun i61 => ?_)
  refine x_nameS (fun s62 => ?_)
  refine x_putR (pc := 177) fd_12_23 pt_12_23 (Or.inr ⟨_, rfl⟩) tk_1218 dX12_init_177 (Or.inr ⟨rfl, rfl⟩) (Or.inl rfl) ?_
  refine x_nameS (fun s63 => ?_)
  refine x_aload_n (pc := 180) 0 dX12_init_180 rfl rfl ?_
  refine x_sipush (pc := 181) 200 dX12_init_181 rfl ?_
  refine x_newaZ (pc := 184) 1324 (n := 200) ar_1324 rfl (by decide) tk_151 dX12_init_184 rfl (by decide) ?_
  refine x_nameN (fun i64 => ?_)
  refine x_nameS (fun s65 => ?_)
  refine x_putR (pc := 186) fd_12_24 pt_12_24 (Or.inr ⟨_, rfl⟩) tk_1219 dX12_init_186 (Or.inr ⟨rfl, rfl⟩) (Or.inl rfl) ?_
  refine x_nameS (fun s66 => ?_)
  refine x_aload_n (pc := 189) 0 dX12_init_189 rfl rfl ?_
  refine x_sipush (pc := 190) 200 dX12_init_190 rfl ?_
  refine x_newaZ (pc := 193) 1325 (n := 200) ar_1325 rfl (by decide) tk_151 dX12_init_193 rfl (by decide) ?_
  refine x_nameN (fun i67 => ?_)
  refine x_nameS (fun s68 => ?_)
  refine x_putR (pc := 195) fd_12_25 pt_12_25 (Or.inr ⟨_, rfl⟩) tk_1220 dX12_init_195 (Or.inr ⟨rfl, rfl⟩) (Or.inl rfl) ?_
  refine x_nameS (fun s69 => ?_)
  refine x_aload_n (pc := 198) 0 dX12_init_198 rfl rfl ?_
  refine x_sipush (pc := 199) 6000 dX12_init_199 rfl ?_
  refine x_newaI (pc := 202) 1326 (n := 6000) ar_1326 rfl (by decide) tk_52 dX12_init_202 rfl (by decide) ?_
  refine x_nameN (fun i70 => ?_)
  refine x_nameS (fun s71 => ?_)
  refine x_putR (pc := 204) fd_12_26 pt_12_26 (Or.inr ⟨_, rfl⟩) tk_1221 dX12_init_204 (Or.inr ⟨rfl, rfl⟩) (Or.inl rfl) ?_
  refine x_nameS (fun s72 => ?_)
  refine x_aload_n (pc := 207) 0 dX12_init_207 rfl rfl ?_
  refine x_sipush (pc := 208) 6000 dX12_init_208 rfl ?_
  refine x_newaI (pc := 211) 1327 (n := 6000) ar_1327 rfl (by decide) tk_52 dX12_init_211 rfl (by decide) ?_
  refine x_nameN (fun i73 => ?_)
  refine x_nameS (fun s74 => ?_)
  refine x_putR (pc := 213) fd_12_27 pt_12_27 (Or.inr ⟨_, rfl⟩) tk_1222 dX12_init_213 (Or.inr ⟨rfl, rfl⟩) (Or.inl rfl) ?_
  refine x_nameS (fun s75 => ?_)
  refine x_aload_n (pc := 216) 0 dX12_init_216 rfl rfl ?_
  refine x_sipush (pc := 217) 6000 dX12_init_217 rfl ?_
  refine x_newaI (pc := 220) 1328 (n := 6000) ar_1328 rfl (by decide) tk_52 dX12_init_220 rfl (by decide) ?_
  refine x_nameN (fun i76 => ?_)
  refine x_nameS (fun s77 => ?_)
  refine x_putR (pc := 222) fd_12_28 pt_12_28 (Or.inr ⟨_, rfl⟩) tk_1223 dX12_init_222 (Or.inr ⟨rfl, rfl⟩) (Or.inl rfl) ?_
  refine x_nameS (fun s78 => ?_)
  refine x_aload_n (pc := 225) 0 dX12_init_225 rfl rfl ?_
  refine x_sipush (pc := 226) 200 dX12_init_226 rfl ?_
  refine x_newaI (pc := 229) 1329 (n := 200) ar_1329 rfl (by decide) tk_52 dX12_init_229 rfl (by decide) ?_
  refine x_nameN (fun i79 => ?_)
  refine x_nameS (fun s80 => ?_)
  refine x_putR (pc := 231) fd_12_29 pt_12_29 (Or.inr ⟨_, rfl⟩) tk_1224 dX12_init_231 (Or.inr ⟨rfl, rfl⟩) (Or.inl rfl) ?_
  refine x_nameS (fun s81 => ?_)
  refine x_aload_n (pc := 234) 0 dX12_init_234 rfl rfl ?_
  refine x_sipush (pc := 235) 200 dX12_init_235 rfl ?_
  refine x_newaI (pc := 238) 1330 (n := 200) ar_1330 rfl (by decide) tk_52 dX12_init_238 rfl (by decide) ?_
  refine x_nameN (fun i82 => ?_)
  refine x_nameS (fun s83 => ?_)
  refine x_putR (pc := 240) fd_12_30 pt_12_30 (Or.inr ⟨_, rfl⟩) tk_1225 dX12_init_240 (Or.inr ⟨rfl, rfl⟩) (Or.inl rfl) ?_
  refine x_nameS (fun s84 => ?_)
  refine x_aload_n (pc := 243) 0 dX12_init_243 rfl rfl ?_
  refine x_sipush (pc := 244) 200 dX12_init_244 rfl ?_
  refine x_newaI (pc := 247) 1331 (n := 200) ar_1331 rfl (by decide) tk_52 dX12_init_247 rfl (by decide) ?_
  refine x_nameN (fun i85 => ?_)
  refine x_nameS (fun s86 => ?_)
  refine x_putR (pc := 249) fd_12_31 pt_12_31 (Or.inr ⟨_, rfl⟩) tk_1226 dX12_init_249 (Or.inr ⟨rfl, rfl⟩) (Or.inl rfl) ?_
  refine x_nameS (fun s87 => ?_)
  refine x_aload_n (pc := 252) 0 dX12_init_252 rfl rfl ?_
  refine x_sipush (pc := 253) 200 dX12_init_253 rfl ?_
  refine x_newaI (pc := 256) 1332 (n := 200) ar_1332 rfl (by decide) tk_52 dX12_init_256 rfl (by decide) ?_
  refine x_nameN (fun i88 => ?_)
  refine x_nameS (fun s89 => ?_)
  refine x_putR (pc := 258) fd_12_32 pt_12_32 (Or.inr ⟨_, rfl⟩) tk_1227 dX12_init_258 (Or.inr ⟨rfl, rfl⟩) (Or.inl rfl) ?_
  refine x_nameS (fun s90 => ?_)
  refine x_aload_n (pc := 261) 0 dX12_init_261 rfl rfl ?_
  refine x_sipush (pc := 262) 200 dX12_init_262 rfl ?_
  refine x_newaI (pc := 265) 1333 (n := 200) ar_1333 rfl (by decide) tk_52 dX12_init_265 rfl (by decide) ?_
  refine x_nameN (fun i91 => ?_)
  refine x_nameS (fun s92 => ?_)
  refine x_putR (pc := 267) fd_12_33 pt_12_33 (Or.inr ⟨_, rfl⟩) tk_1228 dX12_init_267 (Or.inr ⟨rfl, rfl⟩) (Or.inl rfl) ?_
  refine x_nameS (fun s93 => ?_)
  refine x_aload_n (pc := 270) 0 dX12_init_270 rfl rfl ?_
  refine x_sipush (pc := 271) 200 dX12_init_271 rfl ?_
  refine x_newaI (pc := 274) 1334 (n := 200) ar_1334 rfl (by decide) tk_52 dX12_init_274 rfl (by decide) ?_
  refine x_nameN (fun i94 => ?_)
  refine x_nameS (fun s95 => ?_)
  refine x_putR (pc := 276) fd_12_34 pt_12_34 (Or.inr ⟨_, rfl⟩) tk_1229 dX12_init_276 (Or.inr ⟨rfl, rfl⟩) (Or.inl rfl) ?_
  refine x_nameS (fun s96 => ?_)
  refine x_aload_n (pc := 279) 0 dX12_init_279 rfl rfl ?_
  refine x_sipush (pc := 280) 200 dX12_init_280 rfl ?_
  refine x_newaI (pc := 283) 1335 (n := 200) ar_1335 rfl (by decide) tk_52 dX12_init_283 rfl (by decide) ?_
  refine x_nameN (fun i97 => ?_)
  refine x_nameS (fun s98 => ?_)
  refine x_putR (pc := 285) fd_12_35 pt_12_35 (Or.inr ⟨_, rfl⟩) tk_1230 dX12_init_285 (Or.inr ⟨rfl, rfl⟩) (Or.inl rfl) ?_
  refine x_nameS (fun s99 => ?_)
  refine x_aload_n (pc := 288) 0 dX12_init_288 rfl rfl ?_
  refine x_bipush (pc := 289) 10 dX12_init_289 rfl ?_
  refine x_newaI (pc := 291) 1337 (n := 10) ar_1337 rfl (by decide) tk_52 dX12_init_291 rfl (by decide) ?_
  refine x_nameN (fun i100 => ?_)
  refine x_nameS (fun s101 => ?_)
  refine x_putR (pc := 293) fd_12_37 pt_12_37 (Or.inr ⟨_, rfl⟩) tk_1232 dX12_init_293 (Or.inr ⟨rfl, rfl⟩) (Or.inl rfl) ?_
  refine x_nameS (fun s102 => ?_)
  refine x_aload_n (pc := 296) 0 dX12_init_296 rfl rfl ?_
  refine x_bipush (pc := 297) 10 dX12_init_297 rfl ?_
  refine x_newaI (pc := 299) 1338 (n := 10) ar_1338 rfl (by decide) tk_52 dX12_init_299 rfl (by decide) ?_
  refine x_nameN (fun i103 => ?_)
  refine x_nameS (fun s104 => ?_)
  refine x_putR (pc := 301) fd_12_38 pt_12_38 (Or.inr ⟨_, rfl⟩) tk_1233 dX12_init_301 (Or.inr ⟨rfl, rfl⟩) (Or.inl rfl) ?_
  refine x_nameS (fun s105 => ?_)
  refine x_aload_n (pc := 304) 0 dX12_init_304 rfl rfl ?_
  refine x_bipush (pc := 305) 10 dX12_init_305 rfl ?_
  refine x_newaI (pc := 307) 1339 (n := 10) ar_1339 rfl (by decide) tk_52 dX12_init_307 rfl (by decide) ?_
  refine x_nameN (fun i106 => ?_)
  refine x_nameS (fun s107 => ?_)
  refine x_putR (pc := 309) fd_12_39 pt_12_39 (Or.inr ⟨_, rfl⟩) tk_1234 dX12_init_309 (Or.inr ⟨rfl, rfl⟩) (Or.inl rfl) ?_
  refine x_nameS (fun s108 => ?_)
  refine x_aload_n (pc := 312) 0 dX12_init_312 rfl rfl ?_
  refine x_bipush (pc := 313) 14 dX12_init_313 rfl ?_
  refine x_putI (pc := 315) fd_12_40 pt_12_40 tk_1235 dX12_init_315 (Or.inl rfl) ?_
  refine x_nameS (fun s109 => ?_)
  refine x_aload_n (pc := 318) 0 dX12_init_318 rfl rfl ?_
  refine x_bipush (pc := 319) 100 dX12_init_319 rfl ?_
  refine x_putI (pc := 321) fd_12_41 pt_12_41 tk_1236 dX12_init_321 (Or.inl rfl) ?_
  refine x_nameS (fun s110 => ?_)
  refine x_aload_n (pc := 324) 0 dX12_init_324 rfl rfl ?_
  refine x_sipush (pc := 325) 2400 dX12_init_325 rfl ?_
  refine x_newaI (pc := 328) 1342 (n := 2400) ar_1342 rfl (by decide) tk_52 dX12_init_328 rfl (by decide) ?_
  refine x_nameN (fun i111 => ?_)
  refine x_nameS (fun s112 => ?_)
  refine x_putR (pc := 330) fd_12_42 pt_12_42 (Or.inr ⟨_, rfl⟩) tk_1237 dX12_init_330 (Or.inr ⟨rfl, rfl⟩) (Or.inl rfl) ?_
  refine x_nameS (fun s113 => ?_)
  refine x_aload_n (pc := 333) 0 dX12_init_333 rfl rfl ?_
  refine x_sipush (pc := 334) 2400 dX12_init_334 rfl ?_
  refine x_newaI (pc := 337) 1343 (n := 2400) ar_1343 rfl (by decide) tk_52 dX12_init_337 rfl (by decide) ?_
  refine x_nameN (fun i114 => ?_)
  refine x_nameS (fun s115 => ?_)
  refine x_putR (pc := 339) fd_12_43 pt_12_43 (Or.inr ⟨_, rfl⟩) tk_1238 dX12_init_339 (Or.inr ⟨rfl, rfl⟩) (Or.inl rfl) ?_
  refine x_nameS (fun s116 => ?_)
  refine x_aload_n (pc := 342) 0 dX12_init_342 rfl rfl ?_
  refine x_sipush (pc := 343) 200 dX12_init_343 rfl ?_
  refine x_newaI (pc := 346) 1344 (n := 200) ar_1344 rfl (by decide) tk_52 dX12_init_346 rfl (by decide) ?_
  refine x_nameN (fun i117 => ?_)
  refine x_nameS (fun s118 => ?_)
  refine x_putR (pc := 348) fd_12_44 pt_12_44 (Or.inr ⟨_, rfl⟩) tk_1239 dX12_init_348 (Or.inr ⟨rfl, rfl⟩) (Or.inl rfl) ?_
  refine x_nameS (fun s119 => ?_)
  refine x_aload_n (pc := 351) 0 dX12_init_351 rfl rfl ?_
  refine x_bipush (pc := 352) 10 dX12_init_352 rfl ?_
  refine x_newaI (pc := 354) 1345 (n := 10) ar_1345 rfl (by decide) tk_52 dX12_init_354 rfl (by decide) ?_
  refine x_nameN (fun i120 => ?_)
  refine x_nameS (fun s121 => ?_)
  refine x_putR (pc := 356) fd_12_45 pt_12_45 (Or.inr ⟨_, rfl⟩) tk_1240 dX12_init_356 (Or.inr ⟨rfl, rfl⟩) (Or.inl rfl) ?_
  refine x_nameS (fun s122 => ?_)
  refine x_aload_n (pc := 359) 0 dX12_init_359 rfl rfl ?_
  refine x_bipush (pc := 360) 7 dX12_init_360 rfl ?_
  refine x_newaI (pc := 362) 1346 (n := 7) ar_1346 rfl (by decide) tk_52 dX12_init_362 rfl (by decide) ?_
  refine x_nameN (fun i123 => ?_)
  refine x_nameS (fun s124 => ?_)
  refine x_putR (pc := 364) fd_12_46 pt_12_46 (Or.inr ⟨_, rfl⟩) tk_1241 dX12_init_364 (Or.inr ⟨rfl, rfl⟩) (Or.inl rfl) ?_
  refine x_nameS (fun s125 => ?_)
  refine x_aload_n (pc := 367) 0 dX12_init_367 rfl rfl ?_
  refine x_sipush (pc := 368) 160 dX12_init_368 rfl ?_
  refine x_newaI (pc := 371) 1348 (n := 160) ar_1348 rfl (by decide) tk_52 dX12_init_371 rfl (by decide) ?_
  refine x_nameN (fun i126 => ?_)
  refine x_nameS (fun s127 => ?_)
  refine x_putR (pc := 373) fd_12_48 pt_12_48 (Or.inr ⟨_, rfl⟩) tk_1243 dX12_init_373 (Or.inr ⟨rfl, rfl⟩) (Or.inl rfl) ?_
  refine x_nameS (fun s128 => ?_)
  refine x_aload_n (pc := 376) 0 dX12_init_376 rfl rfl ?_
  refine x_sipush (pc := 377) 3200 dX12_init_377 rfl ?_
  refine x_newaI (pc := 380) 1350 (n := 3200) ar_1350 rfl (by decide) tk_52 dX12_init_380 rfl (by decide) ?_
  refine x_nameN (fun i129 => ?_)
  refine x_nameS (fun s130 => ?_)
  refine x_putR (pc := 382) fd_12_50 pt_12_50 (Or.inr ⟨_, rfl⟩) tk_1245 dX12_init_382 (Or.inr ⟨rfl, rfl⟩) (Or.inl rfl) ?_
  refine x_nameS (fun s131 => ?_)
  refine x_aload_n (pc := 385) 0 dX12_init_385 rfl rfl ?_
  refine x_bipush (pc := 386) 20 dX12_init_386 rfl ?_
  refine x_newaI (pc := 388) 1351 (n := 20) ar_1351 rfl (by decide) tk_52 dX12_init_388 rfl (by decide) ?_
  refine x_nameN (fun i132 => ?_)
  refine x_nameS (fun s133 => ?_)
  refine x_putR (pc := 390) fd_12_51 pt_12_51 (Or.inr ⟨_, rfl⟩) tk_1246 dX12_init_390 (Or.inr ⟨rfl, rfl⟩) (Or.inl rfl) ?_
  refine x_nameS (fun s134 => ?_)
  refine x_aload_n (pc := 393) 0 dX12_init_393 rfl rfl ?_
  refine x_bipush (pc := 394) 20 dX12_init_394 rfl ?_
  refine x_newaI (pc := 396) 1352 (n := 20) ar_1352 rfl (by decide) tk_52 dX12_init_396 rfl (by decide) ?_
  refine x_nameN (fun i135 => ?_)
  refine x_nameS (fun s136 => ?_)
  refine x_putR (pc := 398) fd_12_52 pt_12_52 (Or.inr ⟨_, rfl⟩) tk_1247 dX12_init_398 (Or.inr ⟨rfl, rfl⟩) (Or.inl rfl) ?_
  refine x_nameS (fun s137 => ?_)
  refine x_aload_n (pc := 401) 0 dX12_init_401 rfl rfl ?_
  refine x_bipush (pc := 402) 20 dX12_init_402 rfl ?_
  refine x_newaI (pc := 404) 1353 (n := 20) ar_1353 rfl (by decide) tk_52 dX12_init_404 rfl (by decide) ?_
  refine x_nameN (fun i138 => ?_)
  refine x_nameS (fun s139 => ?_)
  refine x_putR (pc := 406) fd_12_53 pt_12_53 (Or.inr ⟨_, rfl⟩) tk_1248 dX12_init_406 (Or.inr ⟨rfl, rfl⟩) (Or.inl rfl) ?_
  refine x_nameS (fun s140 => ?_)
  refine x_aload_n (pc := 409) 0 dX12_init_409 rfl rfl ?_
  refine x_iconst (pc := 410) 2 dX12_init_410 rfl ?_
  refine x_newaI (pc := 411) 1354 (n := 2) ar_1354 rfl (by decide) tk_52 dX12_init_411 rfl (by decide) ?_
  refine x_nameN (fun i141 => ?_)
  refine x_nameS (fun s142 => ?_)
  refine x_putR (pc := 413) fd_12_54 pt_12_54 (Or.inr ⟨_, rfl⟩) tk_1249 dX12_init_413 (Or.inr ⟨rfl, rfl⟩) (Or.inl rfl) ?_
  refine x_nameS (fun s143 => ?_)
  refine x_aload_n (pc := 416) 0 dX12_init_416 rfl rfl ?_
  refine x_iconst (pc := 417) 1 dX12_init_417 rfl ?_
  refine x_putI (pc := 418) fd_12_55 pt_12_55 tk_1250 dX12_init_418 (Or.inl rfl) ?_
  refine x_nameS (fun s144 => ?_)
  refine x_aload_n (pc := 421) 0 dX12_init_421 rfl rfl ?_
  refine x_bipush (pc := 422) 40 dX12_init_422 rfl ?_
  refine x_newaZ (pc := 424) 1357 (n := 40) ar_1357 rfl (by decide) tk_151 dX12_init_424 rfl (by decide) ?_
  refine x_nameN (fun i145 => ?_)
  refine x_nameS (fun s146 => ?_)
  refine x_putR (pc := 426) fd_12_57 pt_12_57 (Or.inr ⟨_, rfl⟩) tk_1252 dX12_init_426 (Or.inr ⟨rfl, rfl⟩) (Or.inl rfl) ?_
  refine x_nameS (fun s147 => ?_)
  refine x_aload_n (pc := 429) 0 dX12_init_429 rfl rfl ?_
  refine x_bipush (pc := 430) 7 dX12_init_430 rfl ?_
  refine x_newaI (pc := 432) 1360 (n := 7) ar_1360 rfl (by decide) tk_52 dX12_init_432 rfl (by decide) ?_
  refine x_nameN (fun i148 => ?_)
  refine x_nameS (fun s149 => ?_)
  refine x_putR (pc := 434) fd_12_60 pt_12_60 (Or.inr ⟨_, rfl⟩) tk_1255 dX12_init_434 (Or.inr ⟨rfl, rfl⟩) (Or.inl rfl) ?_
  refine x_nameS (fun s150 => ?_)
  refine x_aload_n (pc := 437) 0 dX12_init_437 rfl rfl ?_
  refine x_bipush (pc := 438) 7 dX12_init_438 rfl ?_
  refine x_newaI (pc := 440) 1361 (n := 7) ar_1361 rfl (by decide) tk_52 dX12_init_440 rfl (by decide) ?_
  refine x_nameN (fun i151 => ?_)
  refine x_nameS (fun s152 => ?_)
  refine x_putR (pc := 442) fd_12_61 pt_12_61 (Or.inr ⟨_, rfl⟩) tk_1256 dX12_init_442 (Or.inr ⟨rfl, rfl⟩) (Or.inl rfl) ?_
  refine x_nameS (fun s153 => ?_)
  refine x_aload_n (pc := 445) 0 dX12_init_445 rfl rfl ?_
  refine x_bipush (pc := 446) 9 dX12_init_446 rfl ?_
  refine x_newaI (pc := 448) 1371 (n := 9) ar_1371 rfl (by decide) tk_52 dX12_init_448 rfl (by decide) ?_
  refine x_nameN (fun i154 => ?_)
  refine x_nameS (fun s155 => ?_)
  refine x_putR (pc := 450) fd_12_71 pt_12_71 (Or.inr ⟨_, rfl⟩) tk_1266 dX12_init_450 (Or.inr ⟨rfl, rfl⟩) (Or.inl rfl) ?_
  refine x_nameS (fun s156 => ?_)
  refine x_aload_n (pc := 453) 0 dX12_init_453 rfl rfl ?_
  refine x_iconst (pc := 454) 5 dX12_init_454 rfl ?_
  refine x_newaI (pc := 455) 1377 (n := 5) ar_1377 rfl (by decide) tk_52 dX12_init_455 rfl (by decide) ?_
  refine x_nameN (fun i157 => ?_)
  refine x_nameS (fun s158 => ?_)
  refine x_putR (pc := 457) fd_12_77 pt_12_77 (Or.inr ⟨_, rfl⟩) tk_1272 dX12_init_457 (Or.inr ⟨rfl, rfl⟩) (Or.inl rfl) ?_
  refine x_nameS (fun s159 => ?_)
  refine x_iconst (pc := 460) 0 dX12_init_460 rfl ?_
  refine x_istore_n (pc := 461) (als' := [(1, aI 0), (0, aR 12 (some h))]) 1 dX12_init_461 rfl (by decide) rfl ?_
  refine x_sub [1, 0] rfl (xl12_init_462 E h zfuel 0 s159)
theorem c_12_init (l : Launch)  (h : Nat) (σ : zSt) : zMet l yX12_init cX12_init 2 none r12_init false eV [aR 12 (some h)] σ (f12_init h σ) :=
  zMet_of [(0, aR 12 (some h))] (by decide +kernel) (fun _ => rfl) (Nat.le_of_ble_eq_true rfl) rfl fun E _ => x12_init E  h σ
abbrev r12_within : Room := { frames := 0, cells := 0, slots := 0, locals := 0 }
abbrev m12_within : zMu := (RX12, 3, (some .boolean), r12_within, false)
set_option maxRecDepth 20000 in
theorem x12_within (E : zEn)  (q : Bool) (v0 : Int32) (v1 : Int32) (v2 : Int32) (σ : zSt) : X E cX12_within m12_within q (zQr E q eI r12_within σ) 0 0 σ [(0, aI v0), (1, aI v1), (2, aI v2)] 0 [] (f12_within v0 v1 v2 σ) := by
  unfold f12_within
  refine x_iload_n (pc := 0) 0 dX12_within_0 rfl rfl ?_
  refine x_iload_n (pc := 1) 1 dX12_within_1 rfl rfl ?_
  refine x_join (P := fun (j1 : Option Int32) => X E cX12_within m12_within q (zQr E q eI r12_within σ) 0 0 σ [] 14 [] j1) ?_ ?_
  ·
    refine x_iconst (pc := 14) 0 dX12_within_14 rfl ?_
    exact x_zretC (rm := r12_within) rfl rfl (by decide) dX12_within_15
  · intro j1 hj2
    refine x_icmp_lt (pc := 2) 14 dX12_within_2 (by decide) (fun _ => ?_) (fun _ => ?_)
    ·
      exact x_sub [] rfl (hj2)
    ·
      refine x_iload_n (pc := 5) 0 dX12_within_5 rfl rfl ?_
      refine x_iload_n (pc := 6) 2 dX12_within_6 rfl rfl ?_
      refine x_icmp_gt (pc := 7) 14 dX12_within_7 (by decide) (fun _ => ?_) (fun _ => ?_)
      ·
        exact x_sub [] rfl (hj2)
      ·
        refine x_iconst (pc := 10) 1 dX12_within_10 rfl ?_
        refine x_goto (pc := 11) 15 dX12_within_11 (by decide) ?_
        exact x_zretC (rm := r12_within) rfl rfl (by decide) dX12_within_15
theorem c_12_within (l : Launch)  (q : Bool) (v0 : Int32) (v1 : Int32) (v2 : Int32) (σ : zSt) : zMet l yX12_within cX12_within 3 (some .boolean) r12_within q eI [aI v0, aI v1, aI v2] σ (zro (f12_within v0 v1 v2 σ) σ) :=
  zMet_ofR [(0, aI v0), (1, aI v1), (2, aI v2)] (by decide +kernel) (fun h => by cases h) (Nat.le_of_ble_eq_true rfl) rfl fun E _ => x12_within E  q v0 v1 v2 σ
abbrev r12_isDay : Room := { frames := 1, cells := 0, slots := 0, locals := 22 }
abbrev m12_isDay : zMu := (RX12, 1, (some .boolean), r12_isDay, false)
set_option maxRecDepth 20000 in
theorem x12_isDay (E : zEn)  (q : Bool) (v0 : Int32) (σ : zSt) : X E cX12_isDay m12_isDay q (zQr E q eI r12_isDay σ) 0 0 σ [(0, aI v0)] 0 [] (f12_isDay v0 σ) := by
  unfold f12_isDay
  refine x_iload_n (pc := 0) 0 dX12_isDay_0 rfl rfl ?_
  refine x_iconst (pc := 1) 0 dX12_isDay_1 rfl ?_
  refine x_sipush (pc := 2) 9999 dX12_isDay_2 rfl ?_
  refine x_callSr (pc := 5) (as := [aI v0, aI 0, aI 9999]) (rest := []) (fun l => c_12_within l q v0 0 9999 σ) md_X12_within tk_1447 tk_1446 dX12_isDay_5 rfl ⟨by decide, by decide, by decide, by decide⟩ ⟨fun h => h, fun h => Or.inl h⟩ rfl (Nat.le_of_ble_eq_true rfl) (fun r1 => ?_)
  show X E _ _ _ _ 0 0 _ _ _ [aI r1] _
  exact x_zret (rm := r12_isDay) rfl rfl dX12_isDay_8
theorem c_12_isDay (l : Launch)  (q : Bool) (v0 : Int32) (σ : zSt) : zMet l yX12_isDay cX12_isDay 1 (some .boolean) r12_isDay q eI [aI v0] σ (zro (f12_isDay v0 σ) σ) :=
  zMet_ofR [(0, aI v0)] (by decide +kernel) (fun h => by cases h) (Nat.le_of_ble_eq_true rfl) rfl fun E _ => x12_isDay E  q v0 σ
abbrev r12_isHome : Room := { frames := 0, cells := 0, slots := 0, locals := 0 }
abbrev m12_isHome : zMu := (RX12, 2, (some .boolean), r12_isHome, false)
set_option maxRecDepth 20000 in
theorem x12_isHome (E : zEn)  (q : Bool) (v1 : Int32) (σ : zSt) : X E cX12_isHome m12_isHome q (zQr E q eI r12_isHome σ) 0 0 σ [(0, aR 12 (some 0)), (1, aI v1)] 0 [] (f12_isHome v1 σ) := by
  unfold f12_isHome
  refine x_iload_n (pc := 0) 1 dX12_isHome_0 rfl rfl ?_
  refine x_join (P := fun (j1 : Option Int32) => X E cX12_isHome m12_isHome q (zQr E q eI r12_isHome σ) 0 0 σ [] 16 [] j1) ?_ ?_
  ·
    refine x_iconst (pc := 16) 0 dX12_isHome_16 rfl ?_
    exact x_zretC (rm := r12_isHome) rfl rfl (by decide) dX12_isHome_17
  · intro j1 hj2
    refine x_if_lt (pc := 1) 16 dX12_isHome_1 (by decide) (fun _ => ?_) (fun _ => ?_)
    ·
      exact x_sub [] rfl (hj2)
    ·
      refine x_iload_n (pc := 4) 1 dX12_isHome_4 rfl rfl ?_
      refine x_aload_n (pc := 5) 0 dX12_isHome_5 rfl rfl ?_
      refine x_getI (pc := 6) fd_12_13 tk_1208 dX12_isHome_6 ?_
      refine x_icmp_ge (pc := 9) 16 dX12_isHome_9 (by decide) (fun _ => ?_) (fun _ => ?_)
      ·
        exact x_sub [] rfl (hj2)
      ·
        refine x_iconst (pc := 12) 1 dX12_isHome_12 rfl ?_
        refine x_goto (pc := 13) 17 dX12_isHome_13 (by decide) ?_
        exact x_zretC (rm := r12_isHome) rfl rfl (by decide) dX12_isHome_17
theorem c_12_isHome (l : Launch)  (q : Bool) (v1 : Int32) (σ : zSt) : zMet l yX12_isHome cX12_isHome 2 (some .boolean) r12_isHome q eI [aR 12 (some 0), aI v1] σ (zro (f12_isHome v1 σ) σ) :=
  zMet_ofR [(0, aR 12 (some 0)), (1, aI v1)] (by decide +kernel) (fun h => by cases h) (Nat.le_of_ble_eq_true rfl) rfl fun E _ => x12_isHome E  q v1 σ
abbrev r12_isKind : Room := { frames := 0, cells := 0, slots := 0, locals := 0 }
abbrev m12_isKind : zMu := (RX12, 2, (some .boolean), r12_isKind, false)
set_option maxRecDepth 20000 in
theorem x12_isKind (E : zEn)  (q : Bool) (v1 : Int32) (σ : zSt) : X E cX12_isKind m12_isKind q (zQr E q eI r12_isKind σ) 0 0 σ [(0, aR 12 (some 0)), (1, aI v1)] 0 [] (f12_isKind v1 σ) := by
  unfold f12_isKind
  refine x_iload_n (pc := 0) 1 dX12_isKind_0 rfl rfl ?_
  refine x_join (P := fun (j1 : Option Int32) => X E cX12_isKind m12_isKind q (zQr E q eI r12_isKind σ) 0 0 σ [] 16 [] j1) ?_ ?_
  ·
    refine x_iconst (pc := 16) 0 dX12_isKind_16 rfl ?_
    exact x_zretC (rm := r12_isKind) rfl rfl (by decide) dX12_isKind_17
  · intro j1 hj2
    refine x_if_lt (pc := 1) 16 dX12_isKind_1 (by decide) (fun _ => ?_) (fun _ => ?_)
    ·
      exact x_sub [] rfl (hj2)
    ·
      refine x_iload_n (pc := 4) 1 dX12_isKind_4 rfl rfl ?_
      refine x_aload_n (pc := 5) 0 dX12_isKind_5 rfl rfl ?_
      refine x_getI (pc := 6) fd_12_17 tk_1212 dX12_isKind_6 ?_
      refine x_icmp_ge (pc := 9) 16 dX12_isKind_9 (by decide) (fun _ => ?_) (fun _ => ?_)
      ·
        exact x_sub [] rfl (hj2)
      ·
        refine x_iconst (pc := 12) 1 dX12_isKind_12 rfl ?_
        refine x_goto (pc := 13) 17 dX12_isKind_13 (by decide) ?_
        exact x_zretC (rm := r12_isKind) rfl rfl (by decide) dX12_isKind_17
theorem c_12_isKind (l : Launch)  (q : Bool) (v1 : Int32) (σ : zSt) : zMet l yX12_isKind cX12_isKind 2 (some .boolean) r12_isKind q eI [aR 12 (some 0), aI v1] σ (zro (f12_isKind v1 σ) σ) :=
  zMet_ofR [(0, aR 12 (some 0)), (1, aI v1)] (by decide +kernel) (fun h => by cases h) (Nat.le_of_ble_eq_true rfl) rfl fun E _ => x12_isKind E  q v1 σ
abbrev r12_isFault : Room := { frames := 0, cells := 0, slots := 0, locals := 0 }
abbrev m12_isFault : zMu := (RX12, 2, (some .boolean), r12_isFault, false)
set_option maxRecDepth 20000 in
theorem x12_isFault (E : zEn)  (q : Bool) (v1 : Int32) (σ : zSt) : X E cX12_isFault m12_isFault q (zQr E q eI r12_isFault σ) 0 0 σ [(0, aR 12 (some 0)), (1, aI v1)] 0 [] (f12_isFault v1 σ) := by
  unfold f12_isFault
  refine x_iload_n (pc := 0) 1 dX12_isFault_0 rfl rfl ?_
  refine x_join (P := fun (j1 : Option Int32) => X E cX12_isFault m12_isFault q (zQr E q eI r12_isFault σ) 0 0 σ [] 16 [] j1) ?_ ?_
  ·
    refine x_iconst (pc := 16) 0 dX12_isFault_16 rfl ?_
    exact x_zretC (rm := r12_isFault) rfl rfl (by decide) dX12_isFault_17
  · intro j1 hj2
    refine x_if_lt (pc := 1) 16 dX12_isFault_1 (by decide) (fun _ => ?_) (fun _ => ?_)
    ·
      exact x_sub [] rfl (hj2)
    ·
      refine x_iload_n (pc := 4) 1 dX12_isFault_4 rfl rfl ?_
      refine x_aload_n (pc := 5) 0 dX12_isFault_5 rfl rfl ?_
      refine x_getI (pc := 6) fd_12_36 tk_1231 dX12_isFault_6 ?_
      refine x_icmp_ge (pc := 9) 16 dX12_isFault_9 (by decide) (fun _ => ?_) (fun _ => ?_)
      ·
        exact x_sub [] rfl (hj2)
      ·
        refine x_iconst (pc := 12) 1 dX12_isFault_12 rfl ?_
        refine x_goto (pc := 13) 17 dX12_isFault_13 (by decide) ?_
        exact x_zretC (rm := r12_isFault) rfl rfl (by decide) dX12_isFault_17
theorem c_12_isFault (l : Launch)  (q : Bool) (v1 : Int32) (σ : zSt) : zMet l yX12_isFault cX12_isFault 2 (some .boolean) r12_isFault q eI [aR 12 (some 0), aI v1] σ (zro (f12_isFault v1 σ) σ) :=
  zMet_ofR [(0, aR 12 (some 0)), (1, aI v1)] (by decide +kernel) (fun h => by cases h) (Nat.le_of_ble_eq_true rfl) rfl fun E _ => x12_isFault E  q v1 σ
abbrev r12_isCrew : Room := { frames := 1, cells := 0, slots := 0, locals := 22 }
abbrev m12_isCrew : zMu := (RX12, 1, (some .boolean), r12_isCrew, false)
set_option maxRecDepth 20000 in
theorem x12_isCrew (E : zEn)  (q : Bool) (v0 : Int32) (σ : zSt) : X E cX12_isCrew m12_isCrew q (zQr E q eI r12_isCrew σ) 0 0 σ [(0, aI v0)] 0 [] (f12_isCrew v0 σ) := by
  unfold f12_isCrew
  refine x_iload_n (pc := 0) 0 dX12_isCrew_0 rfl rfl ?_
  refine x_iconst (pc := 1) 0 dX12_isCrew_1 rfl ?_
  refine x_bipush (pc := 2) 9 dX12_isCrew_2 rfl ?_
  refine x_callSr (pc := 4) (as := [aI v0, aI 0, aI 9]) (rest := []) (fun l => c_12_within l q v0 0 9 σ) md_X12_within tk_1447 tk_1446 dX12_isCrew_4 rfl ⟨by decide, by decide, by decide, by decide⟩ ⟨fun h => h, fun h => Or.inl h⟩ rfl (Nat.le_of_ble_eq_true rfl) (fun r1 => ?_)
  show X E _ _ _ _ 0 0 _ _ _ [aI r1] _
  exact x_zret (rm := r12_isCrew) rfl rfl dX12_isCrew_7
theorem c_12_isCrew (l : Launch)  (q : Bool) (v0 : Int32) (σ : zSt) : zMet l yX12_isCrew cX12_isCrew 1 (some .boolean) r12_isCrew q eI [aI v0] σ (zro (f12_isCrew v0 σ) σ) :=
  zMet_ofR [(0, aI v0)] (by decide +kernel) (fun h => by cases h) (Nat.le_of_ble_eq_true rfl) rfl fun E _ => x12_isCrew E  q v0 σ
abbrev r12_isTrade : Room := { frames := 1, cells := 0, slots := 0, locals := 22 }
abbrev m12_isTrade : zMu := (RX12, 1, (some .boolean), r12_isTrade, false)
set_option maxRecDepth 20000 in
theorem x12_isTrade (E : zEn)  (q : Bool) (v0 : Int32) (σ : zSt) : X E cX12_isTrade m12_isTrade q (zQr E q eI r12_isTrade σ) 0 0 σ [(0, aI v0)] 0 [] (f12_isTrade v0 σ) := by
  unfold f12_isTrade
  refine x_iload_n (pc := 0) 0 dX12_isTrade_0 rfl rfl ?_
  refine x_iconst (pc := 1) 0 dX12_isTrade_1 rfl ?_
  refine x_bipush (pc := 2) 9 dX12_isTrade_2 rfl ?_
  refine x_callSr (pc := 4) (as := [aI v0, aI 0, aI 9]) (rest := []) (fun l => c_12_within l q v0 0 9 σ) md_X12_within tk_1447 tk_1446 dX12_isTrade_4 rfl ⟨by decide, by decide, by decide, by decide⟩ ⟨fun h => h, fun h => Or.inl h⟩ rfl (Nat.le_of_ble_eq_true rfl) (fun r1 => ?_)
  show X E _ _ _ _ 0 0 _ _ _ [aI r1] _
  exact x_zret (rm := r12_isTrade) rfl rfl dX12_isTrade_7
theorem c_12_isTrade (l : Launch)  (q : Bool) (v0 : Int32) (σ : zSt) : zMet l yX12_isTrade cX12_isTrade 1 (some .boolean) r12_isTrade q eI [aI v0] σ (zro (f12_isTrade v0 σ) σ) :=
  zMet_ofR [(0, aI v0)] (by decide +kernel) (fun h => by cases h) (Nat.le_of_ble_eq_true rfl) rfl fun E _ => x12_isTrade E  q v0 σ
abbrev r12_days : Room := { frames := 1, cells := 0, slots := 0, locals := 22 }
abbrev m12_days : zMu := (RX12, 2, (some .int), r12_days, false)
set_option maxRecDepth 20000 in
theorem x12_days (E : zEn)  (q : Bool) (v1 : Int32) (σ : zSt) : X E cX12_days m12_days q (zQw E q eI r12_days) 0 0 σ [(0, aR 12 (some 0)), (1, aI v1)] 0 [] (f12_days v1 σ) := by
  unfold f12_days
  refine x_iload_n (pc := 0) 1 dX12_days_0 rfl rfl ?_
  refine x_iconst (pc := 1) 1 dX12_days_1 rfl ?_
  refine x_sipush (pc := 2) 360 dX12_days_2 rfl ?_
  refine x_callSr (pc := 5) (as := [aI v1, aI 1, aI 360]) (rest := []) (fun l => c_12_within l q v1 1 360 σ) md_X12_within tk_1447 tk_1446 dX12_days_5 rfl ⟨by decide, by decide, by decide, by decide⟩ ⟨fun h => h, fun h => Or.inl h⟩ rfl (Nat.le_of_ble_eq_true rfl) (fun r1 => ?_)
  show X E _ _ _ _ 0 0 _ _ _ [aI r1] _
  refine x_if_eq (pc := 8) 23 dX12_days_8 (by decide) (fun _ => ?_) (fun _ => ?_)
  ·
    refine x_iconst (pc := 23) (-1) dX12_days_23 rfl ?_
    exact x_iret (rm := r12_days) rfl rfl dX12_days_24
  ·
    refine x_aload_n (pc := 11) 0 dX12_days_11 rfl rfl ?_
    refine x_getI (pc := 12) fd_12_0 tk_1195 dX12_days_12 ?_
    refine x_iload_n (pc := 15) 1 dX12_days_15 rfl rfl ?_
    refine x_iadd (pc := 16) dX12_days_16 ?_
    refine x_sipush (pc := 17) 9999 dX12_days_17 rfl ?_
    refine x_icmp_le (pc := 20) 25 dX12_days_20 (by decide) (fun _ => ?_) (fun _ => ?_)
    ·
      refine x_aload_n (pc := 25) 0 dX12_days_25 rfl rfl ?_
      refine x_dup (pc := 26) dX12_days_26 rfl ?_
      refine x_getI (pc := 27) fd_12_0 tk_1195 dX12_days_27 ?_
      refine x_iload_n (pc := 30) 1 dX12_days_30 rfl rfl ?_
      refine x_iadd (pc := 31) dX12_days_31 ?_
      refine x_putI (pc := 32) fd_12_0 pt_12_0 tk_1195 dX12_days_32 (Or.inl rfl) ?_
      refine x_nameS (fun s2 => ?_)
      refine x_aload_n (pc := 35) 0 dX12_days_35 rfl rfl ?_
      refine x_getI (pc := 36) fd_12_0 tk_1195 dX12_days_36 ?_
      exact x_iret (rm := r12_days) rfl rfl dX12_days_39
    ·
      refine x_iconst (pc := 23) (-1) dX12_days_23 rfl ?_
      exact x_iret (rm := r12_days) rfl rfl dX12_days_24
theorem c_12_days (l : Launch)  (q : Bool) (v1 : Int32) (σ : zSt) : zMet l yX12_days cX12_days 2 (some .int) r12_days q eI [aR 12 (some 0), aI v1] σ (f12_days v1 σ) :=
  zMet_of [(0, aR 12 (some 0)), (1, aI v1)] (by decide +kernel) (fun h => by cases h) (Nat.le_of_ble_eq_true rfl) rfl fun E _ => x12_days E  q v1 σ
abbrev r12_home : Room := { frames := 1, cells := 0, slots := 0, locals := 22 }
abbrev m12_home : zMu := (RX12, 5, (some .int), r12_home, false)
set_option maxRecDepth 20000 in
theorem xl12_home_118 (E : zEn)    {K147 : zSt → Option (Int32 × zSt)} (hK147 : ∀ (σ : zSt), X E cX12_home m12_home true (zQw E true eI r12_home) 0 0 σ [(0, aR 12 (some 0))] 147 [] (K147 σ)) : ∀ (n : Nat) (v4 : Int32) (σ : zSt), X E cX12_home m12_home true (zQw E true eI r12_home) 0 0 σ [(0, aR 12 (some 0)), (4, aI v4)] 118 [] (f12_home_L118 K147 n v4 σ) := by
  intro n
  induction n with
  | zero => intros; exact x_none
  | succ n ih =>
    intro v4 σ
    rw [f12_home_L118]
    refine x_iload (pc := 118) 4 dX12_home_118 rfl ?_
    refine x_bipush (pc := 120) 10 dX12_home_120 rfl ?_
    refine x_icmp_ge (pc := 122) 147 dX12_home_122 (by decide) (fun _ => ?_) (fun _ => ?_)
    ·
      exact x_sub [0] rfl (hK147 σ)
    ·
      refine x_aload_n (pc := 125) 0 dX12_home_125 rfl rfl ?_
      refine x_getF (pc := 126) (j := 0) fd_12_9 rfl rfl tk_1204 dX12_home_126 ?_
      refine x_bipush (pc := 129) 10 dX12_home_129 rfl ?_
      refine x_aload_n (pc := 131) 0 dX12_home_131 rfl rfl ?_
      refine x_getI (pc := 132) fd_12_13 tk_1208 dX12_home_132 ?_
      refine x_imul (pc := 135) dX12_home_135 ?_
      refine x_iload (pc := 136) 4 dX12_home_136 rfl ?_
      refine x_iadd (pc := 138) dX12_home_138 ?_
      refine x_iconst (pc := 139) (-1) dX12_home_139 rfl ?_
      refine x_iast (pc := 140) ar_1309 dX12_home_140 (fun m15 => ?_)
      refine x_nameS (fun s16 => ?_)
      refine x_iinc (pc := 141) (als' := [(4, aI (v4 + 1)), (0, aR 12 (some 0))]) 4 1 (c := 1) dX12_home_141 rfl rfl (by decide) rfl ?_
      refine x_nameV (g := fun y18 => [(4, aI y18), (0, aR 12 (some 0))]) (fun x17 => ?_) rfl
      refine x_goto (pc := 144) 118 dX12_home_144 (by decide) ?_
      exact x_sub [1, 0] rfl (ih x17 s16)
set_option maxRecDepth 20000 in
theorem x12_home (E : zEn)  (v1 : Int32) (v2 : Int32) (v3 : Int32) (σ : zSt) : X E cX12_home m12_home true (zQw E true eI r12_home) 0 0 σ [(0, aR 12 (some 0)), (1, aI v1), (2, aI v2), (3, aI v3)] 0 [] (f12_home v1 v2 v3 σ) := by
  unfold f12_home
  refine x_iload_n (pc := 0) 1 dX12_home_0 rfl rfl ?_
  refine x_if_lt (pc := 1) 34 dX12_home_1 (by decide) (fun _ => ?_) (fun _ => ?_)
  ·
    refine x_iconst (pc := 34) (-1) dX12_home_34 rfl ?_
    exact x_iret (rm := r12_home) rfl rfl dX12_home_35
  ·
    refine x_iload_n (pc := 4) 1 dX12_home_4 rfl rfl ?_
    refine x_bipush (pc := 5) 100 dX12_home_5 rfl ?_
    refine x_idivC (pc := 7) dX12_home_7 (by decide) ?_
    refine x_bipush (pc := 8) 8 dX12_home_8 rfl ?_
    refine x_icmp_ge (pc := 10) 34 dX12_home_10 (by decide) (fun _ => ?_) (fun _ => ?_)
    ·
      refine x_iconst (pc := 34) (-1) dX12_home_34 rfl ?_
      exact x_iret (rm := r12_home) rfl rfl dX12_home_35
    ·
      refine x_iload_n (pc := 13) 2 dX12_home_13 rfl rfl ?_
      refine x_iconst (pc := 14) 0 dX12_home_14 rfl ?_
      refine x_sipush (pc := 15) 999 dX12_home_15 rfl ?_
      refine x_callSr (pc := 18) (as := [aI v2, aI 0, aI 999]) (rest := []) (fun l => c_12_within l true v2 0 999 σ) md_X12_within tk_1447 tk_1446 dX12_home_18 rfl ⟨by decide, by decide, by decide, by decide⟩ ⟨fun _ => rfl, fun _ => Or.inl rfl⟩ rfl (Nat.le_of_ble_eq_true rfl) (fun r1 => ?_)
      show X E _ _ _ _ 0 0 _ _ _ [aI r1] _
      refine x_if_eq (pc := 21) 34 dX12_home_21 (by decide) (fun _ => ?_) (fun _ => ?_)
      ·
        refine x_iconst (pc := 34) (-1) dX12_home_34 rfl ?_
        exact x_iret (rm := r12_home) rfl rfl dX12_home_35
      ·
        refine x_iload_n (pc := 24) 3 dX12_home_24 rfl rfl ?_
        refine x_iconst (pc := 25) 0 dX12_home_25 rfl ?_
        refine x_bipush (pc := 26) 9 dX12_home_26 rfl ?_
        refine x_callSr (pc := 28) (as := [aI v3, aI 0, aI 9]) (rest := []) (fun l => c_12_within l true v3 0 9 σ) md_X12_within tk_1447 tk_1446 dX12_home_28 rfl ⟨by decide, by decide, by decide, by decide⟩ ⟨fun _ => rfl, fun _ => Or.inl rfl⟩ rfl (Nat.le_of_ble_eq_true rfl) (fun r2 => ?_)
        show X E _ _ _ _ 0 0 _ _ _ [aI r2] _
        refine x_if_ne (pc := 31) 36 dX12_home_31 (by decide) (fun _ => ?_) (fun _ => ?_)
        ·
          refine x_aload_n (pc := 36) 0 dX12_home_36 rfl rfl ?_
          refine x_getI (pc := 37) fd_12_13 tk_1208 dX12_home_37 ?_
          refine x_bipush (pc := 40) 40 dX12_home_40 rfl ?_
          refine x_icmp_ne (pc := 42) 48 dX12_home_42 (by decide) (fun _ => ?_) (fun _ => ?_)
          ·
            refine x_aload_n (pc := 48) 0 dX12_home_48 rfl rfl ?_
            refine x_getF (pc := 49) (j := 0) fd_12_1 rfl rfl tk_1196 dX12_home_49 ?_
            refine x_aload_n (pc := 52) 0 dX12_home_52 rfl rfl ?_
            refine x_getI (pc := 53) fd_12_13 tk_1208 dX12_home_53 ?_
            refine x_iload_n (pc := 56) 1 dX12_home_56 rfl rfl ?_
            refine x_bipush (pc := 57) 100 dX12_home_57 rfl ?_
            refine x_idivC (pc := 59) dX12_home_59 (by decide) ?_
            refine x_iast (pc := 60) ar_1301 dX12_home_60 (fun m3 => ?_)
            refine x_nameS (fun s4 => ?_)
            refine x_aload_n (pc := 61) 0 dX12_home_61 rfl rfl ?_
            refine x_getF (pc := 62) (j := 0) fd_12_2 rfl rfl tk_1197 dX12_home_62 ?_
            refine x_aload_n (pc := 65) 0 dX12_home_65 rfl rfl ?_
            refine x_getI (pc := 66) fd_12_13 tk_1208 dX12_home_66 ?_
            refine x_iload_n (pc := 69) 1 dX12_home_69 rfl rfl ?_
            refine x_bipush (pc := 70) 100 dX12_home_70 rfl ?_
            refine x_iremC (pc := 72) dX12_home_72 (by decide) ?_
            refine x_iast (pc := 73) ar_1302 dX12_home_73 (fun m5 => ?_)
            refine x_nameS (fun s6 => ?_)
            refine x_aload_n (pc := 74) 0 dX12_home_74 rfl rfl ?_
            refine x_getF (pc := 75) (j := 0) fd_12_3 rfl rfl tk_1198 dX12_home_75 ?_
            refine x_aload_n (pc := 78) 0 dX12_home_78 rfl rfl ?_
            refine x_getI (pc := 79) fd_12_13 tk_1208 dX12_home_79 ?_
            refine x_iload_n (pc := 82) 2 dX12_home_82 rfl rfl ?_
            refine x_iast (pc := 83) ar_1303 dX12_home_83 (fun m7 => ?_)
            refine x_nameS (fun s8 => ?_)
            refine x_aload_n (pc := 84) 0 dX12_home_84 rfl rfl ?_
            refine x_getF (pc := 85) (j := 0) fd_12_4 rfl rfl tk_1199 dX12_home_85 ?_
            refine x_aload_n (pc := 88) 0 dX12_home_88 rfl rfl ?_
            refine x_getI (pc := 89) fd_12_13 tk_1208 dX12_home_89 ?_
            refine x_iload_n (pc := 92) 3 dX12_home_92 rfl rfl ?_
            refine x_iast (pc := 93) ar_1304 dX12_home_93 (fun m9 => ?_)
            refine x_nameS (fun s10 => ?_)
            refine x_aload_n (pc := 94) 0 dX12_home_94 rfl rfl ?_
            refine x_getF (pc := 95) (j := 0) fd_12_5 rfl rfl tk_1200 dX12_home_95 ?_
            refine x_aload_n (pc := 98) 0 dX12_home_98 rfl rfl ?_
            refine x_getI (pc := 99) fd_12_13 tk_1208 dX12_home_99 ?_
            refine x_iconst (pc := 102) (-1) dX12_home_102 rfl ?_
            refine x_iast (pc := 103) ar_1305 dX12_home_103 (fun m11 => ?_)
            refine x_nameS (fun s12 => ?_)
            refine x_aload_n (pc := 104) 0 dX12_home_104 rfl rfl ?_
            refine x_getF (pc := 105) (j := 0) fd_12_8 rfl rfl tk_1203 dX12_home_105 ?_
            refine x_aload_n (pc := 108) 0 dX12_home_108 rfl rfl ?_
            refine x_getI (pc := 109) fd_12_13 tk_1208 dX12_home_109 ?_
            refine x_bipush (pc := 112) 127 dX12_home_112 rfl ?_
            refine x_iast (pc := 114) ar_1308 dX12_home_114 (fun m13 => ?_)
            refine x_nameS (fun s14 => ?_)
            refine x_iconst (pc := 115) 0 dX12_home_115 rfl ?_
            refine x_istore (pc := 116) (als' := [(4, aI 0), (0, aR 12 (some 0)), (1, aI v1), (2, aI v2), (3, aI v3)]) 4 dX12_home_116 (by decide) rfl ?_
            refine x_sub [1, 0] rfl (xl12_home_118 E (fun s19 => ?_) zfuel 0 s14)
            ·
              refine x_aload_n (pc := 147) 0 dX12_home_147 rfl rfl ?_
              refine x_dup (pc := 148) dX12_home_148 rfl ?_
              refine x_getI (pc := 149) fd_12_13 tk_1208 dX12_home_149 ?_
              refine x_iconst (pc := 152) 1 dX12_home_152 rfl ?_
              refine x_iadd (pc := 153) dX12_home_153 ?_
              refine x_putI (pc := 154) fd_12_13 pt_12_13 tk_1208 dX12_home_154 (Or.inl rfl) ?_
              refine x_nameS (fun s20 => ?_)
              refine x_aload_n (pc := 157) 0 dX12_home_157 rfl rfl ?_
              refine x_getI (pc := 158) fd_12_13 tk_1208 dX12_home_158 ?_
              refine x_iconst (pc := 161) 1 dX12_home_161 rfl ?_
              refine x_isub (pc := 162) dX12_home_162 ?_
              exact x_iret (rm := r12_home) rfl rfl dX12_home_163
          ·
            refine x_bipush (pc := 45) (-2) dX12_home_45 rfl ?_
            exact x_iret (rm := r12_home) rfl rfl dX12_home_47
        ·
          refine x_iconst (pc := 34) (-1) dX12_home_34 rfl ?_
          exact x_iret (rm := r12_home) rfl rfl dX12_home_35
theorem c_12_home (l : Launch)  (v1 : Int32) (v2 : Int32) (v3 : Int32) (σ : zSt) : zMet l yX12_home cX12_home 5 (some .int) r12_home true eI [aR 12 (some 0), aI v1, aI v2, aI v3] σ (f12_home v1 v2 v3 σ) :=
  zMet_of [(0, aR 12 (some 0)), (1, aI v1), (2, aI v2), (3, aI v3)] (by decide +kernel) (fun h => by cases h) (Nat.le_of_ble_eq_true rfl) rfl fun E _ => x12_home E  v1 v2 v3 σ
