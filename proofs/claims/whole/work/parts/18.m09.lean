abbrev r12_key : Room := { frames := 1, cells := 0, slots := 0, locals := 22 }
abbrev m12_key : zMu := (RX12, 3, (some .int), r12_key, false)
set_option maxRecDepth 20000 in
theorem x12_key (E : zEn)  (v1 : Int32) (v2 : Int32) (σ : zSt) : X E cX12_key m12_key true (zQw E true eI r12_key) 0 0 σ [(0, aR 12 (some 0)), (1, aI v1), (2, aI v2)] 0 [] (f12_key v1 v2 σ) := by
  unfold f12_key
  refine x_aload_n (pc := 0) 0 dX12_key_0 rfl rfl ?_
  refine x_iload_n (pc := 1) 1 dX12_key_1 rfl rfl ?_
  refine x_callVr (pc := 2) (as := [aI v1]) (rest := []) (fun l => c_12_isHome l true v1 σ) md_X12_isHome ⟨_, _, rfl, by decide⟩ tk_1459 tp_53 tk_1457 dX12_key_2 rfl ⟨by decide, by decide, by decide, by decide⟩ ⟨fun _ => rfl, fun _ => Or.inl rfl⟩ rfl (Nat.le_of_ble_eq_true rfl) (fun r1 => ?_)
  show X E _ _ _ _ 0 0 _ _ _ [aI r1] _
  refine x_if_eq (pc := 5) 18 dX12_key_5 (by decide) (fun _ => ?_) (fun _ => ?_)
  ·
    refine x_iconst (pc := 18) (-1) dX12_key_18 rfl ?_
    exact x_iret (rm := r12_key) rfl rfl dX12_key_19
  ·
    refine x_iload_n (pc := 8) 2 dX12_key_8 rfl rfl ?_
    refine x_iconst (pc := 9) 0 dX12_key_9 rfl ?_
    refine x_ldc (pc := 10) (v := 99999) dX12_key_10 tk_1461 ?_
    refine x_callSr (pc := 12) (as := [aI v2, aI 0, aI 99999]) (rest := []) (fun l => c_12_within l true v2 0 99999 σ) md_X12_within tk_1447 tk_1446 dX12_key_12 rfl ⟨by decide, by decide, by decide, by decide⟩ ⟨fun _ => rfl, fun _ => Or.inl rfl⟩ rfl (Nat.le_of_ble_eq_true rfl) (fun r2 => ?_)
    show X E _ _ _ _ 0 0 _ _ _ [aI r2] _
    refine x_if_ne (pc := 15) 20 dX12_key_15 (by decide) (fun _ => ?_) (fun _ => ?_)
    ·
      refine x_aload_n (pc := 20) 0 dX12_key_20 rfl rfl ?_
      refine x_getF (pc := 21) (j := 0) fd_12_5 rfl rfl tk_1200 dX12_key_21 ?_
      refine x_iload_n (pc := 24) 1 dX12_key_24 rfl rfl ?_
      refine x_iald (pc := 25) ar_1305 dX12_key_25 (fun m3 => ?_)
      refine x_if_lt (pc := 26) 32 dX12_key_26 (by decide) (fun _ => ?_) (fun _ => ?_)
      ·
        refine x_aload_n (pc := 32) 0 dX12_key_32 rfl rfl ?_
        refine x_getF (pc := 33) (j := 0) fd_12_5 rfl rfl tk_1200 dX12_key_33 ?_
        refine x_iload_n (pc := 36) 1 dX12_key_36 rfl rfl ?_
        refine x_aload_n (pc := 37) 0 dX12_key_37 rfl rfl ?_
        refine x_getI (pc := 38) fd_12_0 tk_1195 dX12_key_38 ?_
        refine x_iast (pc := 41) ar_1305 dX12_key_41 (fun m4 => ?_)
        refine x_nameS (fun s5 => ?_)
        refine x_aload_n (pc := 42) 0 dX12_key_42 rfl rfl ?_
        refine x_getF (pc := 43) (j := 0) fd_12_10 rfl rfl tk_1205 dX12_key_43 ?_
        refine x_iload_n (pc := 46) 1 dX12_key_46 rfl rfl ?_
        refine x_iload_n (pc := 47) 2 dX12_key_47 rfl rfl ?_
        refine x_iast (pc := 48) ar_1310 dX12_key_48 (fun m6 => ?_)
        refine x_nameS (fun s7 => ?_)
        refine x_iconst (pc := 49) 1 dX12_key_49 rfl ?_
        exact x_iret (rm := r12_key) rfl rfl dX12_key_50
      ·
        refine x_bipush (pc := 29) (-3) dX12_key_29 rfl ?_
        exact x_iret (rm := r12_key) rfl rfl dX12_key_31
    ·
      refine x_iconst (pc := 18) (-1) dX12_key_18 rfl ?_
      exact x_iret (rm := r12_key) rfl rfl dX12_key_19
theorem c_12_key (l : Launch)  (v1 : Int32) (v2 : Int32) (σ : zSt) : zMet l yX12_key cX12_key 3 (some .int) r12_key true eI [aR 12 (some 0), aI v1, aI v2] σ (f12_key v1 v2 σ) :=
  zMet_of [(0, aR 12 (some 0)), (1, aI v1), (2, aI v2)] (by decide +kernel) (fun h => by cases h) (Nat.le_of_ble_eq_true rfl) rfl fun E _ => x12_key E  v1 v2 σ
abbrev r12_sell : Room := { frames := 1, cells := 0, slots := 0, locals := 21 }
abbrev m12_sell : zMu := (RX12, 2, (some .int), r12_sell, false)
set_option maxRecDepth 20000 in
theorem x12_sell (E : zEn)  (v1 : Int32) (σ : zSt) : X E cX12_sell m12_sell true (zQw E true eI r12_sell) 0 0 σ [(0, aR 12 (some 0)), (1, aI v1)] 0 [] (f12_sell v1 σ) := by
  unfold f12_sell
  refine x_aload_n (pc := 0) 0 dX12_sell_0 rfl rfl ?_
  refine x_iload_n (pc := 1) 1 dX12_sell_1 rfl rfl ?_
  refine x_callVr (pc := 2) (as := [aI v1]) (rest := []) (fun l => c_12_isHome l true v1 σ) md_X12_isHome ⟨_, _, rfl, by decide⟩ tk_1459 tp_53 tk_1457 dX12_sell_2 rfl ⟨by decide, by decide, by decide, by decide⟩ ⟨fun _ => rfl, fun _ => Or.inl rfl⟩ rfl (Nat.le_of_ble_eq_true rfl) (fun r1 => ?_)
  show X E _ _ _ _ 0 0 _ _ _ [aI r1] _
  refine x_if_ne (pc := 5) 10 dX12_sell_5 (by decide) (fun _ => ?_) (fun _ => ?_)
  ·
    refine x_aload_n (pc := 10) 0 dX12_sell_10 rfl rfl ?_
    refine x_getF (pc := 11) (j := 0) fd_12_5 rfl rfl tk_1200 dX12_sell_11 ?_
    refine x_iload_n (pc := 14) 1 dX12_sell_14 rfl rfl ?_
    refine x_iald (pc := 15) ar_1305 dX12_sell_15 (fun m2 => ?_)
    refine x_if_ge (pc := 16) 22 dX12_sell_16 (by decide) (fun _ => ?_) (fun _ => ?_)
    ·
      refine x_aload_n (pc := 22) 0 dX12_sell_22 rfl rfl ?_
      refine x_getF (pc := 23) (j := 0) fd_12_7 rfl rfl tk_1202 dX12_sell_23 ?_
      refine x_iload_n (pc := 26) 1 dX12_sell_26 rfl rfl ?_
      refine x_iald (pc := 27) ar_1307 dX12_sell_27 (fun m3 => ?_)
      refine x_bipush (pc := 28) 20 dX12_sell_28 rfl ?_
      refine x_icmp_ne (pc := 30) 36 dX12_sell_30 (by decide) (fun _ => ?_) (fun _ => ?_)
      ·
        refine x_aload_n (pc := 36) 0 dX12_sell_36 rfl rfl ?_
        refine x_getF (pc := 37) (j := 0) fd_12_6 rfl rfl tk_1201 dX12_sell_37 ?_
        refine x_bipush (pc := 40) 20 dX12_sell_40 rfl ?_
        refine x_iload_n (pc := 42) 1 dX12_sell_42 rfl rfl ?_
        refine x_imul (pc := 43) dX12_sell_43 ?_
        refine x_aload_n (pc := 44) 0 dX12_sell_44 rfl rfl ?_
        refine x_getF (pc := 45) (j := 0) fd_12_7 rfl rfl tk_1202 dX12_sell_45 ?_
        refine x_iload_n (pc := 48) 1 dX12_sell_48 rfl rfl ?_
        refine x_iald (pc := 49) ar_1307 dX12_sell_49 (fun m4 => ?_)
        refine x_iadd (pc := 50) dX12_sell_50 ?_
        refine x_aload_n (pc := 51) 0 dX12_sell_51 rfl rfl ?_
        refine x_getI (pc := 52) fd_12_0 tk_1195 dX12_sell_52 ?_
        refine x_iast (pc := 55) ar_1306 dX12_sell_55 (fun m5 => ?_)
        refine x_nameS (fun s6 => ?_)
        refine x_aload_n (pc := 56) 0 dX12_sell_56 rfl rfl ?_
        refine x_getF (pc := 57) (j := 0) fd_12_7 rfl rfl tk_1202 dX12_sell_57 ?_
        refine x_iload_n (pc := 60) 1 dX12_sell_60 rfl rfl ?_
        refine x_dup2 (pc := 61) dX12_sell_61 rfl rfl ?_
        refine x_iald (pc := 62) ar_1307 dX12_sell_62 (fun m7 => ?_)
        refine x_iconst (pc := 63) 1 dX12_sell_63 rfl ?_
        refine x_iadd (pc := 64) dX12_sell_64 ?_
        refine x_iast (pc := 65) ar_1307 dX12_sell_65 (fun m8 => ?_)
        refine x_nameS (fun s9 => ?_)
        refine x_aload_n (pc := 66) 0 dX12_sell_66 rfl rfl ?_
        refine x_getF (pc := 67) (j := 0) fd_12_7 rfl rfl tk_1202 dX12_sell_67 ?_
        refine x_iload_n (pc := 70) 1 dX12_sell_70 rfl rfl ?_
        refine x_iald (pc := 71) ar_1307 dX12_sell_71 (fun m10 => ?_)
        exact x_iret (rm := r12_sell) rfl rfl dX12_sell_72
      ·
        refine x_bipush (pc := 33) (-2) dX12_sell_33 rfl ?_
        exact x_iret (rm := r12_sell) rfl rfl dX12_sell_35
    ·
      refine x_bipush (pc := 19) (-3) dX12_sell_19 rfl ?_
      exact x_iret (rm := r12_sell) rfl rfl dX12_sell_21
  ·
    refine x_iconst (pc := 8) (-1) dX12_sell_8 rfl ?_
    exact x_iret (rm := r12_sell) rfl rfl dX12_sell_9
theorem c_12_sell (l : Launch)  (v1 : Int32) (σ : zSt) : zMet l yX12_sell cX12_sell 2 (some .int) r12_sell true eI [aR 12 (some 0), aI v1] σ (f12_sell v1 σ) :=
  zMet_of [(0, aR 12 (some 0)), (1, aI v1)] (by decide +kernel) (fun h => by cases h) (Nat.le_of_ble_eq_true rfl) rfl fun E _ => x12_sell E  v1 σ
abbrev r12_in : Room := { frames := 1, cells := 0, slots := 0, locals := 22 }
abbrev m12_in : zMu := (RX12, 4, (some .int), r12_in, false)
set_option maxRecDepth 20000 in
theorem x12_in (E : zEn)  (v1 : Int32) (v2 : Int32) (σ : zSt) : X E cX12_in m12_in true (zQw E true eI r12_in) 0 0 σ [(0, aR 12 (some 0)), (1, aI v1), (2, aI v2)] 0 [] (f12_in v1 v2 σ) := by
  unfold f12_in
  refine x_aload_n (pc := 0) 0 dX12_in_0 rfl rfl ?_
  refine x_iload_n (pc := 1) 1 dX12_in_1 rfl rfl ?_
  refine x_callVr (pc := 2) (as := [aI v1]) (rest := []) (fun l => c_12_isHome l true v1 σ) md_X12_isHome ⟨_, _, rfl, by decide⟩ tk_1459 tp_53 tk_1457 dX12_in_2 rfl ⟨by decide, by decide, by decide, by decide⟩ ⟨fun _ => rfl, fun _ => Or.inl rfl⟩ rfl (Nat.le_of_ble_eq_true rfl) (fun r1 => ?_)
  show X E _ _ _ _ 0 0 _ _ _ [aI r1] _
  refine x_if_eq (pc := 5) 18 dX12_in_5 (by decide) (fun _ => ?_) (fun _ => ?_)
  ·
    refine x_iconst (pc := 18) (-1) dX12_in_18 rfl ?_
    exact x_iret (rm := r12_in) rfl rfl dX12_in_19
  ·
    refine x_iload_n (pc := 8) 2 dX12_in_8 rfl rfl ?_
    refine x_iconst (pc := 9) 0 dX12_in_9 rfl ?_
    refine x_bipush (pc := 10) 127 dX12_in_10 rfl ?_
    refine x_callSr (pc := 12) (as := [aI v2, aI 0, aI 127]) (rest := []) (fun l => c_12_within l true v2 0 127 σ) md_X12_within tk_1447 tk_1446 dX12_in_12 rfl ⟨by decide, by decide, by decide, by decide⟩ ⟨fun _ => rfl, fun _ => Or.inl rfl⟩ rfl (Nat.le_of_ble_eq_true rfl) (fun r2 => ?_)
    show X E _ _ _ _ 0 0 _ _ _ [aI r2] _
    refine x_if_ne (pc := 15) 20 dX12_in_15 (by decide) (fun _ => ?_) (fun _ => ?_)
    ·
      refine x_aload_n (pc := 20) 0 dX12_in_20 rfl rfl ?_
      refine x_getF (pc := 21) (j := 0) fd_12_8 rfl rfl tk_1203 dX12_in_21 ?_
      refine x_iload_n (pc := 24) 1 dX12_in_24 rfl rfl ?_
      refine x_iald (pc := 25) ar_1308 dX12_in_25 (fun m3 => ?_)
      refine x_nameI (fun x4 => ?_)
      refine x_istore_n (pc := 26) (als' := [(3, aI x4), (0, aR 12 (some 0)), (1, aI v1), (2, aI v2)]) 3 dX12_in_26 rfl (by decide) rfl ?_
      refine x_aload_n (pc := 27) 0 dX12_in_27 rfl rfl ?_
      refine x_getF (pc := 28) (j := 0) fd_12_8 rfl rfl tk_1203 dX12_in_28 ?_
      refine x_iload_n (pc := 31) 1 dX12_in_31 rfl rfl ?_
      refine x_iload_n (pc := 32) 2 dX12_in_32 rfl rfl ?_
      refine x_iast (pc := 33) ar_1308 dX12_in_33 (fun m5 => ?_)
      refine x_nameS (fun s6 => ?_)
      refine x_iload_n (pc := 34) 3 dX12_in_34 rfl rfl ?_
      exact x_iret (rm := r12_in) rfl rfl dX12_in_35
    ·
      refine x_iconst (pc := 18) (-1) dX12_in_18 rfl ?_
      exact x_iret (rm := r12_in) rfl rfl dX12_in_19
theorem c_12_in (l : Launch)  (v1 : Int32) (v2 : Int32) (σ : zSt) : zMet l yX12_in cX12_in 4 (some .int) r12_in true eI [aR 12 (some 0), aI v1, aI v2] σ (f12_in v1 v2 σ) :=
  zMet_of [(0, aR 12 (some 0)), (1, aI v1), (2, aI v2)] (by decide +kernel) (fun h => by cases h) (Nat.le_of_ble_eq_true rfl) rfl fun E _ => x12_in E  v1 v2 σ
abbrev r12_crew : Room := { frames := 2, cells := 0, slots := 0, locals := 42 }
abbrev m12_crew : zMu := (RX12, 5, (some .int), r12_crew, false)
set_option maxRecDepth 20000 in
theorem x12_crew (E : zEn)  (v1 : Int32) (v2 : Int32) (v3 : Int32) (σ : zSt) : X E cX12_crew m12_crew true (zQw E true eI r12_crew) 0 0 σ [(0, aR 12 (some 0)), (1, aI v1), (2, aI v2), (3, aI v3)] 0 [] (f12_crew v1 v2 v3 σ) := by
  unfold f12_crew
  refine x_aload_n (pc := 0) 0 dX12_crew_0 rfl rfl ?_
  refine x_iload_n (pc := 1) 1 dX12_crew_1 rfl rfl ?_
  refine x_callVr (pc := 2) (as := [aI v1]) (rest := []) (fun l => c_12_isHome l true v1 σ) md_X12_isHome ⟨_, _, rfl, by decide⟩ tk_1459 tp_53 tk_1457 dX12_crew_2 rfl ⟨by decide, by decide, by decide, by decide⟩ ⟨fun _ => rfl, fun _ => Or.inl rfl⟩ rfl (Nat.le_of_ble_eq_true rfl) (fun r1 => ?_)
  show X E _ _ _ _ 0 0 _ _ _ [aI r1] _
  refine x_if_eq (pc := 5) 25 dX12_crew_5 (by decide) (fun _ => ?_) (fun _ => ?_)
  ·
    refine x_ldc (pc := 25) (v := (-2000000000)) dX12_crew_25 tk_1477 ?_
    exact x_iret (rm := r12_crew) rfl rfl dX12_crew_27
  ·
    refine x_iload_n (pc := 8) 2 dX12_crew_8 rfl rfl ?_
    refine x_callSr (pc := 9) (as := [aI v2]) (rest := []) (fun l => c_12_isTrade l true v2 σ) md_X12_isTrade tk_1475 tk_1474 dX12_crew_9 rfl ⟨by decide, by decide, by decide, by decide⟩ ⟨fun _ => rfl, fun _ => Or.inl rfl⟩ rfl (Nat.le_of_ble_eq_true rfl) (fun r2 => ?_)
    show X E _ _ _ _ 0 0 _ _ _ [aI r2] _
    refine x_if_eq (pc := 12) 25 dX12_crew_12 (by decide) (fun _ => ?_) (fun _ => ?_)
    ·
      refine x_ldc (pc := 25) (v := (-2000000000)) dX12_crew_25 tk_1477 ?_
      exact x_iret (rm := r12_crew) rfl rfl dX12_crew_27
    ·
      refine x_iload_n (pc := 15) 3 dX12_crew_15 rfl rfl ?_
      refine x_iconst (pc := 16) (-1) dX12_crew_16 rfl ?_
      refine x_bipush (pc := 17) 9 dX12_crew_17 rfl ?_
      refine x_callSr (pc := 19) (as := [aI v3, aI (-1), aI 9]) (rest := []) (fun l => c_12_within l true v3 (-1) 9 σ) md_X12_within tk_1447 tk_1446 dX12_crew_19 rfl ⟨by decide, by decide, by decide, by decide⟩ ⟨fun _ => rfl, fun _ => Or.inl rfl⟩ rfl (Nat.le_of_ble_eq_true rfl) (fun r3 => ?_)
      show X E _ _ _ _ 0 0 _ _ _ [aI r3] _
      refine x_if_ne (pc := 22) 28 dX12_crew_22 (by decide) (fun _ => ?_) (fun _ => ?_)
      ·
        refine x_aload_n (pc := 28) 0 dX12_crew_28 rfl rfl ?_
        refine x_getF (pc := 29) (j := 0) fd_12_9 rfl rfl tk_1204 dX12_crew_29 ?_
        refine x_bipush (pc := 32) 10 dX12_crew_32 rfl ?_
        refine x_iload_n (pc := 34) 1 dX12_crew_34 rfl rfl ?_
        refine x_imul (pc := 35) dX12_crew_35 ?_
        refine x_iload_n (pc := 36) 2 dX12_crew_36 rfl rfl ?_
        refine x_iadd (pc := 37) dX12_crew_37 ?_
        refine x_iald (pc := 38) ar_1309 dX12_crew_38 (fun m4 => ?_)
        refine x_nameI (fun x5 => ?_)
        refine x_istore (pc := 39) (als' := [(4, aI x5), (0, aR 12 (some 0)), (1, aI v1), (2, aI v2), (3, aI v3)]) 4 dX12_crew_39 (by decide) rfl ?_
        refine x_aload_n (pc := 41) 0 dX12_crew_41 rfl rfl ?_
        refine x_getF (pc := 42) (j := 0) fd_12_9 rfl rfl tk_1204 dX12_crew_42 ?_
        refine x_bipush (pc := 45) 10 dX12_crew_45 rfl ?_
        refine x_iload_n (pc := 47) 1 dX12_crew_47 rfl rfl ?_
        refine x_imul (pc := 48) dX12_crew_48 ?_
        refine x_iload_n (pc := 49) 2 dX12_crew_49 rfl rfl ?_
        refine x_iadd (pc := 50) dX12_crew_50 ?_
        refine x_iload_n (pc := 51) 3 dX12_crew_51 rfl rfl ?_
        refine x_iast (pc := 52) ar_1309 dX12_crew_52 (fun m6 => ?_)
        refine x_nameS (fun s7 => ?_)
        refine x_iload (pc := 53) 4 dX12_crew_53 rfl ?_
        exact x_iret (rm := r12_crew) rfl rfl dX12_crew_55
      ·
        refine x_ldc (pc := 25) (v := (-2000000000)) dX12_crew_25 tk_1477 ?_
        exact x_iret (rm := r12_crew) rfl rfl dX12_crew_27
theorem c_12_crew (l : Launch)  (v1 : Int32) (v2 : Int32) (v3 : Int32) (σ : zSt) : zMet l yX12_crew cX12_crew 5 (some .int) r12_crew true eI [aR 12 (some 0), aI v1, aI v2, aI v3] σ (f12_crew v1 v2 v3 σ) :=
  zMet_of [(0, aR 12 (some 0)), (1, aI v1), (2, aI v2), (3, aI v3)] (by decide +kernel) (fun h => by cases h) (Nat.le_of_ble_eq_true rfl) rfl fun E _ => x12_crew E  v1 v2 v3 σ
abbrev r12_stateOn : Room := { frames := 0, cells := 0, slots := 0, locals := 0 }
abbrev m12_stateOn : zMu := (RX12, 5, (some .int), r12_stateOn, false)
set_option maxRecDepth 20000 in
theorem xl12_stateOn_8 (E : zEn)   (h1 : Int32) (h2 : Int32) (σ : zSt)   : ∀ (n : Nat) (v3 : Int32) (v4 : Int32), X E cX12_stateOn m12_stateOn true (zQr E true eI r12_stateOn σ) 0 0 σ [(0, aR 12 (some 0)), (1, aI h1), (2, aI h2), (3, aI v3), (4, aI v4)] 8 [] (f12_stateOn_L8 h1 h2 σ n v3 v4) := by
  intro n
  induction n with
  | zero => intros; exact x_none
  | succ n ih =>
    intro v3 v4
    rw [f12_stateOn_L8]
    refine x_iload (pc := 8) 4 dX12_stateOn_8 rfl ?_
    refine x_bipush (pc := 10) 30 dX12_stateOn_10 rfl ?_
    refine x_iload_n (pc := 12) 1 dX12_stateOn_12 rfl rfl ?_
    refine x_imul (pc := 13) dX12_stateOn_13 ?_
    refine x_aload_n (pc := 14) 0 dX12_stateOn_14 rfl rfl ?_
    refine x_getF (pc := 15) (j := 0) fd_12_29 rfl rfl tk_1224 dX12_stateOn_15 ?_
    refine x_iload_n (pc := 18) 1 dX12_stateOn_18 rfl rfl ?_
    refine x_iald (pc := 19) ar_1329 dX12_stateOn_19 (fun m2 => ?_)
    refine x_iadd (pc := 20) dX12_stateOn_20 ?_
    refine x_icmp_ge (pc := 21) 53 dX12_stateOn_21 (by decide) (fun _ => ?_) (fun _ => ?_)
    ·
      refine x_iload_n (pc := 53) 3 dX12_stateOn_53 rfl rfl ?_
      exact x_iret (rm := r12_stateOn) rfl rfl dX12_stateOn_54
    ·
      refine x_aload_n (pc := 24) 0 dX12_stateOn_24 rfl rfl ?_
      refine x_getF (pc := 25) (j := 0) fd_12_27 rfl rfl tk_1222 dX12_stateOn_25 ?_
      refine x_iload (pc := 28) 4 dX12_stateOn_28 rfl ?_
      refine x_iald (pc := 30) ar_1327 dX12_stateOn_30 (fun m3 => ?_)
      refine x_iload_n (pc := 31) 2 dX12_stateOn_31 rfl rfl ?_
      refine x_join (P := fun (j5 : Int32 → Option Int32) => ∀ (a4 : Int32), X E cX12_stateOn m12_stateOn true (zQr E true eI r12_stateOn σ) 0 0 σ [(0, aR 12 (some 0)), (1, aI h1), (2, aI h2), (4, aI v4)] 46 [aI a4] (j5 a4)) ?_ ?_
      · intro a4
        refine x_istore_n (pc := 46) (als' := [(3, aI a4), (0, aR 12 (some 0)), (1, aI h1), (2, aI h2), (4, aI v4)]) 3 dX12_stateOn_46 rfl (by decide) rfl ?_
        refine x_iinc (pc := 47) (als' := [(4, aI (v4 + 1)), (3, aI a4), (0, aR 12 (some 0)), (1, aI h1), (2, aI h2)]) 4 4 (c := 1) dX12_stateOn_47 rfl rfl (by decide) rfl ?_
        refine x_nameV (g := fun y8 => [(4, aI y8), (3, aI a4), (0, aR 12 (some 0)), (1, aI h1), (2, aI h2)]) (fun x7 => ?_) rfl
        refine x_goto (pc := 50) 8 dX12_stateOn_50 (by decide) ?_
        exact x_sub [2, 3, 4, 1, 0] rfl (ih a4 x7)
      · intro j5 hj6
        refine x_icmp_gt (pc := 32) 45 dX12_stateOn_32 (by decide) (fun _ => ?_) (fun _ => ?_)
        ·
          refine x_iload_n (pc := 45) 3 dX12_stateOn_45 rfl rfl ?_
          exact x_sub [0, 1, 2, 4] rfl (hj6 v3)
        ·
          refine x_aload_n (pc := 35) 0 dX12_stateOn_35 rfl rfl ?_
          refine x_getF (pc := 36) (j := 0) fd_12_26 rfl rfl tk_1221 dX12_stateOn_36 ?_
          refine x_iload (pc := 39) 4 dX12_stateOn_39 rfl ?_
          refine x_iald (pc := 41) ar_1326 dX12_stateOn_41 (fun m9 => ?_)
          refine x_goto (pc := 42) 46 dX12_stateOn_42 (by decide) ?_
          exact x_sub [0, 1, 2, 4] rfl (hj6 (gI σ 1326 0 m9))
set_option maxRecDepth 20000 in
theorem x12_stateOn (E : zEn)  (v1 : Int32) (v2 : Int32) (σ : zSt) : X E cX12_stateOn m12_stateOn true (zQr E true eI r12_stateOn σ) 0 0 σ [(0, aR 12 (some 0)), (1, aI v1), (2, aI v2)] 0 [] (f12_stateOn v1 v2 σ) := by
  unfold f12_stateOn
  refine x_iconst (pc := 0) (-1) dX12_stateOn_0 rfl ?_
  refine x_istore_n (pc := 1) (als' := [(3, aI (-1)), (0, aR 12 (some 0)), (1, aI v1), (2, aI v2)]) 3 dX12_stateOn_1 rfl (by decide) rfl ?_
  refine x_bipush (pc := 2) 30 dX12_stateOn_2 rfl ?_
  refine x_iload_n (pc := 4) 1 dX12_stateOn_4 rfl rfl ?_
  refine x_imul (pc := 5) dX12_stateOn_5 ?_
  refine x_nameI (fun x1 => ?_)
  refine x_istore (pc := 6) (als' := [(4, aI x1), (3, aI (-1)), (0, aR 12 (some 0)), (1, aI v1), (2, aI v2)]) 4 dX12_stateOn_6 (by decide) rfl ?_
  refine x_sub [2, 3, 4, 1, 0] rfl (xl12_stateOn_8 E v1 v2 σ zfuel (-1) x1)
theorem c_12_stateOn (l : Launch)  (v1 : Int32) (v2 : Int32) (σ : zSt) : zMet l yX12_stateOn cX12_stateOn 5 (some .int) r12_stateOn true eI [aR 12 (some 0), aI v1, aI v2] σ (zro (f12_stateOn v1 v2 σ) σ) :=
  zMet_ofR [(0, aR 12 (some 0)), (1, aI v1), (2, aI v2)] (by decide +kernel) (fun h => by cases h) (Nat.le_of_ble_eq_true rfl) rfl fun E _ => x12_stateOn E  v1 v2 σ
abbrev r12_isLeft : Room := { frames := 1, cells := 0, slots := 0, locals := 24 }
abbrev m12_isLeft : zMu := (RX12, 4, (some .boolean), r12_isLeft, false)
set_option maxRecDepth 20000 in
theorem x12_isLeft (E : zEn)  (v1 : Int32) (v2 : Int32) (σ : zSt) : X E cX12_isLeft m12_isLeft true (zQr E true eI r12_isLeft σ) 0 0 σ [(0, aR 12 (some 0)), (1, aI v1), (2, aI v2)] 0 [] (f12_isLeft v1 v2 σ) := by
  unfold f12_isLeft
  refine x_aload_n (pc := 0) 0 dX12_isLeft_0 rfl rfl ?_
  refine x_iload_n (pc := 1) 1 dX12_isLeft_1 rfl rfl ?_
  refine x_iload_n (pc := 2) 2 dX12_isLeft_2 rfl rfl ?_
  refine x_callVr (pc := 3) (as := [aI v1, aI v2]) (rest := []) (fun l => c_12_stateOn l v1 v2 σ) md_X12_stateOn ⟨_, _, rfl, by decide⟩ tk_1492 tp_56 tk_1490 dX12_isLeft_3 rfl ⟨by decide, by decide, by decide, by decide⟩ ⟨fun _ => rfl, fun _ => Or.inl rfl⟩ rfl (Nat.le_of_ble_eq_true rfl) (fun r1 => ?_)
  show X E _ _ _ _ 0 0 _ _ _ [aI r1] _
  refine x_istore_n (pc := 6) (als' := [(3, aI r1), (0, aR 12 (some 0)), (1, aI v1), (2, aI v2)]) 3 dX12_isLeft_6 rfl (by decide) rfl ?_
  refine x_iload_n (pc := 7) 3 dX12_isLeft_7 rfl rfl ?_
  refine x_join (P := fun (j2 : Option Int32) => X E cX12_isLeft m12_isLeft true (zQr E true eI r12_isLeft σ) 0 0 σ [] 25 [] j2) ?_ ?_
  ·
    refine x_iconst (pc := 25) 0 dX12_isLeft_25 rfl ?_
    exact x_zretC (rm := r12_isLeft) rfl rfl (by decide) dX12_isLeft_26
  · intro j2 hj3
    refine x_if_lt (pc := 8) 25 dX12_isLeft_8 (by decide) (fun _ => ?_) (fun _ => ?_)
    ·
      exact x_sub [] rfl (hj3)
    ·
      refine x_iload_n (pc := 11) 3 dX12_isLeft_11 rfl rfl ?_
      refine x_iconst (pc := 12) 3 dX12_isLeft_12 rfl ?_
      refine x_icmp_eq (pc := 13) 25 dX12_isLeft_13 (by decide) (fun _ => ?_) (fun _ => ?_)
      ·
        exact x_sub [] rfl (hj3)
      ·
        refine x_iload_n (pc := 16) 3 dX12_isLeft_16 rfl rfl ?_
        refine x_iconst (pc := 17) 4 dX12_isLeft_17 rfl ?_
        refine x_icmp_eq (pc := 18) 25 dX12_isLeft_18 (by decide) (fun _ => ?_) (fun _ => ?_)
        ·
          exact x_sub [] rfl (hj3)
        ·
          refine x_iconst (pc := 21) 1 dX12_isLeft_21 rfl ?_
          refine x_goto (pc := 22) 26 dX12_isLeft_22 (by decide) ?_
          exact x_zretC (rm := r12_isLeft) rfl rfl (by decide) dX12_isLeft_26
theorem c_12_isLeft (l : Launch)  (v1 : Int32) (v2 : Int32) (σ : zSt) : zMet l yX12_isLeft cX12_isLeft 4 (some .boolean) r12_isLeft true eI [aR 12 (some 0), aI v1, aI v2] σ (zro (f12_isLeft v1 v2 σ) σ) :=
  zMet_ofR [(0, aR 12 (some 0)), (1, aI v1), (2, aI v2)] (by decide +kernel) (fun h => by cases h) (Nat.le_of_ble_eq_true rfl) rfl fun E _ => x12_isLeft E  v1 v2 σ
abbrev r12_leftOf : Room := { frames := 2, cells := 0, slots := 0, locals := 47 }
abbrev m12_leftOf : zMu := (RX12, 4, (some .int), r12_leftOf, false)
set_option maxRecDepth 20000 in
theorem xl12_leftOf_4 (E : zEn)   (h1 : Int32) (σ : zSt)   : ∀ (n : Nat) (v2 : Int32) (v3 : Int32), X E cX12_leftOf m12_leftOf true (zQr E true eI r12_leftOf σ) 0 0 σ [(0, aR 12 (some 0)), (1, aI h1), (2, aI v2), (3, aI v3)] 4 [] (f12_leftOf_L4 h1 σ n v2 v3) := by
  intro n
  induction n with
  | zero => intros; exact x_none
  | succ n ih =>
    intro v2 v3
    rw [f12_leftOf_L4]
    refine x_iload_n (pc := 4) 3 dX12_leftOf_4 rfl rfl ?_
    refine x_aload_n (pc := 5) 0 dX12_leftOf_5 rfl rfl ?_
    refine x_getI (pc := 6) fd_12_36 tk_1231 dX12_leftOf_6 ?_
    refine x_icmp_ge (pc := 9) 48 dX12_leftOf_9 (by decide) (fun _ => ?_) (fun _ => ?_)
    ·
      refine x_iload_n (pc := 48) 2 dX12_leftOf_48 rfl rfl ?_
      exact x_iret (rm := r12_leftOf) rfl rfl dX12_leftOf_49
    ·
      refine x_iload_n (pc := 12) 2 dX12_leftOf_12 rfl rfl ?_
      refine x_aload_n (pc := 13) 0 dX12_leftOf_13 rfl rfl ?_
      refine x_getF (pc := 14) (j := 0) fd_12_18 rfl rfl tk_1213 dX12_leftOf_14 ?_
      refine x_iload_n (pc := 17) 3 dX12_leftOf_17 rfl rfl ?_
      refine x_iald (pc := 18) ar_1318 dX12_leftOf_18 (fun m1 => ?_)
      refine x_iload_n (pc := 19) 1 dX12_leftOf_19 rfl rfl ?_
      refine x_join (P := fun (j3 : Int32 → Option Int32) => ∀ (a2 : Int32), X E cX12_leftOf m12_leftOf true (zQr E true eI r12_leftOf σ) 0 0 σ [(0, aR 12 (some 0)), (1, aI h1), (3, aI v3)] 40 [aI a2, aI v2] (j3 a2)) ?_ ?_
      · intro a2
        refine x_iadd (pc := 40) dX12_leftOf_40 ?_
        refine x_nameI (fun x5 => ?_)
        refine x_istore_n (pc := 41) (als' := [(2, aI x5), (0, aR 12 (some 0)), (1, aI h1), (3, aI v3)]) 2 dX12_leftOf_41 rfl (by decide) rfl ?_
        refine x_iinc (pc := 42) (als' := [(3, aI (v3 + 1)), (2, aI x5), (0, aR 12 (some 0)), (1, aI h1)]) 3 3 (c := 1) dX12_leftOf_42 rfl rfl (by decide) rfl ?_
        refine x_nameV (g := fun y7 => [(3, aI y7), (2, aI x5), (0, aR 12 (some 0)), (1, aI h1)]) (fun x6 => ?_) rfl
        refine x_goto (pc := 45) 4 dX12_leftOf_45 (by decide) ?_
        exact x_sub [2, 3, 1, 0] rfl (ih x5 x6)
      · intro j3 hj4
        refine x_join (P := fun (j8 : Option Int32) => X E cX12_leftOf m12_leftOf true (zQr E true eI r12_leftOf σ) 0 0 σ [(0, aR 12 (some 0)), (1, aI h1), (3, aI v3)] 39 [aI v2] j8) ?_ ?_
        ·
          refine x_iconst (pc := 39) 0 dX12_leftOf_39 rfl ?_
          exact hj4 0
        · intro j8 hj9
          refine x_icmp_ne (pc := 20) 39 dX12_leftOf_20 (by decide) (fun _ => ?_) (fun _ => ?_)
          ·
            exact x_sub [0, 1, 3] rfl (hj9)
          ·
            refine x_aload_n (pc := 23) 0 dX12_leftOf_23 rfl rfl ?_
            refine x_iload_n (pc := 24) 3 dX12_leftOf_24 rfl rfl ?_
            refine x_aload_n (pc := 25) 0 dX12_leftOf_25 rfl rfl ?_
            refine x_getI (pc := 26) fd_12_0 tk_1195 dX12_leftOf_26 ?_
            refine x_callVr (pc := 29) (as := [aI v3, aI (gI σ 12 0 0)]) (rest := [aI v2]) (fun l => c_12_isLeft l v3 (gI σ 12 0 0) σ) md_X12_isLeft ⟨_, _, rfl, by decide⟩ tk_1488 tp_55 tk_1486 dX12_leftOf_29 rfl ⟨by decide, by decide, by decide, by decide⟩ ⟨fun _ => rfl, fun _ => Or.inl rfl⟩ rfl (Nat.le_of_ble_eq_true rfl) (fun r10 => ?_)
            show X E _ _ _ _ 0 0 _ _ _ [aI r10, aI v2] _
            refine x_if_eq (pc := 32) 39 dX12_leftOf_32 (by decide) (fun _ => ?_) (fun _ => ?_)
            ·
              exact x_sub [0, 1, 3] rfl (hj9)
            ·
              refine x_iconst (pc := 35) 1 dX12_leftOf_35 rfl ?_
              refine x_goto (pc := 36) 40 dX12_leftOf_36 (by decide) ?_
              exact x_sub [0, 1, 3] rfl (hj4 1)
set_option maxRecDepth 20000 in
theorem x12_leftOf (E : zEn)  (v1 : Int32) (σ : zSt) : X E cX12_leftOf m12_leftOf true (zQr E true eI r12_leftOf σ) 0 0 σ [(0, aR 12 (some 0)), (1, aI v1)] 0 [] (f12_leftOf v1 σ) := by
  unfold f12_leftOf
  refine x_iconst (pc := 0) 0 dX12_leftOf_0 rfl ?_
  refine x_istore_n (pc := 1) (als' := [(2, aI 0), (0, aR 12 (some 0)), (1, aI v1)]) 2 dX12_leftOf_1 rfl (by decide) rfl ?_
  refine x_iconst (pc := 2) 0 dX12_leftOf_2 rfl ?_
  refine x_istore_n (pc := 3) (als' := [(3, aI 0), (2, aI 0), (0, aR 12 (some 0)), (1, aI v1)]) 3 dX12_leftOf_3 rfl (by decide) rfl ?_
  refine x_sub [2, 3, 1, 0] rfl (xl12_leftOf_4 E v1 σ zfuel 0 0)
theorem c_12_leftOf (l : Launch)  (v1 : Int32) (σ : zSt) : zMet l yX12_leftOf cX12_leftOf 4 (some .int) r12_leftOf true eI [aR 12 (some 0), aI v1] σ (zro (f12_leftOf v1 σ) σ) :=
  zMet_ofR [(0, aR 12 (some 0)), (1, aI v1)] (by decide +kernel) (fun h => by cases h) (Nat.le_of_ble_eq_true rfl) rfl fun E _ => x12_leftOf E  v1 σ
abbrev r12_falseOf : Room := { frames := 0, cells := 0, slots := 0, locals := 0 }
abbrev m12_falseOf : zMu := (RX12, 4, (some .int), r12_falseOf, false)
set_option maxRecDepth 20000 in
theorem xl12_falseOf_4 (E : zEn)   (h1 : Int32) (σ : zSt)   : ∀ (n : Nat) (v2 : Int32) (v3 : Int32), X E cX12_falseOf m12_falseOf true (zQr E true eI r12_falseOf σ) 0 0 σ [(0, aR 12 (some 0)), (1, aI h1), (2, aI v2), (3, aI v3)] 4 [] (f12_falseOf_L4 h1 σ n v2 v3) := by
  intro n
  induction n with
  | zero => intros; exact x_none
  | succ n ih =>
    intro v2 v3
    rw [f12_falseOf_L4]
    refine x_iload_n (pc := 4) 3 dX12_falseOf_4 rfl rfl ?_
    refine x_aload_n (pc := 5) 0 dX12_falseOf_5 rfl rfl ?_
    refine x_getI (pc := 6) fd_12_36 tk_1231 dX12_falseOf_6 ?_
    refine x_icmp_ge (pc := 9) 41 dX12_falseOf_9 (by decide) (fun _ => ?_) (fun _ => ?_)
    ·
      refine x_iload_n (pc := 41) 2 dX12_falseOf_41 rfl rfl ?_
      exact x_iret (rm := r12_falseOf) rfl rfl dX12_falseOf_42
    ·
      refine x_iload_n (pc := 12) 2 dX12_falseOf_12 rfl rfl ?_
      refine x_aload_n (pc := 13) 0 dX12_falseOf_13 rfl rfl ?_
      refine x_getF (pc := 14) (j := 0) fd_12_18 rfl rfl tk_1213 dX12_falseOf_14 ?_
      refine x_iload_n (pc := 17) 3 dX12_falseOf_17 rfl rfl ?_
      refine x_iald (pc := 18) ar_1318 dX12_falseOf_18 (fun m1 => ?_)
      refine x_iload_n (pc := 19) 1 dX12_falseOf_19 rfl rfl ?_
      refine x_join (P := fun (j3 : Int32 → Option Int32) => ∀ (a2 : Int32), X E cX12_falseOf m12_falseOf true (zQr E true eI r12_falseOf σ) 0 0 σ [(0, aR 12 (some 0)), (1, aI h1), (3, aI v3)] 33 [aI a2, aI v2] (j3 a2)) ?_ ?_
      · intro a2
        refine x_iadd (pc := 33) dX12_falseOf_33 ?_
        refine x_nameI (fun x5 => ?_)
        refine x_istore_n (pc := 34) (als' := [(2, aI x5), (0, aR 12 (some 0)), (1, aI h1), (3, aI v3)]) 2 dX12_falseOf_34 rfl (by decide) rfl ?_
        refine x_iinc (pc := 35) (als' := [(3, aI (v3 + 1)), (2, aI x5), (0, aR 12 (some 0)), (1, aI h1)]) 3 3 (c := 1) dX12_falseOf_35 rfl rfl (by decide) rfl ?_
        refine x_nameV (g := fun y7 => [(3, aI y7), (2, aI x5), (0, aR 12 (some 0)), (1, aI h1)]) (fun x6 => ?_) rfl
        refine x_goto (pc := 38) 4 dX12_falseOf_38 (by decide) ?_
        exact x_sub [2, 3, 1, 0] rfl (ih x5 x6)
      · intro j3 hj4
        refine x_icmp_ne (pc := 20) 32 dX12_falseOf_20 (by decide) (fun _ => ?_) (fun _ => ?_)
        ·
          refine x_iconst (pc := 32) 0 dX12_falseOf_32 rfl ?_
          exact x_sub [0, 1, 3] rfl (hj4 0)
        ·
          refine x_aload_n (pc := 23) 0 dX12_falseOf_23 rfl rfl ?_
          refine x_getF (pc := 24) (j := 0) fd_12_35 rfl rfl tk_1230 dX12_falseOf_24 ?_
          refine x_iload_n (pc := 27) 3 dX12_falseOf_27 rfl rfl ?_
          refine x_iald (pc := 28) ar_1335 dX12_falseOf_28 (fun m8 => ?_)
          refine x_goto (pc := 29) 33 dX12_falseOf_29 (by decide) ?_
          exact x_sub [0, 1, 3] rfl (hj4 (gI σ 1335 0 m8))
set_option maxRecDepth 20000 in
theorem x12_falseOf (E : zEn)  (v1 : Int32) (σ : zSt) : X E cX12_falseOf m12_falseOf true (zQr E true eI r12_falseOf σ) 0 0 σ [(0, aR 12 (some 0)), (1, aI v1)] 0 [] (f12_falseOf v1 σ) := by
  unfold f12_falseOf
  refine x_iconst (pc := 0) 0 dX12_falseOf_0 rfl ?_
  refine x_istore_n (pc := 1) (als' := [(2, aI 0), (0, aR 12 (some 0)), (1, aI v1)]) 2 dX12_falseOf_1 rfl (by decide) rfl ?_
  refine x_iconst (pc := 2) 0 dX12_falseOf_2 rfl ?_
  refine x_istore_n (pc := 3) (als' := [(3, aI 0), (2, aI 0), (0, aR 12 (some 0)), (1, aI v1)]) 3 dX12_falseOf_3 rfl (by decide) rfl ?_
  refine x_sub [2, 3, 1, 0] rfl (xl12_falseOf_4 E v1 σ zfuel 0 0)
theorem c_12_falseOf (l : Launch)  (v1 : Int32) (σ : zSt) : zMet l yX12_falseOf cX12_falseOf 4 (some .int) r12_falseOf true eI [aR 12 (some 0), aI v1] σ (zro (f12_falseOf v1 σ) σ) :=
  zMet_ofR [(0, aR 12 (some 0)), (1, aI v1)] (by decide +kernel) (fun h => by cases h) (Nat.le_of_ble_eq_true rfl) rfl fun E _ => x12_falseOf E  v1 σ
abbrev r12_promiseNow : Room := { frames := 0, cells := 0, slots := 0, locals := 0 }
abbrev m12_promiseNow : zMu := (RX12, 2, (some .int), r12_promiseNow, false)
set_option maxRecDepth 20000 in
theorem x12_promiseNow (E : zEn)  (v1 : Int32) (σ : zSt) : X E cX12_promiseNow m12_promiseNow true (zQr E true eI r12_promiseNow σ) 0 0 σ [(0, aR 12 (some 0)), (1, aI v1)] 0 [] (f12_promiseNow v1 σ) := by
  unfold f12_promiseNow
  refine x_aload_n (pc := 0) 0 dX12_promiseNow_0 rfl rfl ?_
  refine x_getF (pc := 1) (j := 0) fd_12_30 rfl rfl tk_1225 dX12_promiseNow_1 ?_
  refine x_iload_n (pc := 4) 1 dX12_promiseNow_4 rfl rfl ?_
  refine x_iald (pc := 5) ar_1330 dX12_promiseNow_5 (fun m1 => ?_)
  refine x_iconst (pc := 6) 1 dX12_promiseNow_6 rfl ?_
  refine x_join (P := fun (j2 : Option Int32) => X E cX12_promiseNow m12_promiseNow true (zQr E true eI r12_promiseNow σ) 0 0 σ [(0, aR 12 (some 0)), (1, aI v1)] 27 [] j2) ?_ ?_
  ·
    refine x_aload_n (pc := 27) 0 dX12_promiseNow_27 rfl rfl ?_
    refine x_getF (pc := 28) (j := 0) fd_12_30 rfl rfl tk_1225 dX12_promiseNow_28 ?_
    refine x_iload_n (pc := 31) 1 dX12_promiseNow_31 rfl rfl ?_
    refine x_iald (pc := 32) ar_1330 dX12_promiseNow_32 (fun m4 => ?_)
    exact x_iret (rm := r12_promiseNow) rfl rfl dX12_promiseNow_33
  · intro j2 hj3
    refine x_icmp_ne (pc := 7) 27 dX12_promiseNow_7 (by decide) (fun _ => ?_) (fun _ => ?_)
    ·
      exact hj3
    ·
      refine x_aload_n (pc := 10) 0 dX12_promiseNow_10 rfl rfl ?_
      refine x_getI (pc := 11) fd_12_0 tk_1195 dX12_promiseNow_11 ?_
      refine x_aload_n (pc := 14) 0 dX12_promiseNow_14 rfl rfl ?_
      refine x_getF (pc := 15) (j := 0) fd_12_31 rfl rfl tk_1226 dX12_promiseNow_15 ?_
      refine x_iload_n (pc := 18) 1 dX12_promiseNow_18 rfl rfl ?_
      refine x_iald (pc := 19) ar_1331 dX12_promiseNow_19 (fun m5 => ?_)
      refine x_icmp_le (pc := 20) 27 dX12_promiseNow_20 (by decide) (fun _ => ?_) (fun _ => ?_)
      ·
        exact hj3
      ·
        refine x_iconst (pc := 23) 3 dX12_promiseNow_23 rfl ?_
        refine x_goto (pc := 24) 33 dX12_promiseNow_24 (by decide) ?_
        exact x_iret (rm := r12_promiseNow) rfl rfl dX12_promiseNow_33
theorem c_12_promiseNow (l : Launch)  (v1 : Int32) (σ : zSt) : zMet l yX12_promiseNow cX12_promiseNow 2 (some .int) r12_promiseNow true eI [aR 12 (some 0), aI v1] σ (zro (f12_promiseNow v1 σ) σ) :=
  zMet_ofR [(0, aR 12 (some 0)), (1, aI v1)] (by decide +kernel) (fun h => by cases h) (Nat.le_of_ble_eq_true rfl) rfl fun E _ => x12_promiseNow E  v1 σ
abbrev r12_brokenOf : Room := { frames := 1, cells := 0, slots := 0, locals := 21 }
abbrev m12_brokenOf : zMu := (RX12, 4, (some .int), r12_brokenOf, false)
set_option maxRecDepth 20000 in
theorem xl12_brokenOf_4 (E : zEn)   (h1 : Int32) (σ : zSt)   : ∀ (n : Nat) (v2 : Int32) (v3 : Int32), X E cX12_brokenOf m12_brokenOf true (zQr E true eI r12_brokenOf σ) 0 0 σ [(0, aR 12 (some 0)), (1, aI h1), (2, aI v2), (3, aI v3)] 4 [] (f12_brokenOf_L4 h1 σ n v2 v3) := by
  intro n
  induction n with
  | zero => intros; exact x_none
  | succ n ih =>
    intro v2 v3
    rw [f12_brokenOf_L4]
    refine x_iload_n (pc := 4) 3 dX12_brokenOf_4 rfl rfl ?_
    refine x_aload_n (pc := 5) 0 dX12_brokenOf_5 rfl rfl ?_
    refine x_getI (pc := 6) fd_12_36 tk_1231 dX12_brokenOf_6 ?_
    refine x_icmp_ge (pc := 9) 56 dX12_brokenOf_9 (by decide) (fun _ => ?_) (fun _ => ?_)
    ·
      refine x_iload_n (pc := 56) 2 dX12_brokenOf_56 rfl rfl ?_
      exact x_iret (rm := r12_brokenOf) rfl rfl dX12_brokenOf_57
    ·
      refine x_iload_n (pc := 12) 2 dX12_brokenOf_12 rfl rfl ?_
      refine x_aload_n (pc := 13) 0 dX12_brokenOf_13 rfl rfl ?_
      refine x_getF (pc := 14) (j := 0) fd_12_18 rfl rfl tk_1213 dX12_brokenOf_14 ?_
      refine x_iload_n (pc := 17) 3 dX12_brokenOf_17 rfl rfl ?_
      refine x_iald (pc := 18) ar_1318 dX12_brokenOf_18 (fun m1 => ?_)
      refine x_iload_n (pc := 19) 1 dX12_brokenOf_19 rfl rfl ?_
      refine x_join (P := fun (j3 : Int32 → Option Int32) => ∀ (a2 : Int32), X E cX12_brokenOf m12_brokenOf true (zQr E true eI r12_brokenOf σ) 0 0 σ [(0, aR 12 (some 0)), (1, aI h1), (3, aI v3)] 48 [aI a2, aI v2] (j3 a2)) ?_ ?_
      · intro a2
        refine x_iadd (pc := 48) dX12_brokenOf_48 ?_
        refine x_nameI (fun x5 => ?_)
        refine x_istore_n (pc := 49) (als' := [(2, aI x5), (0, aR 12 (some 0)), (1, aI h1), (3, aI v3)]) 2 dX12_brokenOf_49 rfl (by decide) rfl ?_
        refine x_iinc (pc := 50) (als' := [(3, aI (v3 + 1)), (2, aI x5), (0, aR 12 (some 0)), (1, aI h1)]) 3 3 (c := 1) dX12_brokenOf_50 rfl rfl (by decide) rfl ?_
        refine x_nameV (g := fun y7 => [(3, aI y7), (2, aI x5), (0, aR 12 (some 0)), (1, aI h1)]) (fun x6 => ?_) rfl
        refine x_goto (pc := 53) 4 dX12_brokenOf_53 (by decide) ?_
        exact x_sub [2, 3, 1, 0] rfl (ih x5 x6)
      · intro j3 hj4
        refine x_icmp_ne (pc := 20) 47 dX12_brokenOf_20 (by decide) (fun _ => ?_) (fun _ => ?_)
        ·
          refine x_iconst (pc := 47) 0 dX12_brokenOf_47 rfl ?_
          exact x_sub [0, 1, 3] rfl (hj4 0)
        ·
          refine x_aload_n (pc := 23) 0 dX12_brokenOf_23 rfl rfl ?_
          refine x_getF (pc := 24) (j := 0) fd_12_33 rfl rfl tk_1228 dX12_brokenOf_24 ?_
          refine x_iload_n (pc := 27) 3 dX12_brokenOf_27 rfl rfl ?_
          refine x_iald (pc := 28) ar_1333 dX12_brokenOf_28 (fun m8 => ?_)
          refine x_aload_n (pc := 29) 0 dX12_brokenOf_29 rfl rfl ?_
          refine x_iload_n (pc := 30) 3 dX12_brokenOf_30 rfl rfl ?_
          refine x_callVr (pc := 31) (as := [aI v3]) (rest := [aI (gI σ 1333 0 m8), aI v2]) (fun l => c_12_promiseNow l v3 σ) md_X12_promiseNow ⟨_, _, rfl, by decide⟩ tk_1504 tp_59 tk_1502 dX12_brokenOf_31 rfl ⟨by decide, by decide, by decide, by decide⟩ ⟨fun _ => rfl, fun _ => Or.inl rfl⟩ rfl (Nat.le_of_ble_eq_true rfl) (fun r9 => ?_)
          show X E _ _ _ _ 0 0 _ _ _ [aI r9, aI (gI σ 1333 0 m8), aI v2] _
          refine x_iconst (pc := 34) 3 dX12_brokenOf_34 rfl ?_
          refine x_mg (c := r9 = 3) (a := 1) (b := 0) 43 [aI (gI σ 1333 0 m8), aI v2] ?_ (fun hm10 => ?_)
          ·
            refine x_iadd (pc := 43) dX12_brokenOf_43 ?_
            refine x_goto (pc := 44) 48 dX12_brokenOf_44 (by decide) ?_
            exact x_sub [0, 1, 3] rfl (hj4 ((gI σ 1333 0 m8) + (if r9 = 3 then 1 else 0)))
          ·
            refine x_same (c := r9 = 3) ?_
            refine x_icmp_ne (pc := 35) 42 dX12_brokenOf_35 (by decide) (fun hc11 => ?_) (fun hc11 => ?_)
            ·
              have hm13 := x_topF hc11 hm10
              refine x_iconst (pc := 42) 0 dX12_brokenOf_42 rfl ?_
              exact hm13
            ·
              have hm12 := x_topT hc11 hm10
              refine x_iconst (pc := 38) 1 dX12_brokenOf_38 rfl ?_
              refine x_goto (pc := 39) 43 dX12_brokenOf_39 (by decide) ?_
              exact hm12
set_option maxRecDepth 20000 in
theorem x12_brokenOf (E : zEn)  (v1 : Int32) (σ : zSt) : X E cX12_brokenOf m12_brokenOf true (zQr E true eI r12_brokenOf σ) 0 0 σ [(0, aR 12 (some 0)), (1, aI v1)] 0 [] (f12_brokenOf v1 σ) := by
  unfold f12_brokenOf
  refine x_iconst (pc := 0) 0 dX12_brokenOf_0 rfl ?_
  refine x_istore_n (pc := 1) (als' := [(2, aI 0), (0, aR 12 (some 0)), (1, aI v1)]) 2 dX12_brokenOf_1 rfl (by decide) rfl ?_
  refine x_iconst (pc := 2) 0 dX12_brokenOf_2 rfl ?_
  refine x_istore_n (pc := 3) (als' := [(3, aI 0), (2, aI 0), (0, aR 12 (some 0)), (1, aI v1)]) 3 dX12_brokenOf_3 rfl (by decide) rfl ?_
  refine x_sub [2, 3, 1, 0] rfl (xl12_brokenOf_4 E v1 σ zfuel 0 0)
theorem c_12_brokenOf (l : Launch)  (v1 : Int32) (σ : zSt) : zMet l yX12_brokenOf cX12_brokenOf 4 (some .int) r12_brokenOf true eI [aR 12 (some 0), aI v1] σ (zro (f12_brokenOf v1 σ) σ) :=
  zMet_ofR [(0, aR 12 (some 0)), (1, aI v1)] (by decide +kernel) (fun h => by cases h) (Nat.le_of_ble_eq_true rfl) rfl fun E _ => x12_brokenOf E  v1 σ
abbrev r12_ofHome : Room := { frames := 3, cells := 0, slots := 0, locals := 70 }
abbrev m12_ofHome : zMu := (RX12, 5, (some .int), r12_ofHome, false)
set_option maxRecDepth 20000 in
theorem xl12_ofHome_123 (E : zEn)   (h1 : Int32) (σ : zSt)   : ∀ (n : Nat) (v3 : Int32) (v4 : Int32), X E cX12_ofHome m12_ofHome true (zQr E true eI r12_ofHome σ) 0 0 σ [(0, aR 12 (some 0)), (1, aI h1), (3, aI v3), (4, aI v4)] 123 [] (f12_ofHome_L123 h1 σ n v3 v4) := by
  intro n
  induction n with
  | zero => intros; exact x_none
  | succ n ih =>
    intro v3 v4
    rw [f12_ofHome_L123]
    refine x_iload (pc := 123) 4 dX12_ofHome_123 rfl ?_
    refine x_aload_n (pc := 125) 0 dX12_ofHome_125 rfl rfl ?_
    refine x_getI (pc := 126) fd_12_36 tk_1231 dX12_ofHome_126 ?_
    refine x_icmp_ge (pc := 129) 157 dX12_ofHome_129 (by decide) (fun _ => ?_) (fun _ => ?_)
    ·
      refine x_iload_n (pc := 157) 3 dX12_ofHome_157 rfl rfl ?_
      exact x_iret (rm := r12_ofHome) rfl rfl dX12_ofHome_158
    ·
      refine x_iload_n (pc := 132) 3 dX12_ofHome_132 rfl rfl ?_
      refine x_aload_n (pc := 133) 0 dX12_ofHome_133 rfl rfl ?_
      refine x_getF (pc := 134) (j := 0) fd_12_18 rfl rfl tk_1213 dX12_ofHome_134 ?_
      refine x_iload (pc := 137) 4 dX12_ofHome_137 rfl ?_
      refine x_iald (pc := 139) ar_1318 dX12_ofHome_139 (fun m17 => ?_)
      refine x_iload_n (pc := 140) 1 dX12_ofHome_140 rfl rfl ?_
      refine x_mg (c := (gI σ 1318 0 m17) = h1) (a := 1) (b := 0) 149 [aI v3] ?_ (fun hm18 => ?_)
      ·
        refine x_iadd (pc := 149) dX12_ofHome_149 ?_
        refine x_nameI (fun x22 => ?_)
        refine x_istore_n (pc := 150) (als' := [(3, aI x22), (0, aR 12 (some 0)), (1, aI h1), (4, aI v4)]) 3 dX12_ofHome_150 rfl (by decide) rfl ?_
        refine x_iinc (pc := 151) (als' := [(4, aI (v4 + 1)), (3, aI x22), (0, aR 12 (some 0)), (1, aI h1)]) 4 3 (c := 1) dX12_ofHome_151 rfl rfl (by decide) rfl ?_
        refine x_nameV (g := fun y24 => [(4, aI y24), (3, aI x22), (0, aR 12 (some 0)), (1, aI h1)]) (fun x23 => ?_) rfl
        refine x_goto (pc := 154) 123 dX12_ofHome_154 (by decide) ?_
        exact x_sub [2, 3, 1, 0] rfl (ih x22 x23)
      ·
        refine x_same (c := (gI σ 1318 0 m17) = h1) ?_
        refine x_icmp_ne (pc := 141) 148 dX12_ofHome_141 (by decide) (fun hc19 => ?_) (fun hc19 => ?_)
        ·
          have hm21 := x_topF hc19 hm18
          refine x_iconst (pc := 148) 0 dX12_ofHome_148 rfl ?_
          exact hm21
        ·
          have hm20 := x_topT hc19 hm18
          refine x_iconst (pc := 144) 1 dX12_ofHome_144 rfl ?_
          refine x_goto (pc := 145) 149 dX12_ofHome_145 (by decide) ?_
          exact hm20
set_option maxRecDepth 20000 in
theorem x12_ofHome (E : zEn)  (v1 : Int32) (v2 : Int32) (σ : zSt) : X E cX12_ofHome m12_ofHome true (zQr E true eI r12_ofHome σ) 0 0 σ [(0, aR 12 (some 0)), (1, aI v1), (2, aI v2)] 0 [] (f12_ofHome v1 v2 σ) := by
  unfold f12_ofHome
  refine x_aload_n (pc := 0) 0 dX12_ofHome_0 rfl rfl ?_
  refine x_iload_n (pc := 1) 1 dX12_ofHome_1 rfl rfl ?_
  refine x_callVr (pc := 2) (as := [aI v1]) (rest := []) (fun l => c_12_isHome l true v1 σ) md_X12_isHome ⟨_, _, rfl, by decide⟩ tk_1459 tp_53 tk_1457 dX12_ofHome_2 rfl ⟨by decide, by decide, by decide, by decide⟩ ⟨fun _ => rfl, fun _ => Or.inl rfl⟩ rfl (Nat.le_of_ble_eq_true rfl) (fun r1 => ?_)
  show X E _ _ _ _ 0 0 _ _ _ [aI r1] _
  refine x_if_ne (pc := 5) 10 dX12_ofHome_5 (by decide) (fun _ => ?_) (fun _ => ?_)
  ·
    refine x_iload_n (pc := 10) 2 dX12_ofHome_10 rfl rfl ?_
    refine x_table (pc := 11) dX12_ofHome_11 (by decide) (fun tg2 ht3 => ?_) (fun x => ?_)
    ·
      refine x_ite (fun hc4 => ?_) (fun hc4 => ?_)
      ·
        obtain rfl : tg2 = 76 := zsw_at hc4 ht3 (by decide)
        refine x_aload_n (pc := 76) 0 dX12_ofHome_76 rfl rfl ?_
        refine x_getF (pc := 77) (j := 0) fd_12_1 rfl rfl tk_1196 dX12_ofHome_77 ?_
        refine x_iload_n (pc := 80) 1 dX12_ofHome_80 rfl rfl ?_
        refine x_iald (pc := 81) ar_1301 dX12_ofHome_81 (fun m5 => ?_)
        exact x_iret (rm := r12_ofHome) rfl rfl dX12_ofHome_82
      ·
        refine x_ite (fun hc6 => ?_) (fun hc6 => ?_)
        ·
          obtain rfl : tg2 = 83 := zsw_at hc6 ht3 (by decide)
          refine x_aload_n (pc := 83) 0 dX12_ofHome_83 rfl rfl ?_
          refine x_getF (pc := 84) (j := 0) fd_12_2 rfl rfl tk_1197 dX12_ofHome_84 ?_
          refine x_iload_n (pc := 87) 1 dX12_ofHome_87 rfl rfl ?_
          refine x_iald (pc := 88) ar_1302 dX12_ofHome_88 (fun m7 => ?_)
          exact x_iret (rm := r12_ofHome) rfl rfl dX12_ofHome_89
        ·
          refine x_ite (fun hc8 => ?_) (fun hc8 => ?_)
          ·
            obtain rfl : tg2 = 90 := zsw_at hc8 ht3 (by decide)
            refine x_aload_n (pc := 90) 0 dX12_ofHome_90 rfl rfl ?_
            refine x_getF (pc := 91) (j := 0) fd_12_3 rfl rfl tk_1198 dX12_ofHome_91 ?_
            refine x_iload_n (pc := 94) 1 dX12_ofHome_94 rfl rfl ?_
            refine x_iald (pc := 95) ar_1303 dX12_ofHome_95 (fun m9 => ?_)
            exact x_iret (rm := r12_ofHome) rfl rfl dX12_ofHome_96
          ·
            refine x_ite (fun hc10 => ?_) (fun hc10 => ?_)
            ·
              obtain rfl : tg2 = 97 := zsw_at hc10 ht3 (by decide)
              refine x_aload_n (pc := 97) 0 dX12_ofHome_97 rfl rfl ?_
              refine x_getF (pc := 98) (j := 0) fd_12_4 rfl rfl tk_1199 dX12_ofHome_98 ?_
              refine x_iload_n (pc := 101) 1 dX12_ofHome_101 rfl rfl ?_
              refine x_iald (pc := 102) ar_1304 dX12_ofHome_102 (fun m11 => ?_)
              exact x_iret (rm := r12_ofHome) rfl rfl dX12_ofHome_103
            ·
              refine x_ite (fun hc12 => ?_) (fun hc12 => ?_)
              ·
                obtain rfl : tg2 = 104 := zsw_at hc12 ht3 (by decide)
                refine x_aload_n (pc := 104) 0 dX12_ofHome_104 rfl rfl ?_
                refine x_getF (pc := 105) (j := 0) fd_12_5 rfl rfl tk_1200 dX12_ofHome_105 ?_
                refine x_iload_n (pc := 108) 1 dX12_ofHome_108 rfl rfl ?_
                refine x_iald (pc := 109) ar_1305 dX12_ofHome_109 (fun m13 => ?_)
                exact x_iret (rm := r12_ofHome) rfl rfl dX12_ofHome_110
              ·
                refine x_ite (fun hc14 => ?_) (fun hc14 => ?_)
                ·
                  obtain rfl : tg2 = 111 := zsw_at hc14 ht3 (by decide)
                  refine x_aload_n (pc := 111) 0 dX12_ofHome_111 rfl rfl ?_
                  refine x_getF (pc := 112) (j := 0) fd_12_7 rfl rfl tk_1202 dX12_ofHome_112 ?_
                  refine x_iload_n (pc := 115) 1 dX12_ofHome_115 rfl rfl ?_
                  refine x_iald (pc := 116) ar_1307 dX12_ofHome_116 (fun m15 => ?_)
                  exact x_iret (rm := r12_ofHome) rfl rfl dX12_ofHome_117
                ·
                  refine x_ite (fun hc16 => ?_) (fun hc16 => ?_)
                  ·
                    obtain rfl : tg2 = 118 := zsw_at hc16 ht3 (by decide)
                    refine x_iconst (pc := 118) 0 dX12_ofHome_118 rfl ?_
                    refine x_istore_n (pc := 119) (als' := [(3, aI 0), (0, aR 12 (some 0)), (1, aI v1), (2, aI v2)]) 3 dX12_ofHome_119 rfl (by decide) rfl ?_
                    refine x_iconst (pc := 120) 0 dX12_ofHome_120 rfl ?_
                    refine x_istore (pc := 121) (als' := [(4, aI 0), (3, aI 0), (0, aR 12 (some 0)), (1, aI v1), (2, aI v2)]) 4 dX12_ofHome_121 (by decide) rfl ?_
                    refine x_sub [2, 3, 1, 0] rfl (xl12_ofHome_123 E v1 σ zfuel 0 0)
                  ·
                    refine x_ite (fun hc25 => ?_) (fun hc25 => ?_)
                    ·
                      obtain rfl : tg2 = 159 := zsw_at hc25 ht3 (by decide)
                      refine x_aload_n (pc := 159) 0 dX12_ofHome_159 rfl rfl ?_
                      refine x_iload_n (pc := 160) 1 dX12_ofHome_160 rfl rfl ?_
                      refine x_callVr (pc := 161) (as := [aI v1]) (rest := []) (fun l => c_12_leftOf l v1 σ) md_X12_leftOf ⟨_, _, rfl, by decide⟩ tk_1484 tp_54 tk_1482 dX12_ofHome_161 rfl ⟨by decide, by decide, by decide, by decide⟩ ⟨fun _ => rfl, fun _ => Or.inl rfl⟩ rfl (Nat.le_of_ble_eq_true rfl) (fun r26 => ?_)
                      show X E _ _ _ _ 0 0 _ _ _ [aI r26] _
                      exact x_iret (rm := r12_ofHome) rfl rfl dX12_ofHome_164
                    ·
                      refine x_ite (fun hc27 => ?_) (fun hc27 => ?_)
                      ·
                        obtain rfl : tg2 = 165 := zsw_at hc27 ht3 (by decide)
                        refine x_aload_n (pc := 165) 0 dX12_ofHome_165 rfl rfl ?_
                        refine x_iload_n (pc := 166) 1 dX12_ofHome_166 rfl rfl ?_
                        refine x_callVr (pc := 167) (as := [aI v1]) (rest := []) (fun l => c_12_falseOf l v1 σ) md_X12_falseOf ⟨_, _, rfl, by decide⟩ tk_1496 tp_57 tk_1494 dX12_ofHome_167 rfl ⟨by decide, by decide, by decide, by decide⟩ ⟨fun _ => rfl, fun _ => Or.inl rfl⟩ rfl (Nat.le_of_ble_eq_true rfl) (fun r28 => ?_)
                        show X E _ _ _ _ 0 0 _ _ _ [aI r28] _
                        exact x_iret (rm := r12_ofHome) rfl rfl dX12_ofHome_170
                      ·
                        refine x_ite (fun hc29 => ?_) (fun hc29 => ?_)
                        ·
                          obtain rfl : tg2 = 171 := zsw_at hc29 ht3 (by decide)
                          refine x_aload_n (pc := 171) 0 dX12_ofHome_171 rfl rfl ?_
                          refine x_iload_n (pc := 172) 1 dX12_ofHome_172 rfl rfl ?_
                          refine x_callVr (pc := 173) (as := [aI v1]) (rest := []) (fun l => c_12_brokenOf l v1 σ) md_X12_brokenOf ⟨_, _, rfl, by decide⟩ tk_1500 tp_58 tk_1498 dX12_ofHome_173 rfl ⟨by decide, by decide, by decide, by decide⟩ ⟨fun _ => rfl, fun _ => Or.inl rfl⟩ rfl (Nat.le_of_ble_eq_true rfl) (fun r30 => ?_)
                          show X E _ _ _ _ 0 0 _ _ _ [aI r30] _
                          exact x_iret (rm := r12_ofHome) rfl rfl dX12_ofHome_176
                        ·
                          refine x_ite (fun hc31 => ?_) (fun hc31 => ?_)
                          ·
                            obtain rfl : tg2 = 177 := zsw_at hc31 ht3 (by decide)
                            refine x_aload_n (pc := 177) 0 dX12_ofHome_177 rfl rfl ?_
                            refine x_getF (pc := 178) (j := 0) fd_12_10 rfl rfl tk_1205 dX12_ofHome_178 ?_
                            refine x_iload_n (pc := 181) 1 dX12_ofHome_181 rfl rfl ?_
                            refine x_iald (pc := 182) ar_1310 dX12_ofHome_182 (fun m32 => ?_)
                            exact x_iret (rm := r12_ofHome) rfl rfl dX12_ofHome_183
                          ·
                            refine x_ite (fun hc33 => ?_) (fun hc33 => ?_)
                            ·
                              obtain rfl : tg2 = 184 := zsw_at hc33 ht3 (by decide)
                              refine x_aload_n (pc := 184) 0 dX12_ofHome_184 rfl rfl ?_
                              refine x_getF (pc := 185) (j := 0) fd_12_11 rfl rfl tk_1206 dX12_ofHome_185 ?_
                              refine x_iload_n (pc := 188) 1 dX12_ofHome_188 rfl rfl ?_
                              refine x_iald (pc := 189) ar_1311 dX12_ofHome_189 (fun m34 => ?_)
                              exact x_iret (rm := r12_ofHome) rfl rfl dX12_ofHome_190
                            ·
                              refine x_ite (fun hc35 => ?_) (fun hc35 => ?_)
                              ·
                                obtain rfl : tg2 = 191 := zsw_at hc35 ht3 (by decide)
                                refine x_aload_n (pc := 191) 0 dX12_ofHome_191 rfl rfl ?_
                                refine x_getF (pc := 192) (j := 0) fd_12_12 rfl rfl tk_1207 dX12_ofHome_192 ?_
                                refine x_iload_n (pc := 195) 1 dX12_ofHome_195 rfl rfl ?_
                                refine x_iald (pc := 196) ar_1312 dX12_ofHome_196 (fun m36 => ?_)
                                exact x_iret (rm := r12_ofHome) rfl rfl dX12_ofHome_197
                              ·
                                obtain rfl : tg2 = 198 := zswd_at (cs := [0, 1, 2, 3, 4, 5, 6, 7, 8, 9, 10, 11, 12]) ht3 (by decide) (by simp only [List.mem_cons, List.not_mem_nil, or_false, not_or]; exact ⟨hc4, hc6, hc8, hc10, hc12, hc14, hc16, hc25, hc27, hc29, hc31, hc33, hc35⟩) (by decide)
                                refine x_iconst (pc := 198) (-1) dX12_ofHome_198 rfl ?_
                                exact x_iret (rm := r12_ofHome) rfl rfl dX12_ofHome_199
    · exact ztoff_pos (by decide) (by decide) x
  ·
    refine x_iconst (pc := 8) (-1) dX12_ofHome_8 rfl ?_
    exact x_iret (rm := r12_ofHome) rfl rfl dX12_ofHome_9
theorem c_12_ofHome (l : Launch)  (v1 : Int32) (v2 : Int32) (σ : zSt) : zMet l yX12_ofHome cX12_ofHome 5 (some .int) r12_ofHome true eI [aR 12 (some 0), aI v1, aI v2] σ (zro (f12_ofHome v1 v2 σ) σ) :=
  zMet_ofR [(0, aR 12 (some 0)), (1, aI v1), (2, aI v2)] (by decide +kernel) (fun h => by cases h) (Nat.le_of_ble_eq_true rfl) rfl fun E _ => x12_ofHome E  v1 v2 σ
abbrev r12_kind : Room := { frames := 2, cells := 0, slots := 0, locals := 42 }
abbrev m12_kind : zMu := (RX12, 4, (some .int), r12_kind, false)
set_option maxRecDepth 20000 in
theorem x12_kind (E : zEn)  (v1 : Int32) (v2 : Int32) (v3 : Int32) (σ : zSt) : X E cX12_kind m12_kind true (zQw E true eI r12_kind) 0 0 σ [(0, aR 12 (some 0)), (1, aI v1), (2, aI v2), (3, aI v3)] 0 [] (f12_kind v1 v2 v3 σ) := by
  unfold f12_kind
  refine x_iload_n (pc := 0) 1 dX12_kind_0 rfl rfl ?_
  refine x_callSr (pc := 1) (as := [aI v1]) (rest := []) (fun l => c_12_isTrade l true v1 σ) md_X12_isTrade tk_1475 tk_1474 dX12_kind_1 rfl ⟨by decide, by decide, by decide, by decide⟩ ⟨fun _ => rfl, fun _ => Or.inl rfl⟩ rfl (Nat.le_of_ble_eq_true rfl) (fun r1 => ?_)
  show X E _ _ _ _ 0 0 _ _ _ [aI r1] _
  refine x_if_eq (pc := 4) 28 dX12_kind_4 (by decide) (fun _ => ?_) (fun _ => ?_)
  ·
    refine x_iconst (pc := 28) (-1) dX12_kind_28 rfl ?_
    exact x_iret (rm := r12_kind) rfl rfl dX12_kind_29
  ·
    refine x_iload_n (pc := 7) 2 dX12_kind_7 rfl rfl ?_
    refine x_iconst (pc := 8) 1 dX12_kind_8 rfl ?_
    refine x_sipush (pc := 9) 999 dX12_kind_9 rfl ?_
    refine x_callSr (pc := 12) (as := [aI v2, aI 1, aI 999]) (rest := []) (fun l => c_12_within l true v2 1 999 σ) md_X12_within tk_1447 tk_1446 dX12_kind_12 rfl ⟨by decide, by decide, by decide, by decide⟩ ⟨fun _ => rfl, fun _ => Or.inl rfl⟩ rfl (Nat.le_of_ble_eq_true rfl) (fun r2 => ?_)
    show X E _ _ _ _ 0 0 _ _ _ [aI r2] _
    refine x_if_eq (pc := 15) 28 dX12_kind_15 (by decide) (fun _ => ?_) (fun _ => ?_)
    ·
      refine x_iconst (pc := 28) (-1) dX12_kind_28 rfl ?_
      exact x_iret (rm := r12_kind) rfl rfl dX12_kind_29
    ·
      refine x_iload_n (pc := 18) 3 dX12_kind_18 rfl rfl ?_
      refine x_iconst (pc := 19) 0 dX12_kind_19 rfl ?_
      refine x_bipush (pc := 20) 7 dX12_kind_20 rfl ?_
      refine x_callSr (pc := 22) (as := [aI v3, aI 0, aI 7]) (rest := []) (fun l => c_12_within l true v3 0 7 σ) md_X12_within tk_1447 tk_1446 dX12_kind_22 rfl ⟨by decide, by decide, by decide, by decide⟩ ⟨fun _ => rfl, fun _ => Or.inl rfl⟩ rfl (Nat.le_of_ble_eq_true rfl) (fun r3 => ?_)
      show X E _ _ _ _ 0 0 _ _ _ [aI r3] _
      refine x_if_ne (pc := 25) 30 dX12_kind_25 (by decide) (fun _ => ?_) (fun _ => ?_)
      ·
        refine x_aload_n (pc := 30) 0 dX12_kind_30 rfl rfl ?_
        refine x_getI (pc := 31) fd_12_17 tk_1212 dX12_kind_31 ?_
        refine x_bipush (pc := 34) 20 dX12_kind_34 rfl ?_
        refine x_icmp_ne (pc := 36) 42 dX12_kind_36 (by decide) (fun _ => ?_) (fun _ => ?_)
        ·
          refine x_aload_n (pc := 42) 0 dX12_kind_42 rfl rfl ?_
          refine x_getF (pc := 43) (j := 0) fd_12_14 rfl rfl tk_1209 dX12_kind_43 ?_
          refine x_aload_n (pc := 46) 0 dX12_kind_46 rfl rfl ?_
          refine x_getI (pc := 47) fd_12_17 tk_1212 dX12_kind_47 ?_
          refine x_iload_n (pc := 50) 1 dX12_kind_50 rfl rfl ?_
          refine x_iast (pc := 51) ar_1314 dX12_kind_51 (fun m4 => ?_)
          refine x_nameS (fun s5 => ?_)
          refine x_aload_n (pc := 52) 0 dX12_kind_52 rfl rfl ?_
          refine x_getF (pc := 53) (j := 0) fd_12_15 rfl rfl tk_1210 dX12_kind_53 ?_
          refine x_aload_n (pc := 56) 0 dX12_kind_56 rfl rfl ?_
          refine x_getI (pc := 57) fd_12_17 tk_1212 dX12_kind_57 ?_
          refine x_iload_n (pc := 60) 2 dX12_kind_60 rfl rfl ?_
          refine x_iast (pc := 61) ar_1315 dX12_kind_61 (fun m6 => ?_)
          refine x_nameS (fun s7 => ?_)
          refine x_aload_n (pc := 62) 0 dX12_kind_62 rfl rfl ?_
          refine x_getF (pc := 63) (j := 0) fd_12_16 rfl rfl tk_1211 dX12_kind_63 ?_
          refine x_aload_n (pc := 66) 0 dX12_kind_66 rfl rfl ?_
          refine x_getI (pc := 67) fd_12_17 tk_1212 dX12_kind_67 ?_
          refine x_iload_n (pc := 70) 3 dX12_kind_70 rfl rfl ?_
          refine x_iast (pc := 71) ar_1316 dX12_kind_71 (fun m8 => ?_)
          refine x_nameS (fun s9 => ?_)
          refine x_aload_n (pc := 72) 0 dX12_kind_72 rfl rfl ?_
          refine x_dup (pc := 73) dX12_kind_73 rfl ?_
          refine x_getI (pc := 74) fd_12_17 tk_1212 dX12_kind_74 ?_
          refine x_iconst (pc := 77) 1 dX12_kind_77 rfl ?_
          refine x_iadd (pc := 78) dX12_kind_78 ?_
          refine x_putI (pc := 79) fd_12_17 pt_12_17 tk_1212 dX12_kind_79 (Or.inl rfl) ?_
          refine x_nameS (fun s10 => ?_)
          refine x_aload_n (pc := 82) 0 dX12_kind_82 rfl rfl ?_
          refine x_getI (pc := 83) fd_12_17 tk_1212 dX12_kind_83 ?_
          refine x_iconst (pc := 86) 1 dX12_kind_86 rfl ?_
          refine x_isub (pc := 87) dX12_kind_87 ?_
          exact x_iret (rm := r12_kind) rfl rfl dX12_kind_88
        ·
          refine x_bipush (pc := 39) (-2) dX12_kind_39 rfl ?_
          exact x_iret (rm := r12_kind) rfl rfl dX12_kind_41
      ·
        refine x_iconst (pc := 28) (-1) dX12_kind_28 rfl ?_
        exact x_iret (rm := r12_kind) rfl rfl dX12_kind_29
theorem c_12_kind (l : Launch)  (v1 : Int32) (v2 : Int32) (v3 : Int32) (σ : zSt) : zMet l yX12_kind cX12_kind 4 (some .int) r12_kind true eI [aR 12 (some 0), aI v1, aI v2, aI v3] σ (f12_kind v1 v2 v3 σ) :=
  zMet_of [(0, aR 12 (some 0)), (1, aI v1), (2, aI v2), (3, aI v3)] (by decide +kernel) (fun h => by cases h) (Nat.le_of_ble_eq_true rfl) rfl fun E _ => x12_kind E  v1 v2 v3 σ
abbrev r12_become : Room := { frames := 0, cells := 0, slots := 0, locals := 0 }
abbrev m12_become : zMu := (RX12, 5, none, r12_become, false)
set_option maxRecDepth 20000 in
theorem x12_become (E : zEn)  (v1 : Int32) (v2 : Int32) (v3 : Int32) (σ : zSt) : X E cX12_become m12_become true (zQw E true eV r12_become) 0 0 σ [(0, aR 12 (some 0)), (1, aI v1), (2, aI v2), (3, aI v3)] 0 [] (f12_become v1 v2 v3 σ) := by
  unfold f12_become
  refine x_bipush (pc := 0) 30 dX12_become_0 rfl ?_
  refine x_iload_n (pc := 2) 1 dX12_become_2 rfl rfl ?_
  refine x_imul (pc := 3) dX12_become_3 ?_
  refine x_aload_n (pc := 4) 0 dX12_become_4 rfl rfl ?_
  refine x_getF (pc := 5) (j := 0) fd_12_29 rfl rfl tk_1224 dX12_become_5 ?_
  refine x_iload_n (pc := 8) 1 dX12_become_8 rfl rfl ?_
  refine x_iald (pc := 9) ar_1329 dX12_become_9 (fun m1 => ?_)
  refine x_iadd (pc := 10) dX12_become_10 ?_
  refine x_nameI (fun x2 => ?_)
  refine x_istore (pc := 11) (als' := [(4, aI x2), (0, aR 12 (some 0)), (1, aI v1), (2, aI v2), (3, aI v3)]) 4 dX12_become_11 (by decide) rfl ?_
  refine x_aload_n (pc := 13) 0 dX12_become_13 rfl rfl ?_
  refine x_getF (pc := 14) (j := 0) fd_12_26 rfl rfl tk_1221 dX12_become_14 ?_
  refine x_iload (pc := 17) 4 dX12_become_17 rfl ?_
  refine x_iload_n (pc := 19) 2 dX12_become_19 rfl rfl ?_
  refine x_iast (pc := 20) ar_1326 dX12_become_20 (fun m3 => ?_)
  refine x_nameS (fun s4 => ?_)
  refine x_aload_n (pc := 21) 0 dX12_become_21 rfl rfl ?_
  refine x_getF (pc := 22) (j := 0) fd_12_27 rfl rfl tk_1222 dX12_become_22 ?_
  refine x_iload (pc := 25) 4 dX12_become_25 rfl ?_
  refine x_aload_n (pc := 27) 0 dX12_become_27 rfl rfl ?_
  refine x_getI (pc := 28) fd_12_0 tk_1195 dX12_become_28 ?_
  refine x_iast (pc := 31) ar_1327 dX12_become_31 (fun m5 => ?_)
  refine x_nameS (fun s6 => ?_)
  refine x_aload_n (pc := 32) 0 dX12_become_32 rfl rfl ?_
  refine x_getF (pc := 33) (j := 0) fd_12_28 rfl rfl tk_1223 dX12_become_33 ?_
  refine x_iload (pc := 36) 4 dX12_become_36 rfl ?_
  refine x_iload_n (pc := 38) 3 dX12_become_38 rfl rfl ?_
  refine x_iast (pc := 39) ar_1328 dX12_become_39 (fun m7 => ?_)
  refine x_nameS (fun s8 => ?_)
  refine x_aload_n (pc := 40) 0 dX12_become_40 rfl rfl ?_
  refine x_getF (pc := 41) (j := 0) fd_12_29 rfl rfl tk_1224 dX12_become_41 ?_
  refine x_iload_n (pc := 44) 1 dX12_become_44 rfl rfl ?_
  refine x_dup2 (pc := 45) dX12_become_45 rfl rfl ?_
  refine x_iald (pc := 46) ar_1329 dX12_become_46 (fun m9 => ?_)
  refine x_iconst (pc := 47) 1 dX12_become_47 rfl ?_
  refine x_iadd (pc := 48) dX12_become_48 ?_
  refine x_iast (pc := 49) ar_1329 dX12_become_49 (fun m10 => ?_)
  refine x_nameS (fun s11 => ?_)
  exact x_vret (rm := r12_become) rfl rfl dX12_become_50
theorem c_12_become (l : Launch)  (v1 : Int32) (v2 : Int32) (v3 : Int32) (σ : zSt) : zMet l yX12_become cX12_become 5 none r12_become true eV [aR 12 (some 0), aI v1, aI v2, aI v3] σ (f12_become v1 v2 v3 σ) :=
  zMet_of [(0, aR 12 (some 0)), (1, aI v1), (2, aI v2), (3, aI v3)] (by decide +kernel) (fun h => by cases h) (Nat.le_of_ble_eq_true rfl) rfl fun E _ => x12_become E  v1 v2 v3 σ
abbrev r12_stateNow : Room := { frames := 0, cells := 0, slots := 0, locals := 0 }
abbrev m12_stateNow : zMu := (RX12, 2, (some .int), r12_stateNow, false)
set_option maxRecDepth 20000 in
theorem x12_stateNow (E : zEn)  (v1 : Int32) (σ : zSt) : X E cX12_stateNow m12_stateNow true (zQr E true eI r12_stateNow σ) 0 0 σ [(0, aR 12 (some 0)), (1, aI v1)] 0 [] (f12_stateNow v1 σ) := by
  unfold f12_stateNow
  refine x_aload_n (pc := 0) 0 dX12_stateNow_0 rfl rfl ?_
  refine x_getF (pc := 1) (j := 0) fd_12_26 rfl rfl tk_1221 dX12_stateNow_1 ?_
  refine x_bipush (pc := 4) 30 dX12_stateNow_4 rfl ?_
  refine x_iload_n (pc := 6) 1 dX12_stateNow_6 rfl rfl ?_
  refine x_imul (pc := 7) dX12_stateNow_7 ?_
  refine x_aload_n (pc := 8) 0 dX12_stateNow_8 rfl rfl ?_
  refine x_getF (pc := 9) (j := 0) fd_12_29 rfl rfl tk_1224 dX12_stateNow_9 ?_
  refine x_iload_n (pc := 12) 1 dX12_stateNow_12 rfl rfl ?_
  refine x_iald (pc := 13) ar_1329 dX12_stateNow_13 (fun m1 => ?_)
  refine x_iadd (pc := 14) dX12_stateNow_14 ?_
  refine x_iconst (pc := 15) 1 dX12_stateNow_15 rfl ?_
  refine x_isub (pc := 16) dX12_stateNow_16 ?_
  refine x_iald (pc := 17) ar_1326 dX12_stateNow_17 (fun m2 => ?_)
  exact x_iret (rm := r12_stateNow) rfl rfl dX12_stateNow_18
theorem c_12_stateNow (l : Launch)  (v1 : Int32) (σ : zSt) : zMet l yX12_stateNow cX12_stateNow 2 (some .int) r12_stateNow true eI [aR 12 (some 0), aI v1] σ (zro (f12_stateNow v1 σ) σ) :=
  zMet_ofR [(0, aR 12 (some 0)), (1, aI v1)] (by decide +kernel) (fun h => by cases h) (Nat.le_of_ble_eq_true rfl) rfl fun E _ => x12_stateNow E  v1 σ
abbrev r12_fault : Room := { frames := 1, cells := 0, slots := 0, locals := 24 }
abbrev m12_fault : zMu := (RX12, 10, (some .int), r12_fault, false)
set_option maxRecDepth 20000 in
theorem xl12_fault_175 (E : zEn)   (h2 : Int32) (h5 : Int32) (h6 : Int32) (σ : zSt) {K282 : Int32 → Option (Int32 × zSt)} (hK282 : ∀ (v7 : Int32), X E cX12_fault m12_fault true (zQw E true eI r12_fault) 0 0 σ [(0, aR 12 (some 0)), (5, aI h5), (7, aI v7)] 282 [] (K282 v7)) : ∀ (n : Nat) (v7 : Int32) (v8 : Int32), X E cX12_fault m12_fault true (zQw E true eI r12_fault) 0 0 σ [(0, aR 12 (some 0)), (2, aI h2), (5, aI h5), (6, aI h6), (7, aI v7), (8, aI v8)] 175 [] (f12_fault_L175 h2 h5 h6 σ K282 n v7 v8) := by
  intro n
  induction n with
  | zero => intros; exact x_none
  | succ n ih =>
    intro v7 v8
    rw [f12_fault_L175]
    refine x_iload (pc := 175) 8 dX12_fault_175 rfl ?_
    refine x_iload (pc := 177) 5 dX12_fault_177 rfl ?_
    refine x_icmp_ge (pc := 179) 282 dX12_fault_179 (by decide) (fun _ => ?_) (fun _ => ?_)
    ·
      exact x_sub [0, 2, 4] rfl (hK282 v7)
    ·
      refine x_aload_n (pc := 182) 0 dX12_fault_182 rfl rfl ?_
      refine x_getF (pc := 183) (j := 0) fd_12_18 rfl rfl tk_1213 dX12_fault_183 ?_
      refine x_iload (pc := 186) 8 dX12_fault_186 rfl ?_
      refine x_iald (pc := 188) ar_1318 dX12_fault_188 (fun m27 => ?_)
      refine x_iload (pc := 189) 6 dX12_fault_189 rfl ?_
      refine x_join (P := fun (j29 : Int32 → Option (Int32 × zSt)) => ∀ (a28 : Int32), X E cX12_fault m12_fault true (zQw E true eI r12_fault) 0 0 σ [(0, aR 12 (some 0)), (2, aI h2), (5, aI h5), (6, aI h6), (7, aI v7), (8, aI v8)] 237 [aI a28] (j29 a28)) ?_ ?_
      · intro a28
        refine x_istore (pc := 237) (als' := [(9, aI a28), (0, aR 12 (some 0)), (2, aI h2), (5, aI h5), (6, aI h6), (7, aI v7), (8, aI v8)]) 9 dX12_fault_237 (by decide) rfl ?_
        refine x_iload (pc := 239) 7 dX12_fault_239 rfl ?_
        refine x_join (P := fun (j32 : Int32 → Option (Int32 × zSt)) => ∀ (a31 : Int32), X E cX12_fault m12_fault true (zQw E true eI r12_fault) 0 0 σ [(0, aR 12 (some 0)), (2, aI h2), (5, aI h5), (6, aI h6), (8, aI v8)] 274 [aI a31] (j32 a31)) ?_ ?_
        · intro a31
          refine x_istore (pc := 274) (als' := [(7, aI a31), (0, aR 12 (some 0)), (2, aI h2), (5, aI h5), (6, aI h6), (8, aI v8)]) 7 dX12_fault_274 (by decide) rfl ?_
          refine x_iinc (pc := 276) (als' := [(8, aI (v8 + 1)), (7, aI a31), (0, aR 12 (some 0)), (2, aI h2), (5, aI h5), (6, aI h6)]) 8 5 (c := 1) dX12_fault_276 rfl rfl (by decide) rfl ?_
          refine x_nameV (g := fun y35 => [(8, aI y35), (7, aI a31), (0, aR 12 (some 0)), (2, aI h2), (5, aI h5), (6, aI h6)]) (fun x34 => ?_) rfl
          refine x_goto (pc := 279) 175 dX12_fault_279 (by decide) ?_
          exact x_sub [2, 3, 4, 5, 1, 0] rfl (ih a31 x34)
        · intro j32 hj33
          refine x_join (P := fun (j36 : Option (Int32 × zSt)) => X E cX12_fault m12_fault true (zQw E true eI r12_fault) 0 0 σ [(0, aR 12 (some 0)), (2, aI h2), (5, aI h5), (6, aI h6), (8, aI v8)] 269 [] j36) ?_ ?_
          ·
            refine x_iconst (pc := 269) 1 dX12_fault_269 rfl ?_
            refine x_goto (pc := 270) 274 dX12_fault_270 (by decide) ?_
            exact hj33 1
          · intro j36 hj37
            refine x_if_ne (pc := 241) 269 dX12_fault_241 (by decide) (fun _ => ?_) (fun _ => ?_)
            ·
              exact x_sub [1, 2, 3, 4, 6] rfl (hj37)
            ·
              refine x_iload (pc := 244) 9 dX12_fault_244 rfl ?_
              refine x_join (P := fun (j38 : Option (Int32 × zSt)) => X E cX12_fault m12_fault true (zQw E true eI r12_fault) 0 0 σ [(0, aR 12 (some 0)), (2, aI h2), (5, aI h5), (6, aI h6), (8, aI v8)] 273 [] j38) ?_ ?_
              ·
                refine x_iconst (pc := 273) 0 dX12_fault_273 rfl ?_
                exact hj33 0
              · intro j38 hj39
                refine x_if_eq (pc := 246) 273 dX12_fault_246 (by decide) (fun _ => ?_) (fun _ => ?_)
                ·
                  exact x_sub [1, 2, 3, 4, 6] rfl (hj39)
                ·
                  refine x_aload_n (pc := 249) 0 dX12_fault_249 rfl rfl ?_
                  refine x_getF (pc := 250) (j := 0) fd_12_24 rfl rfl tk_1219 dX12_fault_250 ?_
                  refine x_iload (pc := 253) 8 dX12_fault_253 rfl ?_
                  refine x_zald (pc := 255) ar_1324 dX12_fault_255 (fun m40 => ?_)
                  refine x_if_ne (pc := 256) 269 dX12_fault_256 (by decide) (fun _ => ?_) (fun _ => ?_)
                  ·
                    exact x_sub [1, 2, 3, 4, 6] rfl (hj37)
                  ·
                    refine x_aload_n (pc := 259) 0 dX12_fault_259 rfl rfl ?_
                    refine x_iload (pc := 260) 8 dX12_fault_260 rfl ?_
                    refine x_callVr (pc := 262) (as := [aI v8]) (rest := []) (fun l => c_12_stateNow l v8 σ) md_X12_stateNow ⟨_, _, rfl, by decide⟩ tk_1520 tp_61 tk_1518 dX12_fault_262 rfl ⟨by decide, by decide, by decide, by decide⟩ ⟨fun _ => rfl, fun _ => Or.inl rfl⟩ rfl (Nat.le_of_ble_eq_true rfl) (fun r41 => ?_)
                    show X E _ _ _ _ 0 0 _ _ _ [aI r41] _
                    refine x_iconst (pc := 265) 3 dX12_fault_265 rfl ?_
                    refine x_icmp_eq (pc := 266) 273 dX12_fault_266 (by decide) (fun _ => ?_) (fun _ => ?_)
                    ·
                      exact x_sub [1, 2, 3, 4, 6] rfl (hj39)
                    ·
                      exact x_sub [1, 2, 3, 4, 6] rfl (hj37)
      · intro j29 hj30
        refine x_join (P := fun (j42 : Option (Int32 × zSt)) => X E cX12_fault m12_fault true (zQw E true eI r12_fault) 0 0 σ [(0, aR 12 (some 0)), (2, aI h2), (5, aI h5), (6, aI h6), (7, aI v7), (8, aI v8)] 236 [] j42) ?_ ?_
        ·
          refine x_iconst (pc := 236) 0 dX12_fault_236 rfl ?_
          exact hj30 0
        · intro j42 hj43
          refine x_icmp_ne (pc := 191) 236 dX12_fault_191 (by decide) (fun _ => ?_) (fun _ => ?_)
          ·
            exact hj43
          ·
            refine x_aload_n (pc := 194) 0 dX12_fault_194 rfl rfl ?_
            refine x_getF (pc := 195) (j := 0) fd_12_19 rfl rfl tk_1214 dX12_fault_195 ?_
            refine x_iload (pc := 198) 8 dX12_fault_198 rfl ?_
            refine x_iald (pc := 200) ar_1319 dX12_fault_200 (fun m44 => ?_)
            refine x_aload_n (pc := 201) 0 dX12_fault_201 rfl rfl ?_
            refine x_getF (pc := 202) (j := 0) fd_12_19 rfl rfl tk_1214 dX12_fault_202 ?_
            refine x_iload (pc := 205) 5 dX12_fault_205 rfl ?_
            refine x_iald (pc := 207) ar_1319 dX12_fault_207 (fun m45 => ?_)
            refine x_icmp_ne (pc := 208) 236 dX12_fault_208 (by decide) (fun _ => ?_) (fun _ => ?_)
            ·
              exact hj43
            ·
              refine x_aload_n (pc := 211) 0 dX12_fault_211 rfl rfl ?_
              refine x_getF (pc := 212) (j := 0) fd_12_20 rfl rfl tk_1215 dX12_fault_212 ?_
              refine x_iload (pc := 215) 8 dX12_fault_215 rfl ?_
              refine x_iald (pc := 217) ar_1320 dX12_fault_217 (fun m46 => ?_)
              refine x_iload_n (pc := 218) 2 dX12_fault_218 rfl rfl ?_
              refine x_icmp_ne (pc := 219) 236 dX12_fault_219 (by decide) (fun _ => ?_) (fun _ => ?_)
              ·
                exact hj43
              ·
                refine x_aload_n (pc := 222) 0 dX12_fault_222 rfl rfl ?_
                refine x_iload (pc := 223) 8 dX12_fault_223 rfl ?_
                refine x_callVr (pc := 225) (as := [aI v8]) (rest := []) (fun l => c_12_stateNow l v8 σ) md_X12_stateNow ⟨_, _, rfl, by decide⟩ tk_1520 tp_61 tk_1518 dX12_fault_225 rfl ⟨by decide, by decide, by decide, by decide⟩ ⟨fun _ => rfl, fun _ => Or.inl rfl⟩ rfl (Nat.le_of_ble_eq_true rfl) (fun r47 => ?_)
                show X E _ _ _ _ 0 0 _ _ _ [aI r47] _
                refine x_iconst (pc := 228) 4 dX12_fault_228 rfl ?_
                refine x_icmp_eq (pc := 229) 236 dX12_fault_229 (by decide) (fun _ => ?_) (fun _ => ?_)
                ·
                  exact hj43
                ·
                  refine x_iconst (pc := 232) 1 dX12_fault_232 rfl ?_
                  refine x_goto (pc := 233) 237 dX12_fault_233 (by decide) ?_
                  exact hj30 1
set_option maxRecDepth 20000 in
theorem x12_fault (E : zEn)  (v1 : Int32) (v2 : Int32) (v3 : Int32) (v4 : Int32) (σ : zSt) : X E cX12_fault m12_fault true (zQw E true eI r12_fault) 0 0 σ [(0, aR 12 (some 0)), (1, aI v1), (2, aI v2), (3, aI v3), (4, aI v4)] 0 [] (f12_fault v1 v2 v3 v4 σ) := by
  unfold f12_fault
  refine x_iload_n (pc := 0) 1 dX12_fault_0 rfl rfl ?_
  refine x_if_lt (pc := 1) 44 dX12_fault_1 (by decide) (fun _ => ?_) (fun _ => ?_)
  ·
    refine x_iconst (pc := 44) (-1) dX12_fault_44 rfl ?_
    exact x_iret (rm := r12_fault) rfl rfl dX12_fault_45
  ·
    refine x_aload_n (pc := 4) 0 dX12_fault_4 rfl rfl ?_
    refine x_iload_n (pc := 5) 1 dX12_fault_5 rfl rfl ?_
    refine x_bipush (pc := 6) 12 dX12_fault_6 rfl ?_
    refine x_idivC (pc := 8) dX12_fault_8 (by decide) ?_
    refine x_callVr (pc := 9) (as := [aI (zop_idiv v1 12)]) (rest := []) (fun l => c_12_isHome l true (zop_idiv v1 12) σ) md_X12_isHome ⟨_, _, rfl, by decide⟩ tk_1459 tp_53 tk_1457 dX12_fault_9 rfl ⟨by decide, by decide, by decide, by decide⟩ ⟨fun _ => rfl, fun _ => Or.inl rfl⟩ rfl (Nat.le_of_ble_eq_true rfl) (fun r1 => ?_)
    show X E _ _ _ _ 0 0 _ _ _ [aI r1] _
    refine x_if_eq (pc := 12) 44 dX12_fault_12 (by decide) (fun _ => ?_) (fun _ => ?_)
    ·
      refine x_iconst (pc := 44) (-1) dX12_fault_44 rfl ?_
      exact x_iret (rm := r12_fault) rfl rfl dX12_fault_45
    ·
      refine x_aload_n (pc := 15) 0 dX12_fault_15 rfl rfl ?_
      refine x_iload_n (pc := 16) 2 dX12_fault_16 rfl rfl ?_
      refine x_callVr (pc := 17) (as := [aI v2]) (rest := []) (fun l => c_12_isKind l true v2 σ) md_X12_isKind ⟨_, _, rfl, by decide⟩ tk_1516 tp_60 tk_1514 dX12_fault_17 rfl ⟨by decide, by decide, by decide, by decide⟩ ⟨fun _ => rfl, fun _ => Or.inl rfl⟩ rfl (Nat.le_of_ble_eq_true rfl) (fun r2 => ?_)
      show X E _ _ _ _ 0 0 _ _ _ [aI r2] _
      refine x_if_eq (pc := 20) 44 dX12_fault_20 (by decide) (fun _ => ?_) (fun _ => ?_)
      ·
        refine x_iconst (pc := 44) (-1) dX12_fault_44 rfl ?_
        exact x_iret (rm := r12_fault) rfl rfl dX12_fault_45
      ·
        refine x_iload_n (pc := 23) 3 dX12_fault_23 rfl rfl ?_
        refine x_iconst (pc := 24) 1 dX12_fault_24 rfl ?_
        refine x_bipush (pc := 25) 9 dX12_fault_25 rfl ?_
        refine x_callSr (pc := 27) (as := [aI v3, aI 1, aI 9]) (rest := []) (fun l => c_12_within l true v3 1 9 σ) md_X12_within tk_1447 tk_1446 dX12_fault_27 rfl ⟨by decide, by decide, by decide, by decide⟩ ⟨fun _ => rfl, fun _ => Or.inl rfl⟩ rfl (Nat.le_of_ble_eq_true rfl) (fun r3 => ?_)
        show X E _ _ _ _ 0 0 _ _ _ [aI r3] _
        refine x_if_eq (pc := 30) 44 dX12_fault_30 (by decide) (fun _ => ?_) (fun _ => ?_)
        ·
          refine x_iconst (pc := 44) (-1) dX12_fault_44 rfl ?_
          exact x_iret (rm := r12_fault) rfl rfl dX12_fault_45
        ·
          refine x_iload (pc := 33) 4 dX12_fault_33 rfl ?_
          refine x_iconst (pc := 35) 0 dX12_fault_35 rfl ?_
          refine x_bipush (pc := 36) 10 dX12_fault_36 rfl ?_
          refine x_callSr (pc := 38) (as := [aI v4, aI 0, aI 10]) (rest := []) (fun l => c_12_within l true v4 0 10 σ) md_X12_within tk_1447 tk_1446 dX12_fault_38 rfl ⟨by decide, by decide, by decide, by decide⟩ ⟨fun _ => rfl, fun _ => Or.inl rfl⟩ rfl (Nat.le_of_ble_eq_true rfl) (fun r4 => ?_)
          show X E _ _ _ _ 0 0 _ _ _ [aI r4] _
          refine x_if_ne (pc := 41) 46 dX12_fault_41 (by decide) (fun _ => ?_) (fun _ => ?_)
          ·
            refine x_aload_n (pc := 46) 0 dX12_fault_46 rfl rfl ?_
            refine x_getI (pc := 47) fd_12_36 tk_1231 dX12_fault_47 ?_
            refine x_sipush (pc := 50) 200 dX12_fault_50 rfl ?_
            refine x_icmp_ne (pc := 53) 59 dX12_fault_53 (by decide) (fun _ => ?_) (fun _ => ?_)
            ·
              refine x_aload_n (pc := 59) 0 dX12_fault_59 rfl rfl ?_
              refine x_getI (pc := 60) fd_12_36 tk_1231 dX12_fault_60 ?_
              refine x_nameI (fun x5 => ?_)
              refine x_istore (pc := 63) (als' := [(5, aI x5), (0, aR 12 (some 0)), (1, aI v1), (2, aI v2), (3, aI v3), (4, aI v4)]) 5 dX12_fault_63 (by decide) rfl ?_
              refine x_iload_n (pc := 65) 1 dX12_fault_65 rfl rfl ?_
              refine x_bipush (pc := 66) 12 dX12_fault_66 rfl ?_
              refine x_idivC (pc := 68) dX12_fault_68 (by decide) ?_
              refine x_nameI (fun x6 => ?_)
              refine x_istore (pc := 69) (als' := [(6, aI x6), (5, aI x5), (0, aR 12 (some 0)), (1, aI v1), (2, aI v2), (3, aI v3), (4, aI v4)]) 6 dX12_fault_69 (by decide) rfl ?_
              refine x_aload_n (pc := 71) 0 dX12_fault_71 rfl rfl ?_
              refine x_getF (pc := 72) (j := 0) fd_12_18 rfl rfl tk_1213 dX12_fault_72 ?_
              refine x_iload (pc := 75) 5 dX12_fault_75 rfl ?_
              refine x_iload (pc := 77) 6 dX12_fault_77 rfl ?_
              refine x_iast (pc := 79) ar_1318 dX12_fault_79 (fun m7 => ?_)
              refine x_nameS (fun s8 => ?_)
              refine x_aload_n (pc := 80) 0 dX12_fault_80 rfl rfl ?_
              refine x_getF (pc := 81) (j := 0) fd_12_19 rfl rfl tk_1214 dX12_fault_81 ?_
              refine x_iload (pc := 84) 5 dX12_fault_84 rfl ?_
              refine x_iload_n (pc := 86) 1 dX12_fault_86 rfl rfl ?_
              refine x_bipush (pc := 87) 12 dX12_fault_87 rfl ?_
              refine x_iremC (pc := 89) dX12_fault_89 (by decide) ?_
              refine x_iast (pc := 90) ar_1319 dX12_fault_90 (fun m9 => ?_)
              refine x_nameS (fun s10 => ?_)
              refine x_aload_n (pc := 91) 0 dX12_fault_91 rfl rfl ?_
              refine x_getF (pc := 92) (j := 0) fd_12_20 rfl rfl tk_1215 dX12_fault_92 ?_
              refine x_iload (pc := 95) 5 dX12_fault_95 rfl ?_
              refine x_iload_n (pc := 97) 2 dX12_fault_97 rfl rfl ?_
              refine x_iast (pc := 98) ar_1320 dX12_fault_98 (fun m11 => ?_)
              refine x_nameS (fun s12 => ?_)
              refine x_aload_n (pc := 99) 0 dX12_fault_99 rfl rfl ?_
              refine x_getF (pc := 100) (j := 0) fd_12_21 rfl rfl tk_1216 dX12_fault_100 ?_
              refine x_iload (pc := 103) 5 dX12_fault_103 rfl ?_
              refine x_iload_n (pc := 105) 3 dX12_fault_105 rfl rfl ?_
              refine x_iast (pc := 106) ar_1321 dX12_fault_106 (fun m13 => ?_)
              refine x_nameS (fun s14 => ?_)
              refine x_aload_n (pc := 107) 0 dX12_fault_107 rfl rfl ?_
              refine x_getF (pc := 108) (j := 0) fd_12_22 rfl rfl tk_1217 dX12_fault_108 ?_
              refine x_iload (pc := 111) 5 dX12_fault_111 rfl ?_
              refine x_aload_n (pc := 113) 0 dX12_fault_113 rfl rfl ?_
              refine x_getI (pc := 114) fd_12_0 tk_1195 dX12_fault_114 ?_
              refine x_iast (pc := 117) ar_1322 dX12_fault_117 (fun m15 => ?_)
              refine x_nameS (fun s16 => ?_)
              refine x_aload_n (pc := 118) 0 dX12_fault_118 rfl rfl ?_
              refine x_getF (pc := 119) (j := 0) fd_12_23 rfl rfl tk_1218 dX12_fault_119 ?_
              refine x_iload (pc := 122) 5 dX12_fault_122 rfl ?_
              refine x_iload (pc := 124) 4 dX12_fault_124 rfl ?_
              refine x_iast (pc := 126) ar_1323 dX12_fault_126 (fun m17 => ?_)
              refine x_nameS (fun s18 => ?_)
              refine x_aload_n (pc := 127) 0 dX12_fault_127 rfl rfl ?_
              refine x_getF (pc := 128) (j := 0) fd_12_24 rfl rfl tk_1219 dX12_fault_128 ?_
              refine x_iload (pc := 131) 5 dX12_fault_131 rfl ?_
              refine x_aload_n (pc := 133) 0 dX12_fault_133 rfl rfl ?_
              refine x_getF (pc := 134) (j := 0) fd_12_5 rfl rfl tk_1200 dX12_fault_134 ?_
              refine x_iload (pc := 137) 6 dX12_fault_137 rfl ?_
              refine x_iald (pc := 139) ar_1305 dX12_fault_139 (fun m19 => ?_)
              refine x_join (P := fun (j21 : Int32 → Option (Int32 × zSt)) => ∀ (a20 : Int32), X E cX12_fault m12_fault true (zQw E true eI r12_fault) 0 0 s18 [(0, aR 12 (some 0)), (2, aI v2), (5, aI x5), (6, aI x6)] 162 [aI a20, aI x5, aR 1324 (some 0)] (j21 a20)) ?_ ?_
              · intro a20
                refine x_zast (pc := 162) ar_1324 dX12_fault_162 (fun m23 => ?_)
                refine x_nameS (fun s24 => ?_)
                refine x_aload_n (pc := 163) 0 dX12_fault_163 rfl rfl ?_
                refine x_getF (pc := 164) (j := 0) fd_12_24 rfl rfl tk_1219 dX12_fault_164 ?_
                refine x_iload (pc := 167) 5 dX12_fault_167 rfl ?_
                refine x_zald (pc := 169) ar_1324 dX12_fault_169 (fun m25 => ?_)
                refine x_nameI (fun x26 => ?_)
                refine x_istore (pc := 170) (als' := [(7, aI x26), (0, aR 12 (some 0)), (2, aI v2), (5, aI x5), (6, aI x6)]) 7 dX12_fault_170 (by decide) rfl ?_
                refine x_iconst (pc := 172) 0 dX12_fault_172 rfl ?_
                refine x_istore (pc := 173) (als' := [(8, aI 0), (7, aI x26), (0, aR 12 (some 0)), (2, aI v2), (5, aI x5), (6, aI x6)]) 8 dX12_fault_173 (by decide) rfl ?_
                refine x_sub [2, 3, 4, 5, 1, 0] rfl (xl12_fault_175 E v2 x5 x6 s24 (fun a48 => ?_) zfuel x26 0)
                ·
                  refine x_aload_n (pc := 282) 0 dX12_fault_282 rfl rfl ?_
                  refine x_getF (pc := 283) (j := 0) fd_12_25 rfl rfl tk_1220 dX12_fault_283 ?_
                  refine x_iload (pc := 286) 5 dX12_fault_286 rfl ?_
                  refine x_iload (pc := 288) 7 dX12_fault_288 rfl ?_
                  refine x_mg (c := a48 = 0) (a := 1) (b := 0) 298 [aI x5, aR 1325 (some 0)] ?_ (fun hm49 => ?_)
                  ·
                    refine x_zast (pc := 298) ar_1325 dX12_fault_298 (fun m53 => ?_)
                    refine x_nameS (fun s54 => ?_)
                    refine x_aload_n (pc := 299) 0 dX12_fault_299 rfl rfl ?_
                    refine x_dup (pc := 300) dX12_fault_300 rfl ?_
                    refine x_getI (pc := 301) fd_12_36 tk_1231 dX12_fault_301 ?_
                    refine x_iconst (pc := 304) 1 dX12_fault_304 rfl ?_
                    refine x_iadd (pc := 305) dX12_fault_305 ?_
                    refine x_putI (pc := 306) fd_12_36 pt_12_36 tk_1231 dX12_fault_306 (Or.inl rfl) ?_
                    refine x_nameS (fun s55 => ?_)
                    refine x_aload_n (pc := 309) 0 dX12_fault_309 rfl rfl ?_
                    refine x_iload (pc := 310) 5 dX12_fault_310 rfl ?_
                    refine x_iconst (pc := 312) 0 dX12_fault_312 rfl ?_
                    refine x_iconst (pc := 313) (-1) dX12_fault_313 rfl ?_
                    refine x_callV (pc := 314) (as := [aI x5, aI 0, aI (-1)]) (rest := []) (fun l => c_12_become l x5 0 (-1) s55) md_X12_become ⟨_, _, rfl, by decide⟩ tk_1524 tp_62 tk_1522 dX12_fault_314 rfl ⟨by decide, by decide, by decide, by decide⟩ ⟨fun _ => rfl, fun _ => Or.inl rfl⟩ rfl (Nat.le_of_ble_eq_true rfl) (fun _ s57 => ?_)
                    show X E _ _ _ _ 0 0 _ _ _ [] _
                    refine x_iload (pc := 317) 5 dX12_fault_317 rfl ?_
                    exact x_iret (rm := r12_fault) rfl rfl dX12_fault_319
                  ·
                    refine x_same (c := a48 = 0) ?_
                    refine x_if_ne (pc := 290) 297 dX12_fault_290 (by decide) (fun hc50 => ?_) (fun hc50 => ?_)
                    ·
                      have hm52 := x_topF hc50 hm49
                      refine x_iconst (pc := 297) 0 dX12_fault_297 rfl ?_
                      exact hm52
                    ·
                      have hm51 := x_topT hc50 hm49
                      refine x_iconst (pc := 293) 1 dX12_fault_293 rfl ?_
                      refine x_goto (pc := 294) 298 dX12_fault_294 (by decide) ?_
                      exact hm51
              · intro j21 hj22
                refine x_join (P := fun (j58 : Option (Int32 × zSt)) => X E cX12_fault m12_fault true (zQw E true eI r12_fault) 0 0 s18 [(0, aR 12 (some 0)), (2, aI v2), (5, aI x5), (6, aI x6)] 157 [aI x5, aR 1324 (some 0)] j58) ?_ ?_
                ·
                  refine x_iconst (pc := 157) 1 dX12_fault_157 rfl ?_
                  refine x_goto (pc := 158) 162 dX12_fault_158 (by decide) ?_
                  exact hj22 1
                · intro j58 hj59
                  refine x_if_lt (pc := 140) 157 dX12_fault_140 (by decide) (fun _ => ?_) (fun _ => ?_)
                  ·
                    exact x_sub [2, 4, 1, 0] rfl (hj59)
                  ·
                    refine x_aload_n (pc := 143) 0 dX12_fault_143 rfl rfl ?_
                    refine x_getI (pc := 144) fd_12_0 tk_1195 dX12_fault_144 ?_
                    refine x_aload_n (pc := 147) 0 dX12_fault_147 rfl rfl ?_
                    refine x_getF (pc := 148) (j := 0) fd_12_5 rfl rfl tk_1200 dX12_fault_148 ?_
                    refine x_iload (pc := 151) 6 dX12_fault_151 rfl ?_
                    refine x_iald (pc := 153) ar_1305 dX12_fault_153 (fun m60 => ?_)
                    refine x_icmp_gt (pc := 154) 161 dX12_fault_154 (by decide) (fun _ => ?_) (fun _ => ?_)
                    ·
                      refine x_iconst (pc := 161) 0 dX12_fault_161 rfl ?_
                      exact x_sub [2, 4, 1, 0] rfl (hj22 0)
                    ·
                      exact x_sub [2, 4, 1, 0] rfl (hj59)
            ·
              refine x_bipush (pc := 56) (-2) dX12_fault_56 rfl ?_
              exact x_iret (rm := r12_fault) rfl rfl dX12_fault_58
          ·
            refine x_iconst (pc := 44) (-1) dX12_fault_44 rfl ?_
            exact x_iret (rm := r12_fault) rfl rfl dX12_fault_45
theorem c_12_fault (l : Launch)  (v1 : Int32) (v2 : Int32) (v3 : Int32) (v4 : Int32) (σ : zSt) : zMet l yX12_fault cX12_fault 10 (some .int) r12_fault true eI [aR 12 (some 0), aI v1, aI v2, aI v3, aI v4] σ (f12_fault v1 v2 v3 v4 σ) :=
  zMet_of [(0, aR 12 (some 0)), (1, aI v1), (2, aI v2), (3, aI v3), (4, aI v4)] (by decide +kernel) (fun h => by cases h) (Nat.le_of_ble_eq_true rfl) rfl fun E _ => x12_fault E  v1 v2 v3 v4 σ
abbrev r12_isOpen : Room := { frames := 1, cells := 0, slots := 0, locals := 21 }
abbrev m12_isOpen : zMu := (RX12, 2, (some .boolean), r12_isOpen, false)
set_option maxRecDepth 20000 in
theorem x12_isOpen (E : zEn)  (v1 : Int32) (σ : zSt) : X E cX12_isOpen m12_isOpen true (zQr E true eI r12_isOpen σ) 0 0 σ [(0, aR 12 (some 0)), (1, aI v1)] 0 [] (f12_isOpen v1 σ) := by
  unfold f12_isOpen
  refine x_aload_n (pc := 0) 0 dX12_isOpen_0 rfl rfl ?_
  refine x_iload_n (pc := 1) 1 dX12_isOpen_1 rfl rfl ?_
  refine x_callVr (pc := 2) (as := [aI v1]) (rest := []) (fun l => c_12_stateNow l v1 σ) md_X12_stateNow ⟨_, _, rfl, by decide⟩ tk_1520 tp_61 tk_1518 dX12_isOpen_2 rfl ⟨by decide, by decide, by decide, by decide⟩ ⟨fun _ => rfl, fun _ => Or.inl rfl⟩ rfl (Nat.le_of_ble_eq_true rfl) (fun r1 => ?_)
  show X E _ _ _ _ 0 0 _ _ _ [aI r1] _
  refine x_join (P := fun (j2 : Option Int32) => X E cX12_isOpen m12_isOpen true (zQr E true eI r12_isOpen σ) 0 0 σ [] 17 [] j2) ?_ ?_
  ·
    refine x_iconst (pc := 17) 1 dX12_isOpen_17 rfl ?_
    refine x_goto (pc := 18) 22 dX12_isOpen_18 (by decide) ?_
    exact x_zretC (rm := r12_isOpen) rfl rfl (by decide) dX12_isOpen_22
  · intro j2 hj3
    refine x_if_eq (pc := 5) 17 dX12_isOpen_5 (by decide) (fun _ => ?_) (fun _ => ?_)
    ·
      exact x_sub [] rfl (hj3)
    ·
      refine x_aload_n (pc := 8) 0 dX12_isOpen_8 rfl rfl ?_
      refine x_iload_n (pc := 9) 1 dX12_isOpen_9 rfl rfl ?_
      refine x_callVr (pc := 10) (as := [aI v1]) (rest := []) (fun l => c_12_stateNow l v1 σ) md_X12_stateNow ⟨_, _, rfl, by decide⟩ tk_1520 tp_61 tk_1518 dX12_isOpen_10 rfl ⟨by decide, by decide, by decide, by decide⟩ ⟨fun _ => rfl, fun _ => Or.inl rfl⟩ rfl (Nat.le_of_ble_eq_true rfl) (fun r4 => ?_)
      show X E _ _ _ _ 0 0 _ _ _ [aI r4] _
      refine x_iconst (pc := 13) 1 dX12_isOpen_13 rfl ?_
      refine x_icmp_ne (pc := 14) 21 dX12_isOpen_14 (by decide) (fun _ => ?_) (fun _ => ?_)
      ·
        refine x_iconst (pc := 21) 0 dX12_isOpen_21 rfl ?_
        exact x_zretC (rm := r12_isOpen) rfl rfl (by decide) dX12_isOpen_22
      ·
        exact x_sub [] rfl (hj3)
theorem c_12_isOpen (l : Launch)  (v1 : Int32) (σ : zSt) : zMet l yX12_isOpen cX12_isOpen 2 (some .boolean) r12_isOpen true eI [aR 12 (some 0), aI v1] σ (zro (f12_isOpen v1 σ) σ) :=
  zMet_ofR [(0, aR 12 (some 0)), (1, aI v1)] (by decide +kernel) (fun h => by cases h) (Nat.le_of_ble_eq_true rfl) rfl fun E _ => x12_isOpen E  v1 σ
abbrev r12_promise : Room := { frames := 2, cells := 0, slots := 0, locals := 42 }
abbrev m12_promise : zMu := (RX12, 3, (some .int), r12_promise, false)
set_option maxRecDepth 20000 in
theorem x12_promise (E : zEn)  (v1 : Int32) (v2 : Int32) (σ : zSt) : X E cX12_promise m12_promise true (zQw E true eI r12_promise) 0 0 σ [(0, aR 12 (some 0)), (1, aI v1), (2, aI v2)] 0 [] (f12_promise v1 v2 σ) := by
  unfold f12_promise
  refine x_aload_n (pc := 0) 0 dX12_promise_0 rfl rfl ?_
  refine x_iload_n (pc := 1) 1 dX12_promise_1 rfl rfl ?_
  refine x_callVr (pc := 2) (as := [aI v1]) (rest := []) (fun l => c_12_isFault l true v1 σ) md_X12_isFault ⟨_, _, rfl, by decide⟩ tk_1532 tp_63 tk_1530 dX12_promise_2 rfl ⟨by decide, by decide, by decide, by decide⟩ ⟨fun _ => rfl, fun _ => Or.inl rfl⟩ rfl (Nat.le_of_ble_eq_true rfl) (fun r1 => ?_)
  show X E _ _ _ _ 0 0 _ _ _ [aI r1] _
  refine x_if_eq (pc := 5) 22 dX12_promise_5 (by decide) (fun _ => ?_) (fun _ => ?_)
  ·
    refine x_iconst (pc := 22) (-1) dX12_promise_22 rfl ?_
    exact x_iret (rm := r12_promise) rfl rfl dX12_promise_23
  ·
    refine x_iload_n (pc := 8) 2 dX12_promise_8 rfl rfl ?_
    refine x_aload_n (pc := 9) 0 dX12_promise_9 rfl rfl ?_
    refine x_getI (pc := 10) fd_12_0 tk_1195 dX12_promise_10 ?_
    refine x_sipush (pc := 13) 9999 dX12_promise_13 rfl ?_
    refine x_callSr (pc := 16) (as := [aI v2, aI (gI σ 12 0 0), aI 9999]) (rest := []) (fun l => c_12_within l true v2 (gI σ 12 0 0) 9999 σ) md_X12_within tk_1447 tk_1446 dX12_promise_16 rfl ⟨by decide, by decide, by decide, by decide⟩ ⟨fun _ => rfl, fun _ => Or.inl rfl⟩ rfl (Nat.le_of_ble_eq_true rfl) (fun r2 => ?_)
    show X E _ _ _ _ 0 0 _ _ _ [aI r2] _
    refine x_if_ne (pc := 19) 24 dX12_promise_19 (by decide) (fun _ => ?_) (fun _ => ?_)
    ·
      refine x_aload_n (pc := 24) 0 dX12_promise_24 rfl rfl ?_
      refine x_iload_n (pc := 25) 1 dX12_promise_25 rfl rfl ?_
      refine x_callVr (pc := 26) (as := [aI v1]) (rest := []) (fun l => c_12_isOpen l v1 σ) md_X12_isOpen ⟨_, _, rfl, by decide⟩ tk_1536 tp_64 tk_1534 dX12_promise_26 rfl ⟨by decide, by decide, by decide, by decide⟩ ⟨fun _ => rfl, fun _ => Or.inl rfl⟩ rfl (Nat.le_of_ble_eq_true rfl) (fun r3 => ?_)
      show X E _ _ _ _ 0 0 _ _ _ [aI r3] _
      refine x_if_ne (pc := 29) 35 dX12_promise_29 (by decide) (fun _ => ?_) (fun _ => ?_)
      ·
        refine x_aload_n (pc := 35) 0 dX12_promise_35 rfl rfl ?_
        refine x_getF (pc := 36) (j := 0) fd_12_29 rfl rfl tk_1224 dX12_promise_36 ?_
        refine x_iload_n (pc := 39) 1 dX12_promise_39 rfl rfl ?_
        refine x_iald (pc := 40) ar_1329 dX12_promise_40 (fun m4 => ?_)
        refine x_bipush (pc := 41) 30 dX12_promise_41 rfl ?_
        refine x_icmp_ne (pc := 43) 49 dX12_promise_43 (by decide) (fun _ => ?_) (fun _ => ?_)
        ·
          refine x_aload_n (pc := 49) 0 dX12_promise_49 rfl rfl ?_
          refine x_getF (pc := 50) (j := 0) fd_12_33 rfl rfl tk_1228 dX12_promise_50 ?_
          refine x_iload_n (pc := 53) 1 dX12_promise_53 rfl rfl ?_
          refine x_dup2 (pc := 54) dX12_promise_54 rfl rfl ?_
          refine x_iald (pc := 55) ar_1333 dX12_promise_55 (fun m5 => ?_)
          refine x_aload_n (pc := 56) 0 dX12_promise_56 rfl rfl ?_
          refine x_iload_n (pc := 57) 1 dX12_promise_57 rfl rfl ?_
          refine x_callVr (pc := 58) (as := [aI v1]) (rest := [aI (gI σ 1333 0 m5), aI v1, aR 1333 (some 0)]) (fun l => c_12_promiseNow l v1 σ) md_X12_promiseNow ⟨_, _, rfl, by decide⟩ tk_1504 tp_59 tk_1502 dX12_promise_58 rfl ⟨by decide, by decide, by decide, by decide⟩ ⟨fun _ => rfl, fun _ => Or.inl rfl⟩ rfl (Nat.le_of_ble_eq_true rfl) (fun r6 => ?_)
          show X E _ _ _ _ 0 0 _ _ _ [aI r6, aI (gI σ 1333 0 m5), aI v1, aR 1333 (some 0)] _
          refine x_iconst (pc := 61) 3 dX12_promise_61 rfl ?_
          refine x_mg (c := r6 = 3) (a := 1) (b := 0) 70 [aI (gI σ 1333 0 m5), aI v1, aR 1333 (some 0)] ?_ (fun hm7 => ?_)
          ·
            refine x_iadd (pc := 70) dX12_promise_70 ?_
            refine x_iast (pc := 71) ar_1333 dX12_promise_71 (fun m11 => ?_)
            refine x_nameS (fun s12 => ?_)
            refine x_aload_n (pc := 72) 0 dX12_promise_72 rfl rfl ?_
            refine x_getF (pc := 73) (j := 0) fd_12_32 rfl rfl tk_1227 dX12_promise_73 ?_
            refine x_iload_n (pc := 76) 1 dX12_promise_76 rfl rfl ?_
            refine x_dup2 (pc := 77) dX12_promise_77 rfl rfl ?_
            refine x_iald (pc := 78) ar_1332 dX12_promise_78 (fun m13 => ?_)
            refine x_aload_n (pc := 79) 0 dX12_promise_79 rfl rfl ?_
            refine x_iload_n (pc := 80) 1 dX12_promise_80 rfl rfl ?_
            refine x_callVr (pc := 81) (as := [aI v1]) (rest := [aI (gI s12 1332 0 m13), aI v1, aR 1332 (some 0)]) (fun l => c_12_promiseNow l v1 s12) md_X12_promiseNow ⟨_, _, rfl, by decide⟩ tk_1504 tp_59 tk_1502 dX12_promise_81 rfl ⟨by decide, by decide, by decide, by decide⟩ ⟨fun _ => rfl, fun _ => Or.inl rfl⟩ rfl (Nat.le_of_ble_eq_true rfl) (fun r14 => ?_)
            show X E _ _ _ _ 0 0 _ _ _ [aI r14, aI (gI s12 1332 0 m13), aI v1, aR 1332 (some 0)] _
            refine x_iconst (pc := 84) 1 dX12_promise_84 rfl ?_
            refine x_mg (c := r14 = 1) (a := 1) (b := 0) 93 [aI (gI s12 1332 0 m13), aI v1, aR 1332 (some 0)] ?_ (fun hm15 => ?_)
            ·
              refine x_iadd (pc := 93) dX12_promise_93 ?_
              refine x_iast (pc := 94) ar_1332 dX12_promise_94 (fun m19 => ?_)
              refine x_nameS (fun s20 => ?_)
              refine x_aload_n (pc := 95) 0 dX12_promise_95 rfl rfl ?_
              refine x_getF (pc := 96) (j := 0) fd_12_30 rfl rfl tk_1225 dX12_promise_96 ?_
              refine x_iload_n (pc := 99) 1 dX12_promise_99 rfl rfl ?_
              refine x_iconst (pc := 100) 1 dX12_promise_100 rfl ?_
              refine x_iast (pc := 101) ar_1330 dX12_promise_101 (fun m21 => ?_)
              refine x_nameS (fun s22 => ?_)
              refine x_aload_n (pc := 102) 0 dX12_promise_102 rfl rfl ?_
              refine x_getF (pc := 103) (j := 0) fd_12_31 rfl rfl tk_1226 dX12_promise_103 ?_
              refine x_iload_n (pc := 106) 1 dX12_promise_106 rfl rfl ?_
              refine x_iload_n (pc := 107) 2 dX12_promise_107 rfl rfl ?_
              refine x_iast (pc := 108) ar_1331 dX12_promise_108 (fun m23 => ?_)
              refine x_nameS (fun s24 => ?_)
              refine x_aload_n (pc := 109) 0 dX12_promise_109 rfl rfl ?_
              refine x_iload_n (pc := 110) 1 dX12_promise_110 rfl rfl ?_
              refine x_iconst (pc := 111) 1 dX12_promise_111 rfl ?_
              refine x_iconst (pc := 112) (-1) dX12_promise_112 rfl ?_
              refine x_callV (pc := 113) (as := [aI v1, aI 1, aI (-1)]) (rest := []) (fun l => c_12_become l v1 1 (-1) s24) md_X12_become ⟨_, _, rfl, by decide⟩ tk_1524 tp_62 tk_1522 dX12_promise_113 rfl ⟨by decide, by decide, by decide, by decide⟩ ⟨fun _ => rfl, fun _ => Or.inl rfl⟩ rfl (Nat.le_of_ble_eq_true rfl) (fun _ s26 => ?_)
              show X E _ _ _ _ 0 0 _ _ _ [] _
              refine x_iconst (pc := 116) 1 dX12_promise_116 rfl ?_
              exact x_iret (rm := r12_promise) rfl rfl dX12_promise_117
            ·
              refine x_same (c := r14 = 1) ?_
              refine x_icmp_ne (pc := 85) 92 dX12_promise_85 (by decide) (fun hc16 => ?_) (fun hc16 => ?_)
              ·
                have hm18 := x_topF hc16 hm15
                refine x_iconst (pc := 92) 0 dX12_promise_92 rfl ?_
                exact hm18
              ·
                have hm17 := x_topT hc16 hm15
                refine x_iconst (pc := 88) 1 dX12_promise_88 rfl ?_
                refine x_goto (pc := 89) 93 dX12_promise_89 (by decide) ?_
                exact hm17
          ·
            refine x_same (c := r6 = 3) ?_
            refine x_icmp_ne (pc := 62) 69 dX12_promise_62 (by decide) (fun hc8 => ?_) (fun hc8 => ?_)
            ·
              have hm10 := x_topF hc8 hm7
              refine x_iconst (pc := 69) 0 dX12_promise_69 rfl ?_
              exact hm10
            ·
              have hm9 := x_topT hc8 hm7
              refine x_iconst (pc := 65) 1 dX12_promise_65 rfl ?_
              refine x_goto (pc := 66) 70 dX12_promise_66 (by decide) ?_
              exact hm9
        ·
          refine x_bipush (pc := 46) (-2) dX12_promise_46 rfl ?_
          exact x_iret (rm := r12_promise) rfl rfl dX12_promise_48
      ·
        refine x_bipush (pc := 32) (-3) dX12_promise_32 rfl ?_
        exact x_iret (rm := r12_promise) rfl rfl dX12_promise_34
    ·
      refine x_iconst (pc := 22) (-1) dX12_promise_22 rfl ?_
      exact x_iret (rm := r12_promise) rfl rfl dX12_promise_23
theorem c_12_promise (l : Launch)  (v1 : Int32) (v2 : Int32) (σ : zSt) : zMet l yX12_promise cX12_promise 3 (some .int) r12_promise true eI [aR 12 (some 0), aI v1, aI v2] σ (f12_promise v1 v2 σ) :=
  zMet_of [(0, aR 12 (some 0)), (1, aI v1), (2, aI v2)] (by decide +kernel) (fun h => by cases h) (Nat.le_of_ble_eq_true rfl) rfl fun E _ => x12_promise E  v1 v2 σ
