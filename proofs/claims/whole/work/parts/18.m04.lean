abbrev r11_homeAt : Room := { frames := 1, cells := 0, slots := 0, locals := 21 }
abbrev m11_homeAt : zMu := (RX11, 2, (some (.object "SnagBook$Home")), r11_homeAt, false)
set_option maxRecDepth 20000 in
theorem x11_homeAt (E : zEn)  (v1 : Int32) (σ : zSt) : X E cX11_homeAt m11_homeAt true (zQr E true (eR 5) r11_homeAt σ) 0 0 σ [(0, aR 11 (some 0)), (1, aI v1)] 0 [] (f11_homeAt v1 σ) := by
  unfold f11_homeAt
  refine x_iload_n (pc := 0) 1 dX11_homeAt_0 rfl rfl ?_
  refine x_aload_n (pc := 1) 0 dX11_homeAt_1 rfl rfl ?_
  refine x_getI (pc := 2) fd_11_1 tk_153 dX11_homeAt_2 ?_
  refine x_callSr (pc := 5) (as := [aI v1, aI (gI σ 11 0 1)]) (rest := []) (fun l => c_11_isIn l true v1 (gI σ 11 0 1) σ) md_X11_isIn tk_219 tk_218 dX11_homeAt_5 rfl ⟨by decide, by decide, by decide, by decide⟩ ⟨fun _ => rfl, fun _ => Or.inl rfl⟩ rfl (Nat.le_of_ble_eq_true rfl) (fun r1 => ?_)
  show X E _ _ _ _ 0 0 _ _ _ [aI r1] _
  refine x_if_eq (pc := 8) 20 dX11_homeAt_8 (by decide) (fun _ => ?_) (fun _ => ?_)
  ·
    refine x_null (pc := 20) 5 dX11_homeAt_20 ?_
    exact x_aret (rm := r11_homeAt) rfl rfl dX11_homeAt_21
  ·
    refine x_aload_n (pc := 11) 0 dX11_homeAt_11 rfl rfl ?_
    refine x_getF (pc := 12) (j := 0) fd_11_0 rfl rfl tk_152 dX11_homeAt_12 ?_
    refine x_iload_n (pc := 15) 1 dX11_homeAt_15 rfl rfl ?_
    refine x_aald (pc := 16) (g0 := 5) ar_1200 (by decide) rfl dX11_homeAt_16 (fun m2 => ?_)
    refine x_nameR (fun o3 => ?_)
    refine x_goto (pc := 17) 21 dX11_homeAt_17 (by decide) ?_
    exact x_aret (rm := r11_homeAt) rfl rfl dX11_homeAt_21
theorem c_11_homeAt (l : Launch)  (v1 : Int32) (σ : zSt) : zMet l yX11_homeAt cX11_homeAt 2 (some (.object "SnagBook$Home")) r11_homeAt true (eR 5) [aR 11 (some 0), aI v1] σ (zro (f11_homeAt v1 σ) σ) :=
  zMet_ofR [(0, aR 11 (some 0)), (1, aI v1)] (by decide +kernel) (fun h => by cases h) (Nat.le_of_ble_eq_true rfl) rfl fun E _ => x11_homeAt E  v1 σ
abbrev r11_key : Room := { frames := 2, cells := 0, slots := 0, locals := 42 }
abbrev m11_key : zMu := (RX11, 4, (some .int), r11_key, false)
set_option maxRecDepth 20000 in
theorem x11_key (E : zEn)  (v1 : Int32) (v2 : Int32) (σ : zSt) : X E cX11_key m11_key true (zQw E true eI r11_key) 0 0 σ [(0, aR 11 (some 0)), (1, aI v1), (2, aI v2)] 0 [] (f11_key v1 v2 σ) := by
  unfold f11_key
  refine x_aload_n (pc := 0) 0 dX11_key_0 rfl rfl ?_
  refine x_iload_n (pc := 1) 1 dX11_key_1 rfl rfl ?_
  refine x_callVr (pc := 2) (as := [aI v1]) (rest := []) (fun l => c_11_homeAt l v1 σ) md_X11_homeAt ⟨_, _, rfl, by decide⟩ tk_280 tp_0 tk_278 dX11_key_2 rfl ⟨by decide, by decide, by decide, by decide⟩ ⟨fun _ => rfl, fun _ => Or.inl rfl⟩ rfl (Nat.le_of_ble_eq_true rfl) (fun o2 => ?_)
  show X E _ _ _ _ 0 0 _ _ _ [aR 5 o2] _
  refine x_astore_n (pc := 5) (als' := [(3, aR 5 o2), (0, aR 11 (some 0)), (1, aI v1), (2, aI v2)]) 3 dX11_key_5 rfl (by decide) rfl ?_
  refine x_aload_n (pc := 6) 3 dX11_key_6 rfl rfl ?_
  rcases o2 with _ | i3
  ·
    refine x_ifnullN (pc := 7) 19 dX11_key_7 (by decide) ?_
    refine x_iconst (pc := 19) (-1) dX11_key_19 rfl ?_
    exact x_iret (rm := r11_key) rfl rfl dX11_key_20
  ·
    refine x_ifnullS (pc := 7) dX11_key_7 ?_
    refine x_iload_n (pc := 10) 2 dX11_key_10 rfl rfl ?_
    refine x_ldc (pc := 11) (v := 100000) dX11_key_11 tk_282 ?_
    refine x_callSr (pc := 13) (as := [aI v2, aI 100000]) (rest := []) (fun l => c_11_isIn l true v2 100000 σ) md_X11_isIn tk_219 tk_218 dX11_key_13 rfl ⟨by decide, by decide, by decide, by decide⟩ ⟨fun _ => rfl, fun _ => Or.inl rfl⟩ rfl (Nat.le_of_ble_eq_true rfl) (fun r4 => ?_)
    show X E _ _ _ _ 0 0 _ _ _ [aI r4] _
    refine x_if_ne (pc := 16) 21 dX11_key_16 (by decide) (fun _ => ?_) (fun _ => ?_)
    ·
      refine x_aload_n (pc := 21) 3 dX11_key_21 rfl rfl ?_
      refine x_callVr (pc := 22) (as := []) (rest := []) (fun l => c_5_hasKey l true i3 σ) md_X5_hasKey ⟨_, _, rfl, by decide⟩ tk_284 tk_285 tk_283 dX11_key_22 rfl ⟨by decide, by decide, by decide, by decide⟩ ⟨fun _ => rfl, fun _ => Or.inl rfl⟩ rfl (Nat.le_of_ble_eq_true rfl) (fun r5 => ?_)
      show X E _ _ _ _ 0 0 _ _ _ [aI r5] _
      refine x_if_eq (pc := 25) 31 dX11_key_25 (by decide) (fun _ => ?_) (fun _ => ?_)
      ·
        refine x_aload_n (pc := 31) 3 dX11_key_31 rfl rfl ?_
        refine x_aload_n (pc := 32) 0 dX11_key_32 rfl rfl ?_
        refine x_getI (pc := 33) fd_11_6 tk_158 dX11_key_33 ?_
        refine x_putI (pc := 36) fd_5_4 pt_5_4 tk_237 dX11_key_36 (Or.inl rfl) ?_
        refine x_nameS (fun s6 => ?_)
        refine x_aload_n (pc := 39) 3 dX11_key_39 rfl rfl ?_
        refine x_iload_n (pc := 40) 2 dX11_key_40 rfl rfl ?_
        refine x_putI (pc := 41) fd_5_6 pt_5_6 tk_241 dX11_key_41 (Or.inl rfl) ?_
        refine x_nameS (fun s7 => ?_)
        refine x_iconst (pc := 44) 1 dX11_key_44 rfl ?_
        exact x_iret (rm := r11_key) rfl rfl dX11_key_45
      ·
        refine x_bipush (pc := 28) (-3) dX11_key_28 rfl ?_
        exact x_iret (rm := r11_key) rfl rfl dX11_key_30
    ·
      refine x_iconst (pc := 19) (-1) dX11_key_19 rfl ?_
      exact x_iret (rm := r11_key) rfl rfl dX11_key_20
theorem c_11_key (l : Launch)  (v1 : Int32) (v2 : Int32) (σ : zSt) : zMet l yX11_key cX11_key 4 (some .int) r11_key true eI [aR 11 (some 0), aI v1, aI v2] σ (f11_key v1 v2 σ) :=
  zMet_of [(0, aR 11 (some 0)), (1, aI v1), (2, aI v2)] (by decide +kernel) (fun h => by cases h) (Nat.le_of_ble_eq_true rfl) rfl fun E _ => x11_key E  v1 v2 σ
abbrev r11_sell : Room := { frames := 2, cells := 0, slots := 0, locals := 42 }
abbrev m11_sell : zMu := (RX11, 3, (some .int), r11_sell, false)
set_option maxRecDepth 20000 in
theorem x11_sell (E : zEn)  (v1 : Int32) (σ : zSt) : X E cX11_sell m11_sell true (zQw E true eI r11_sell) 0 0 σ [(0, aR 11 (some 0)), (1, aI v1)] 0 [] (f11_sell v1 σ) := by
  unfold f11_sell
  refine x_aload_n (pc := 0) 0 dX11_sell_0 rfl rfl ?_
  refine x_iload_n (pc := 1) 1 dX11_sell_1 rfl rfl ?_
  refine x_callVr (pc := 2) (as := [aI v1]) (rest := []) (fun l => c_11_homeAt l v1 σ) md_X11_homeAt ⟨_, _, rfl, by decide⟩ tk_280 tp_0 tk_278 dX11_sell_2 rfl ⟨by decide, by decide, by decide, by decide⟩ ⟨fun _ => rfl, fun _ => Or.inl rfl⟩ rfl (Nat.le_of_ble_eq_true rfl) (fun o2 => ?_)
  show X E _ _ _ _ 0 0 _ _ _ [aR 5 o2] _
  refine x_astore_n (pc := 5) (als' := [(2, aR 5 o2), (0, aR 11 (some 0)), (1, aI v1)]) 2 dX11_sell_5 rfl (by decide) rfl ?_
  refine x_aload_n (pc := 6) 2 dX11_sell_6 rfl rfl ?_
  rcases o2 with _ | i3
  ·
    refine x_ifnonnullN (pc := 7) dX11_sell_7 ?_
    refine x_iconst (pc := 10) (-1) dX11_sell_10 rfl ?_
    exact x_iret (rm := r11_sell) rfl rfl dX11_sell_11
  ·
    refine x_ifnonnullS (pc := 7) 12 dX11_sell_7 (by decide) ?_
    refine x_aload_n (pc := 12) 2 dX11_sell_12 rfl rfl ?_
    refine x_callVr (pc := 13) (as := []) (rest := []) (fun l => c_5_hasKey l true i3 σ) md_X5_hasKey ⟨_, _, rfl, by decide⟩ tk_284 tk_285 tk_283 dX11_sell_13 rfl ⟨by decide, by decide, by decide, by decide⟩ ⟨fun _ => rfl, fun _ => Or.inl rfl⟩ rfl (Nat.le_of_ble_eq_true rfl) (fun r4 => ?_)
    show X E _ _ _ _ 0 0 _ _ _ [aI r4] _
    refine x_if_ne (pc := 16) 22 dX11_sell_16 (by decide) (fun _ => ?_) (fun _ => ?_)
    ·
      refine x_aload_n (pc := 22) 2 dX11_sell_22 rfl rfl ?_
      refine x_aload_n (pc := 23) 0 dX11_sell_23 rfl rfl ?_
      refine x_getI (pc := 24) fd_11_6 tk_158 dX11_sell_24 ?_
      refine x_callV (pc := 27) (as := [aI (gI σ 11 0 6)]) (rest := []) (fun l => c_5_addSale l i3 (gI σ 11 0 6) σ) md_X5_addSale ⟨_, _, rfl, by decide⟩ tk_292 tk_293 tk_291 dX11_sell_27 rfl ⟨by decide, by decide, by decide, by decide⟩ ⟨fun _ => rfl, fun _ => Or.inl rfl⟩ rfl (Nat.le_of_ble_eq_true rfl) (fun r5 s6 => ?_)
      show X E _ _ _ _ 0 0 _ _ _ [aI r5] _
      refine x_if_eq (pc := 30) 40 dX11_sell_30 (by decide) (fun _ => ?_) (fun _ => ?_)
      ·
        refine x_bipush (pc := 40) (-2) dX11_sell_40 rfl ?_
        exact x_iret (rm := r11_sell) rfl rfl dX11_sell_42
      ·
        refine x_aload_n (pc := 33) 2 dX11_sell_33 rfl rfl ?_
        refine x_getI (pc := 34) fd_5_9 tk_245 dX11_sell_34 ?_
        refine x_goto (pc := 37) 42 dX11_sell_37 (by decide) ?_
        exact x_iret (rm := r11_sell) rfl rfl dX11_sell_42
    ·
      refine x_bipush (pc := 19) (-3) dX11_sell_19 rfl ?_
      exact x_iret (rm := r11_sell) rfl rfl dX11_sell_21
theorem c_11_sell (l : Launch)  (v1 : Int32) (σ : zSt) : zMet l yX11_sell cX11_sell 3 (some .int) r11_sell true eI [aR 11 (some 0), aI v1] σ (f11_sell v1 σ) :=
  zMet_of [(0, aR 11 (some 0)), (1, aI v1)] (by decide +kernel) (fun h => by cases h) (Nat.le_of_ble_eq_true rfl) rfl fun E _ => x11_sell E  v1 σ
abbrev r11_in : Room := { frames := 2, cells := 0, slots := 0, locals := 42 }
abbrev m11_in : zMu := (RX11, 5, (some .int), r11_in, false)
set_option maxRecDepth 20000 in
theorem x11_in (E : zEn)  (v1 : Int32) (v2 : Int32) (σ : zSt) : X E cX11_in m11_in true (zQw E true eI r11_in) 0 0 σ [(0, aR 11 (some 0)), (1, aI v1), (2, aI v2)] 0 [] (f11_in v1 v2 σ) := by
  unfold f11_in
  refine x_aload_n (pc := 0) 0 dX11_in_0 rfl rfl ?_
  refine x_iload_n (pc := 1) 1 dX11_in_1 rfl rfl ?_
  refine x_callVr (pc := 2) (as := [aI v1]) (rest := []) (fun l => c_11_homeAt l v1 σ) md_X11_homeAt ⟨_, _, rfl, by decide⟩ tk_280 tp_0 tk_278 dX11_in_2 rfl ⟨by decide, by decide, by decide, by decide⟩ ⟨fun _ => rfl, fun _ => Or.inl rfl⟩ rfl (Nat.le_of_ble_eq_true rfl) (fun o2 => ?_)
  show X E _ _ _ _ 0 0 _ _ _ [aR 5 o2] _
  refine x_astore_n (pc := 5) (als' := [(3, aR 5 o2), (0, aR 11 (some 0)), (1, aI v1), (2, aI v2)]) 3 dX11_in_5 rfl (by decide) rfl ?_
  refine x_aload_n (pc := 6) 3 dX11_in_6 rfl rfl ?_
  rcases o2 with _ | i3
  ·
    refine x_ifnullN (pc := 7) 20 dX11_in_7 (by decide) ?_
    refine x_iconst (pc := 20) (-1) dX11_in_20 rfl ?_
    exact x_iret (rm := r11_in) rfl rfl dX11_in_21
  ·
    refine x_ifnullS (pc := 7) dX11_in_7 ?_
    refine x_iload_n (pc := 10) 2 dX11_in_10 rfl rfl ?_
    refine x_sipush (pc := 11) 128 dX11_in_11 rfl ?_
    refine x_callSr (pc := 14) (as := [aI v2, aI 128]) (rest := []) (fun l => c_11_isIn l true v2 128 σ) md_X11_isIn tk_219 tk_218 dX11_in_14 rfl ⟨by decide, by decide, by decide, by decide⟩ ⟨fun _ => rfl, fun _ => Or.inl rfl⟩ rfl (Nat.le_of_ble_eq_true rfl) (fun r4 => ?_)
    show X E _ _ _ _ 0 0 _ _ _ [aI r4] _
    refine x_if_ne (pc := 17) 22 dX11_in_17 (by decide) (fun _ => ?_) (fun _ => ?_)
    ·
      refine x_aload_n (pc := 22) 3 dX11_in_22 rfl rfl ?_
      refine x_getI (pc := 23) fd_5_5 tk_240 dX11_in_23 ?_
      refine x_nameI (fun x5 => ?_)
      refine x_istore (pc := 26) (als' := [(4, aI x5), (3, aR 5 (some i3)), (0, aR 11 (some 0)), (1, aI v1), (2, aI v2)]) 4 dX11_in_26 (by decide) rfl ?_
      refine x_aload_n (pc := 28) 3 dX11_in_28 rfl rfl ?_
      refine x_iload_n (pc := 29) 2 dX11_in_29 rfl rfl ?_
      refine x_putI (pc := 30) fd_5_5 pt_5_5 tk_240 dX11_in_30 (Or.inl rfl) ?_
      refine x_nameS (fun s6 => ?_)
      refine x_iload (pc := 33) 4 dX11_in_33 rfl ?_
      exact x_iret (rm := r11_in) rfl rfl dX11_in_35
    ·
      refine x_iconst (pc := 20) (-1) dX11_in_20 rfl ?_
      exact x_iret (rm := r11_in) rfl rfl dX11_in_21
theorem c_11_in (l : Launch)  (v1 : Int32) (v2 : Int32) (σ : zSt) : zMet l yX11_in cX11_in 5 (some .int) r11_in true eI [aR 11 (some 0), aI v1, aI v2] σ (f11_in v1 v2 σ) :=
  zMet_of [(0, aR 11 (some 0)), (1, aI v1), (2, aI v2)] (by decide +kernel) (fun h => by cases h) (Nat.le_of_ble_eq_true rfl) rfl fun E _ => x11_in E  v1 v2 σ
abbrev r11_crew : Room := { frames := 2, cells := 0, slots := 0, locals := 42 }
abbrev m11_crew : zMu := (RX11, 6, (some .int), r11_crew, false)
set_option maxRecDepth 20000 in
theorem x11_crew (E : zEn)  (v1 : Int32) (v2 : Int32) (v3 : Int32) (σ : zSt) : X E cX11_crew m11_crew true (zQw E true eI r11_crew) 0 0 σ [(0, aR 11 (some 0)), (1, aI v1), (2, aI v2), (3, aI v3)] 0 [] (f11_crew v1 v2 v3 σ) := by
  unfold f11_crew
  refine x_aload_n (pc := 0) 0 dX11_crew_0 rfl rfl ?_
  refine x_iload_n (pc := 1) 1 dX11_crew_1 rfl rfl ?_
  refine x_callVr (pc := 2) (as := [aI v1]) (rest := []) (fun l => c_11_homeAt l v1 σ) md_X11_homeAt ⟨_, _, rfl, by decide⟩ tk_280 tp_0 tk_278 dX11_crew_2 rfl ⟨by decide, by decide, by decide, by decide⟩ ⟨fun _ => rfl, fun _ => Or.inl rfl⟩ rfl (Nat.le_of_ble_eq_true rfl) (fun o2 => ?_)
  show X E _ _ _ _ 0 0 _ _ _ [aR 5 o2] _
  refine x_astore (pc := 5) (als' := [(4, aR 5 o2), (0, aR 11 (some 0)), (1, aI v1), (2, aI v2), (3, aI v3)]) 4 dX11_crew_5 (by decide) rfl ?_
  refine x_aload (pc := 7) 4 dX11_crew_7 rfl ?_
  rcases o2 with _ | i3
  ·
    refine x_ifnullN (pc := 9) 35 dX11_crew_9 (by decide) ?_
    refine x_ldc (pc := 35) (v := (-2000000000)) dX11_crew_35 tk_303 ?_
    exact x_iret (rm := r11_crew) rfl rfl dX11_crew_37
  ·
    refine x_ifnullS (pc := 9) dX11_crew_9 ?_
    refine x_iload_n (pc := 12) 2 dX11_crew_12 rfl rfl ?_
    refine x_bipush (pc := 13) 10 dX11_crew_13 rfl ?_
    refine x_callSr (pc := 15) (as := [aI v2, aI 10]) (rest := []) (fun l => c_11_isIn l true v2 10 σ) md_X11_isIn tk_219 tk_218 dX11_crew_15 rfl ⟨by decide, by decide, by decide, by decide⟩ ⟨fun _ => rfl, fun _ => Or.inl rfl⟩ rfl (Nat.le_of_ble_eq_true rfl) (fun r4 => ?_)
    show X E _ _ _ _ 0 0 _ _ _ [aI r4] _
    refine x_if_eq (pc := 18) 35 dX11_crew_18 (by decide) (fun _ => ?_) (fun _ => ?_)
    ·
      refine x_ldc (pc := 35) (v := (-2000000000)) dX11_crew_35 tk_303 ?_
      exact x_iret (rm := r11_crew) rfl rfl dX11_crew_37
    ·
      refine x_iload_n (pc := 21) 3 dX11_crew_21 rfl rfl ?_
      refine x_iconst (pc := 22) (-1) dX11_crew_22 rfl ?_
      refine x_join (P := fun (j5 : Option (Int32 × zSt)) => X E cX11_crew m11_crew true (zQw E true eI r11_crew) 0 0 σ [(2, aI v2), (3, aI v3), (4, aR 5 (some i3))] 38 [] j5) ?_ ?_
      ·
        refine x_aload (pc := 38) 4 dX11_crew_38 rfl ?_
        refine x_iload_n (pc := 40) 2 dX11_crew_40 rfl rfl ?_
        refine x_callVr (pc := 41) (as := [aI v2]) (rest := []) (fun l => c_5_crewOf l i3 v2 σ) md_X5_crewOf ⟨_, _, rfl, by decide⟩ tk_305 tk_306 tk_304 dX11_crew_41 rfl ⟨by decide, by decide, by decide, by decide⟩ ⟨fun _ => rfl, fun _ => Or.inl rfl⟩ rfl (Nat.le_of_ble_eq_true rfl) (fun r7 => ?_)
        show X E _ _ _ _ 0 0 _ _ _ [aI r7] _
        refine x_istore (pc := 44) (als' := [(5, aI r7), (2, aI v2), (3, aI v3), (4, aR 5 (some i3))]) 5 dX11_crew_44 (by decide) rfl ?_
        refine x_aload (pc := 46) 4 dX11_crew_46 rfl ?_
        refine x_getF (pc := 48) (j := i3) fd_5_11 rfl rfl tk_248 dX11_crew_48 ?_
        refine x_iload_n (pc := 51) 2 dX11_crew_51 rfl rfl ?_
        refine x_iload_n (pc := 52) 3 dX11_crew_52 rfl rfl ?_
        refine x_iast (pc := 53) ar_611 dX11_crew_53 (fun m8 => ?_)
        refine x_nameS (fun s9 => ?_)
        refine x_iload (pc := 54) 5 dX11_crew_54 rfl ?_
        exact x_iret (rm := r11_crew) rfl rfl dX11_crew_56
      · intro j5 hj6
        refine x_icmp_eq (pc := 23) 38 dX11_crew_23 (by decide) (fun _ => ?_) (fun _ => ?_)
        ·
          exact x_sub [3, 4, 0] rfl (hj6)
        ·
          refine x_iload_n (pc := 26) 3 dX11_crew_26 rfl rfl ?_
          refine x_bipush (pc := 27) 10 dX11_crew_27 rfl ?_
          refine x_callSr (pc := 29) (as := [aI v3, aI 10]) (rest := []) (fun l => c_11_isIn l true v3 10 σ) md_X11_isIn tk_219 tk_218 dX11_crew_29 rfl ⟨by decide, by decide, by decide, by decide⟩ ⟨fun _ => rfl, fun _ => Or.inl rfl⟩ rfl (Nat.le_of_ble_eq_true rfl) (fun r10 => ?_)
          show X E _ _ _ _ 0 0 _ _ _ [aI r10] _
          refine x_if_ne (pc := 32) 38 dX11_crew_32 (by decide) (fun _ => ?_) (fun _ => ?_)
          ·
            exact x_sub [3, 4, 0] rfl (hj6)
          ·
            refine x_ldc (pc := 35) (v := (-2000000000)) dX11_crew_35 tk_303 ?_
            exact x_iret (rm := r11_crew) rfl rfl dX11_crew_37
theorem c_11_crew (l : Launch)  (v1 : Int32) (v2 : Int32) (v3 : Int32) (σ : zSt) : zMet l yX11_crew cX11_crew 6 (some .int) r11_crew true eI [aR 11 (some 0), aI v1, aI v2, aI v3] σ (f11_crew v1 v2 v3 σ) :=
  zMet_of [(0, aR 11 (some 0)), (1, aI v1), (2, aI v2), (3, aI v3)] (by decide +kernel) (fun h => by cases h) (Nat.le_of_ble_eq_true rfl) rfl fun E _ => x11_crew E  v1 v2 v3 σ
abbrev r11_toldIn : Room := { frames := 0, cells := 0, slots := 0, locals := 0 }
abbrev m11_toldIn : zMu := (RX11, 4, (some .int), r11_toldIn, false)
set_option maxRecDepth 20000 in
theorem xl11_toldIn_4 (E : zEn)   (h1 : Nat) (σ : zSt)   : ∀ (n : Nat) (v2 : Int32) (v3 : Int32), X E cX11_toldIn m11_toldIn true (zQr E true eI r11_toldIn σ) 0 0 σ [(0, aR 11 (some 0)), (1, aR 5 (some h1)), (2, aI v2), (3, aI v3)] 4 [] (f11_toldIn_L4 h1 σ n v2 v3) := by
  intro n
  induction n with
  | zero => intros; exact x_none
  | succ n ih =>
    intro v2 v3
    rw [f11_toldIn_L4]
    refine x_iload_n (pc := 4) 3 dX11_toldIn_4 rfl rfl ?_
    refine x_aload_n (pc := 5) 0 dX11_toldIn_5 rfl rfl ?_
    refine x_getI (pc := 6) fd_11_5 tk_157 dX11_toldIn_6 ?_
    refine x_icmp_ge (pc := 9) 39 dX11_toldIn_9 (by decide) (fun _ => ?_) (fun _ => ?_)
    ·
      refine x_iload_n (pc := 39) 2 dX11_toldIn_39 rfl rfl ?_
      exact x_iret (rm := r11_toldIn) rfl rfl dX11_toldIn_40
    ·
      refine x_iload_n (pc := 12) 2 dX11_toldIn_12 rfl rfl ?_
      refine x_aload_n (pc := 13) 0 dX11_toldIn_13 rfl rfl ?_
      refine x_getF (pc := 14) (j := 0) fd_11_4 rfl rfl tk_156 dX11_toldIn_14 ?_
      refine x_iload_n (pc := 17) 3 dX11_toldIn_17 rfl rfl ?_
      refine x_aald (pc := 18) (g0 := 1) ar_1204 (by decide) rfl dX11_toldIn_18 (fun m1 => ?_)
      refine x_nameR (fun o2 => ?_)
      rcases o2 with _ | i3
      · exact x_none
      ·
        skip
        refine x_zocS ?_
        refine x_getR (pc := 19) fd_1_1 tk_432 dX11_toldIn_19 ?_
        refine x_nameR (fun o4 => ?_)
        refine x_aload_n (pc := 22) 1 dX11_toldIn_22 rfl rfl ?_
        refine x_mg (c := o4 = (some h1)) (a := 1) (b := 0) 31 [aI v2] ?_ (fun hm5 => ?_)
        ·
          refine x_iadd (pc := 31) dX11_toldIn_31 ?_
          refine x_nameI (fun x9 => ?_)
          refine x_istore_n (pc := 32) (als' := [(2, aI x9), (0, aR 11 (some 0)), (1, aR 5 (some h1)), (3, aI v3)]) 2 dX11_toldIn_32 rfl (by decide) rfl ?_
          refine x_iinc (pc := 33) (als' := [(3, aI (v3 + 1)), (2, aI x9), (0, aR 11 (some 0)), (1, aR 5 (some h1))]) 3 3 (c := 1) dX11_toldIn_33 rfl rfl (by decide) rfl ?_
          refine x_nameV (g := fun y11 => [(3, aI y11), (2, aI x9), (0, aR 11 (some 0)), (1, aR 5 (some h1))]) (fun x10 => ?_) rfl
          refine x_goto (pc := 36) 4 dX11_toldIn_36 (by decide) ?_
          exact x_sub [2, 3, 1, 0] rfl (ih x9 x10)
        ·
          refine x_same (c := o4 = (some h1)) ?_
          refine x_acmp_ne (pc := 23) 30 (by decide) dX11_toldIn_23 (by decide) (fun hc6 => ?_) (fun hc6 => ?_)
          ·
            have hm8 := x_topF hc6 hm5
            refine x_iconst (pc := 30) 0 dX11_toldIn_30 rfl ?_
            exact hm8
          ·
            have hm7 := x_topT hc6 hm5
            refine x_iconst (pc := 26) 1 dX11_toldIn_26 rfl ?_
            refine x_goto (pc := 27) 31 dX11_toldIn_27 (by decide) ?_
            exact hm7
set_option maxRecDepth 20000 in
theorem x11_toldIn (E : zEn)  (h1 : Nat) (σ : zSt) : X E cX11_toldIn m11_toldIn true (zQr E true eI r11_toldIn σ) 0 0 σ [(0, aR 11 (some 0)), (1, aR 5 (some h1))] 0 [] (f11_toldIn h1 σ) := by
  unfold f11_toldIn
  refine x_iconst (pc := 0) 0 dX11_toldIn_0 rfl ?_
  refine x_istore_n (pc := 1) (als' := [(2, aI 0), (0, aR 11 (some 0)), (1, aR 5 (some h1))]) 2 dX11_toldIn_1 rfl (by decide) rfl ?_
  refine x_iconst (pc := 2) 0 dX11_toldIn_2 rfl ?_
  refine x_istore_n (pc := 3) (als' := [(3, aI 0), (2, aI 0), (0, aR 11 (some 0)), (1, aR 5 (some h1))]) 3 dX11_toldIn_3 rfl (by decide) rfl ?_
  refine x_sub [2, 3, 1, 0] rfl (xl11_toldIn_4 E h1 σ zfuel 0 0)
theorem c_11_toldIn (l : Launch)  (h1 : Nat) (σ : zSt) : zMet l yX11_toldIn cX11_toldIn 4 (some .int) r11_toldIn true eI [aR 11 (some 0), aR 5 (some h1)] σ (zro (f11_toldIn h1 σ) σ) :=
  zMet_ofR [(0, aR 11 (some 0)), (1, aR 5 (some h1))] (by decide +kernel) (fun h => by cases h) (Nat.le_of_ble_eq_true rfl) rfl fun E _ => x11_toldIn E  h1 σ
abbrev r11_leftIn : Room := { frames := 2, cells := 0, slots := 0, locals := 45 }
abbrev m11_leftIn : zMu := (RX11, 4, (some .int), r11_leftIn, false)
set_option maxRecDepth 20000 in
theorem xl11_leftIn_4 (E : zEn)   (h1 : Nat) (σ : zSt)   : ∀ (n : Nat) (v2 : Int32) (v3 : Int32), X E cX11_leftIn m11_leftIn true (zQr E true eI r11_leftIn σ) 0 0 σ [(0, aR 11 (some 0)), (1, aR 5 (some h1)), (2, aI v2), (3, aI v3)] 4 [] (f11_leftIn_L4 h1 σ n v2 v3) := by
  intro n
  induction n with
  | zero => intros; exact x_none
  | succ n ih =>
    intro v2 v3
    rw [f11_leftIn_L4]
    refine x_iload_n (pc := 4) 3 dX11_leftIn_4 rfl rfl ?_
    refine x_aload_n (pc := 5) 0 dX11_leftIn_5 rfl rfl ?_
    refine x_getI (pc := 6) fd_11_5 tk_157 dX11_leftIn_6 ?_
    refine x_icmp_ge (pc := 9) 55 dX11_leftIn_9 (by decide) (fun _ => ?_) (fun _ => ?_)
    ·
      refine x_iload_n (pc := 55) 2 dX11_leftIn_55 rfl rfl ?_
      exact x_iret (rm := r11_leftIn) rfl rfl dX11_leftIn_56
    ·
      refine x_iload_n (pc := 12) 2 dX11_leftIn_12 rfl rfl ?_
      refine x_aload_n (pc := 13) 0 dX11_leftIn_13 rfl rfl ?_
      refine x_getF (pc := 14) (j := 0) fd_11_4 rfl rfl tk_156 dX11_leftIn_14 ?_
      refine x_iload_n (pc := 17) 3 dX11_leftIn_17 rfl rfl ?_
      refine x_aald (pc := 18) (g0 := 1) ar_1204 (by decide) rfl dX11_leftIn_18 (fun m1 => ?_)
      refine x_nameR (fun o2 => ?_)
      rcases o2 with _ | i3
      · exact x_none
      ·
        skip
        refine x_zocS ?_
        refine x_getR (pc := 19) fd_1_1 tk_432 dX11_leftIn_19 ?_
        refine x_nameR (fun o4 => ?_)
        refine x_aload_n (pc := 22) 1 dX11_leftIn_22 rfl rfl ?_
        refine x_join (P := fun (j6 : Int32 → Option Int32) => ∀ (a5 : Int32), X E cX11_leftIn m11_leftIn true (zQr E true eI r11_leftIn σ) 0 0 σ [(0, aR 11 (some 0)), (1, aR 5 (some h1)), (3, aI v3)] 47 [aI a5, aI v2] (j6 a5)) ?_ ?_
        · intro a5
          refine x_iadd (pc := 47) dX11_leftIn_47 ?_
          refine x_nameI (fun x8 => ?_)
          refine x_istore_n (pc := 48) (als' := [(2, aI x8), (0, aR 11 (some 0)), (1, aR 5 (some h1)), (3, aI v3)]) 2 dX11_leftIn_48 rfl (by decide) rfl ?_
          refine x_iinc (pc := 49) (als' := [(3, aI (v3 + 1)), (2, aI x8), (0, aR 11 (some 0)), (1, aR 5 (some h1))]) 3 3 (c := 1) dX11_leftIn_49 rfl rfl (by decide) rfl ?_
          refine x_nameV (g := fun y10 => [(3, aI y10), (2, aI x8), (0, aR 11 (some 0)), (1, aR 5 (some h1))]) (fun x9 => ?_) rfl
          refine x_goto (pc := 52) 4 dX11_leftIn_52 (by decide) ?_
          exact x_sub [2, 3, 1, 0] rfl (ih x8 x9)
        · intro j6 hj7
          refine x_join (P := fun (j11 : Option Int32) => X E cX11_leftIn m11_leftIn true (zQr E true eI r11_leftIn σ) 0 0 σ [(0, aR 11 (some 0)), (1, aR 5 (some h1)), (3, aI v3)] 46 [aI v2] j11) ?_ ?_
          ·
            refine x_iconst (pc := 46) 0 dX11_leftIn_46 rfl ?_
            exact hj7 0
          · intro j11 hj12
            refine x_acmp_ne (pc := 23) 46 (by decide) dX11_leftIn_23 (by decide) (fun _ => ?_) (fun _ => ?_)
            ·
              exact x_sub [0, 1, 3] rfl (hj12)
            ·
              refine x_aload_n (pc := 26) 0 dX11_leftIn_26 rfl rfl ?_
              refine x_getF (pc := 27) (j := 0) fd_11_4 rfl rfl tk_156 dX11_leftIn_27 ?_
              refine x_iload_n (pc := 30) 3 dX11_leftIn_30 rfl rfl ?_
              refine x_aald (pc := 31) (g0 := 1) ar_1204 (by decide) rfl dX11_leftIn_31 (fun m13 => ?_)
              refine x_nameR (fun o14 => ?_)
              refine x_aload_n (pc := 32) 0 dX11_leftIn_32 rfl rfl ?_
              refine x_getI (pc := 33) fd_11_6 tk_158 dX11_leftIn_33 ?_
              rcases o14 with _ | i15
              · exact x_none
              ·
                skip
                refine x_zocS ?_
                refine x_callVr (pc := 36) (as := [aI (gI σ 11 0 6)]) (rest := [aI v2]) (fun l => c_1_isLeftOn l i15 (gI σ 11 0 6) σ) md_X1_isLeftOn ⟨_, _, rfl, by decide⟩ tk_322 tk_323 tk_321 dX11_leftIn_36 rfl ⟨by decide, by decide, by decide, by decide⟩ ⟨fun _ => rfl, fun _ => Or.inl rfl⟩ rfl (Nat.le_of_ble_eq_true rfl) (fun r16 => ?_)
                show X E _ _ _ _ 0 0 _ _ _ [aI r16, aI v2] _
                refine x_if_eq (pc := 39) 46 dX11_leftIn_39 (by decide) (fun _ => ?_) (fun _ => ?_)
                ·
                  exact x_sub [0, 1, 3] rfl (hj12)
                ·
                  refine x_iconst (pc := 42) 1 dX11_leftIn_42 rfl ?_
                  refine x_goto (pc := 43) 47 dX11_leftIn_43 (by decide) ?_
                  exact x_sub [0, 1, 3] rfl (hj7 1)
set_option maxRecDepth 20000 in
theorem x11_leftIn (E : zEn)  (h1 : Nat) (σ : zSt) : X E cX11_leftIn m11_leftIn true (zQr E true eI r11_leftIn σ) 0 0 σ [(0, aR 11 (some 0)), (1, aR 5 (some h1))] 0 [] (f11_leftIn h1 σ) := by
  unfold f11_leftIn
  refine x_iconst (pc := 0) 0 dX11_leftIn_0 rfl ?_
  refine x_istore_n (pc := 1) (als' := [(2, aI 0), (0, aR 11 (some 0)), (1, aR 5 (some h1))]) 2 dX11_leftIn_1 rfl (by decide) rfl ?_
  refine x_iconst (pc := 2) 0 dX11_leftIn_2 rfl ?_
  refine x_istore_n (pc := 3) (als' := [(3, aI 0), (2, aI 0), (0, aR 11 (some 0)), (1, aR 5 (some h1))]) 3 dX11_leftIn_3 rfl (by decide) rfl ?_
  refine x_sub [2, 3, 1, 0] rfl (xl11_leftIn_4 E h1 σ zfuel 0 0)
theorem c_11_leftIn (l : Launch)  (h1 : Nat) (σ : zSt) : zMet l yX11_leftIn cX11_leftIn 4 (some .int) r11_leftIn true eI [aR 11 (some 0), aR 5 (some h1)] σ (zro (f11_leftIn h1 σ) σ) :=
  zMet_ofR [(0, aR 11 (some 0)), (1, aR 5 (some h1))] (by decide +kernel) (fun h => by cases h) (Nat.le_of_ble_eq_true rfl) rfl fun E _ => x11_leftIn E  h1 σ
abbrev r11_falseIn : Room := { frames := 2, cells := 0, slots := 0, locals := 45 }
abbrev m11_falseIn : zMu := (RX11, 4, (some .int), r11_falseIn, false)
set_option maxRecDepth 20000 in
theorem xl11_falseIn_4 (E : zEn)   (h1 : Nat) (σ : zSt)   : ∀ (n : Nat) (v2 : Int32) (v3 : Int32), X E cX11_falseIn m11_falseIn true (zQr E true eI r11_falseIn σ) 0 0 σ [(0, aR 11 (some 0)), (1, aR 5 (some h1)), (2, aI v2), (3, aI v3)] 4 [] (f11_falseIn_L4 h1 σ n v2 v3) := by
  intro n
  induction n with
  | zero => intros; exact x_none
  | succ n ih =>
    intro v2 v3
    rw [f11_falseIn_L4]
    refine x_iload_n (pc := 4) 3 dX11_falseIn_4 rfl rfl ?_
    refine x_aload_n (pc := 5) 0 dX11_falseIn_5 rfl rfl ?_
    refine x_getI (pc := 6) fd_11_5 tk_157 dX11_falseIn_6 ?_
    refine x_icmp_ge (pc := 9) 51 dX11_falseIn_9 (by decide) (fun _ => ?_) (fun _ => ?_)
    ·
      refine x_iload_n (pc := 51) 2 dX11_falseIn_51 rfl rfl ?_
      exact x_iret (rm := r11_falseIn) rfl rfl dX11_falseIn_52
    ·
      refine x_iload_n (pc := 12) 2 dX11_falseIn_12 rfl rfl ?_
      refine x_aload_n (pc := 13) 0 dX11_falseIn_13 rfl rfl ?_
      refine x_getF (pc := 14) (j := 0) fd_11_4 rfl rfl tk_156 dX11_falseIn_14 ?_
      refine x_iload_n (pc := 17) 3 dX11_falseIn_17 rfl rfl ?_
      refine x_aald (pc := 18) (g0 := 1) ar_1204 (by decide) rfl dX11_falseIn_18 (fun m1 => ?_)
      refine x_nameR (fun o2 => ?_)
      rcases o2 with _ | i3
      · exact x_none
      ·
        skip
        refine x_zocS ?_
        refine x_getR (pc := 19) fd_1_1 tk_432 dX11_falseIn_19 ?_
        refine x_nameR (fun o4 => ?_)
        refine x_aload_n (pc := 22) 1 dX11_falseIn_22 rfl rfl ?_
        refine x_join (P := fun (j6 : Int32 → Option Int32) => ∀ (a5 : Int32), X E cX11_falseIn m11_falseIn true (zQr E true eI r11_falseIn σ) 0 0 σ [(0, aR 11 (some 0)), (1, aR 5 (some h1)), (3, aI v3)] 43 [aI a5, aI v2] (j6 a5)) ?_ ?_
        · intro a5
          refine x_iadd (pc := 43) dX11_falseIn_43 ?_
          refine x_nameI (fun x8 => ?_)
          refine x_istore_n (pc := 44) (als' := [(2, aI x8), (0, aR 11 (some 0)), (1, aR 5 (some h1)), (3, aI v3)]) 2 dX11_falseIn_44 rfl (by decide) rfl ?_
          refine x_iinc (pc := 45) (als' := [(3, aI (v3 + 1)), (2, aI x8), (0, aR 11 (some 0)), (1, aR 5 (some h1))]) 3 3 (c := 1) dX11_falseIn_45 rfl rfl (by decide) rfl ?_
          refine x_nameV (g := fun y10 => [(3, aI y10), (2, aI x8), (0, aR 11 (some 0)), (1, aR 5 (some h1))]) (fun x9 => ?_) rfl
          refine x_goto (pc := 48) 4 dX11_falseIn_48 (by decide) ?_
          exact x_sub [2, 3, 1, 0] rfl (ih x8 x9)
        · intro j6 hj7
          refine x_acmp_ne (pc := 23) 42 (by decide) dX11_falseIn_23 (by decide) (fun _ => ?_) (fun _ => ?_)
          ·
            refine x_iconst (pc := 42) 0 dX11_falseIn_42 rfl ?_
            exact x_sub [0, 1, 3] rfl (hj7 0)
          ·
            refine x_aload_n (pc := 26) 0 dX11_falseIn_26 rfl rfl ?_
            refine x_getF (pc := 27) (j := 0) fd_11_4 rfl rfl tk_156 dX11_falseIn_27 ?_
            refine x_iload_n (pc := 30) 3 dX11_falseIn_30 rfl rfl ?_
            refine x_aald (pc := 31) (g0 := 1) ar_1204 (by decide) rfl dX11_falseIn_31 (fun m11 => ?_)
            refine x_nameR (fun o12 => ?_)
            rcases o12 with _ | i13
            · exact x_none
            ·
              skip
              refine x_zocS ?_
              refine x_getF (pc := 32) (j := i13) fd_1_7 rfl rfl tk_446 dX11_falseIn_32 ?_
              refine x_iconst (pc := 35) (-1) dX11_falseIn_35 rfl ?_
              refine x_callVr (pc := 36) (as := [aI (-1)]) (rest := [aI v2]) (fun l => c_4_timesFalse l i13 (-1) σ) md_X4_timesFalse ⟨_, _, rfl, by decide⟩ tk_334 tk_335 tk_333 dX11_falseIn_36 rfl ⟨by decide, by decide, by decide, by decide⟩ ⟨fun _ => rfl, fun _ => Or.inl rfl⟩ rfl (Nat.le_of_ble_eq_true rfl) (fun r14 => ?_)
              show X E _ _ _ _ 0 0 _ _ _ [aI r14, aI v2] _
              refine x_goto (pc := 39) 43 dX11_falseIn_39 (by decide) ?_
              exact x_sub [0, 1, 3] rfl (hj7 r14)
set_option maxRecDepth 20000 in
theorem x11_falseIn (E : zEn)  (h1 : Nat) (σ : zSt) : X E cX11_falseIn m11_falseIn true (zQr E true eI r11_falseIn σ) 0 0 σ [(0, aR 11 (some 0)), (1, aR 5 (some h1))] 0 [] (f11_falseIn h1 σ) := by
  unfold f11_falseIn
  refine x_iconst (pc := 0) 0 dX11_falseIn_0 rfl ?_
  refine x_istore_n (pc := 1) (als' := [(2, aI 0), (0, aR 11 (some 0)), (1, aR 5 (some h1))]) 2 dX11_falseIn_1 rfl (by decide) rfl ?_
  refine x_iconst (pc := 2) 0 dX11_falseIn_2 rfl ?_
  refine x_istore_n (pc := 3) (als' := [(3, aI 0), (2, aI 0), (0, aR 11 (some 0)), (1, aR 5 (some h1))]) 3 dX11_falseIn_3 rfl (by decide) rfl ?_
  refine x_sub [2, 3, 1, 0] rfl (xl11_falseIn_4 E h1 σ zfuel 0 0)
theorem c_11_falseIn (l : Launch)  (h1 : Nat) (σ : zSt) : zMet l yX11_falseIn cX11_falseIn 4 (some .int) r11_falseIn true eI [aR 11 (some 0), aR 5 (some h1)] σ (zro (f11_falseIn h1 σ) σ) :=
  zMet_ofR [(0, aR 11 (some 0)), (1, aR 5 (some h1))] (by decide +kernel) (fun h => by cases h) (Nat.le_of_ble_eq_true rfl) rfl fun E _ => x11_falseIn E  h1 σ
abbrev r11_brokenIn : Room := { frames := 2, cells := 0, slots := 0, locals := 42 }
abbrev m11_brokenIn : zMu := (RX11, 4, (some .int), r11_brokenIn, false)
set_option maxRecDepth 20000 in
theorem xl11_brokenIn_4 (E : zEn)   (h1 : Nat) (σ : zSt)   : ∀ (n : Nat) (v2 : Int32) (v3 : Int32), X E cX11_brokenIn m11_brokenIn true (zQr E true eI r11_brokenIn σ) 0 0 σ [(0, aR 11 (some 0)), (1, aR 5 (some h1)), (2, aI v2), (3, aI v3)] 4 [] (f11_brokenIn_L4 h1 σ n v2 v3) := by
  intro n
  induction n with
  | zero => intros; exact x_none
  | succ n ih =>
    intro v2 v3
    rw [f11_brokenIn_L4]
    refine x_iload_n (pc := 4) 3 dX11_brokenIn_4 rfl rfl ?_
    refine x_aload_n (pc := 5) 0 dX11_brokenIn_5 rfl rfl ?_
    refine x_getI (pc := 6) fd_11_5 tk_157 dX11_brokenIn_6 ?_
    refine x_icmp_ge (pc := 9) 51 dX11_brokenIn_9 (by decide) (fun _ => ?_) (fun _ => ?_)
    ·
      refine x_iload_n (pc := 51) 2 dX11_brokenIn_51 rfl rfl ?_
      exact x_iret (rm := r11_brokenIn) rfl rfl dX11_brokenIn_52
    ·
      refine x_iload_n (pc := 12) 2 dX11_brokenIn_12 rfl rfl ?_
      refine x_aload_n (pc := 13) 0 dX11_brokenIn_13 rfl rfl ?_
      refine x_getF (pc := 14) (j := 0) fd_11_4 rfl rfl tk_156 dX11_brokenIn_14 ?_
      refine x_iload_n (pc := 17) 3 dX11_brokenIn_17 rfl rfl ?_
      refine x_aald (pc := 18) (g0 := 1) ar_1204 (by decide) rfl dX11_brokenIn_18 (fun m1 => ?_)
      refine x_nameR (fun o2 => ?_)
      rcases o2 with _ | i3
      · exact x_none
      ·
        skip
        refine x_zocS ?_
        refine x_getR (pc := 19) fd_1_1 tk_432 dX11_brokenIn_19 ?_
        refine x_nameR (fun o4 => ?_)
        refine x_aload_n (pc := 22) 1 dX11_brokenIn_22 rfl rfl ?_
        refine x_join (P := fun (j6 : Int32 → Option Int32) => ∀ (a5 : Int32), X E cX11_brokenIn m11_brokenIn true (zQr E true eI r11_brokenIn σ) 0 0 σ [(0, aR 11 (some 0)), (1, aR 5 (some h1)), (3, aI v3)] 43 [aI a5, aI v2] (j6 a5)) ?_ ?_
        · intro a5
          refine x_iadd (pc := 43) dX11_brokenIn_43 ?_
          refine x_nameI (fun x8 => ?_)
          refine x_istore_n (pc := 44) (als' := [(2, aI x8), (0, aR 11 (some 0)), (1, aR 5 (some h1)), (3, aI v3)]) 2 dX11_brokenIn_44 rfl (by decide) rfl ?_
          refine x_iinc (pc := 45) (als' := [(3, aI (v3 + 1)), (2, aI x8), (0, aR 11 (some 0)), (1, aR 5 (some h1))]) 3 3 (c := 1) dX11_brokenIn_45 rfl rfl (by decide) rfl ?_
          refine x_nameV (g := fun y10 => [(3, aI y10), (2, aI x8), (0, aR 11 (some 0)), (1, aR 5 (some h1))]) (fun x9 => ?_) rfl
          refine x_goto (pc := 48) 4 dX11_brokenIn_48 (by decide) ?_
          exact x_sub [2, 3, 1, 0] rfl (ih x8 x9)
        · intro j6 hj7
          refine x_acmp_ne (pc := 23) 42 (by decide) dX11_brokenIn_23 (by decide) (fun _ => ?_) (fun _ => ?_)
          ·
            refine x_iconst (pc := 42) 0 dX11_brokenIn_42 rfl ?_
            exact x_sub [0, 1, 3] rfl (hj7 0)
          ·
            refine x_aload_n (pc := 26) 0 dX11_brokenIn_26 rfl rfl ?_
            refine x_getF (pc := 27) (j := 0) fd_11_4 rfl rfl tk_156 dX11_brokenIn_27 ?_
            refine x_iload_n (pc := 30) 3 dX11_brokenIn_30 rfl rfl ?_
            refine x_aald (pc := 31) (g0 := 1) ar_1204 (by decide) rfl dX11_brokenIn_31 (fun m11 => ?_)
            refine x_nameR (fun o12 => ?_)
            refine x_aload_n (pc := 32) 0 dX11_brokenIn_32 rfl rfl ?_
            refine x_getI (pc := 33) fd_11_6 tk_158 dX11_brokenIn_33 ?_
            rcases o12 with _ | i13
            · exact x_none
            ·
              skip
              refine x_zocS ?_
              refine x_callVr (pc := 36) (as := [aI (gI σ 11 0 6)]) (rest := [aI v2]) (fun l => c_1_brokenBy l true i13 (gI σ 11 0 6) σ) md_X1_brokenBy ⟨_, _, rfl, by decide⟩ tk_347 tk_348 tk_346 dX11_brokenIn_36 rfl ⟨by decide, by decide, by decide, by decide⟩ ⟨fun _ => rfl, fun _ => Or.inl rfl⟩ rfl (Nat.le_of_ble_eq_true rfl) (fun r14 => ?_)
              show X E _ _ _ _ 0 0 _ _ _ [aI r14, aI v2] _
              refine x_goto (pc := 39) 43 dX11_brokenIn_39 (by decide) ?_
              exact x_sub [0, 1, 3] rfl (hj7 r14)
set_option maxRecDepth 20000 in
theorem x11_brokenIn (E : zEn)  (h1 : Nat) (σ : zSt) : X E cX11_brokenIn m11_brokenIn true (zQr E true eI r11_brokenIn σ) 0 0 σ [(0, aR 11 (some 0)), (1, aR 5 (some h1))] 0 [] (f11_brokenIn h1 σ) := by
  unfold f11_brokenIn
  refine x_iconst (pc := 0) 0 dX11_brokenIn_0 rfl ?_
  refine x_istore_n (pc := 1) (als' := [(2, aI 0), (0, aR 11 (some 0)), (1, aR 5 (some h1))]) 2 dX11_brokenIn_1 rfl (by decide) rfl ?_
  refine x_iconst (pc := 2) 0 dX11_brokenIn_2 rfl ?_
  refine x_istore_n (pc := 3) (als' := [(3, aI 0), (2, aI 0), (0, aR 11 (some 0)), (1, aR 5 (some h1))]) 3 dX11_brokenIn_3 rfl (by decide) rfl ?_
  refine x_sub [2, 3, 1, 0] rfl (xl11_brokenIn_4 E h1 σ zfuel 0 0)
theorem c_11_brokenIn (l : Launch)  (h1 : Nat) (σ : zSt) : zMet l yX11_brokenIn cX11_brokenIn 4 (some .int) r11_brokenIn true eI [aR 11 (some 0), aR 5 (some h1)] σ (zro (f11_brokenIn h1 σ) σ) :=
  zMet_ofR [(0, aR 11 (some 0)), (1, aR 5 (some h1))] (by decide +kernel) (fun h => by cases h) (Nat.le_of_ble_eq_true rfl) rfl fun E _ => x11_brokenIn E  h1 σ
abbrev r11_ofHome : Room := { frames := 3, cells := 0, slots := 0, locals := 68 }
abbrev m11_ofHome : zMu := (RX11, 4, (some .int), r11_ofHome, false)
set_option maxRecDepth 20000 in
theorem x11_ofHome (E : zEn)  (v1 : Int32) (v2 : Int32) (σ : zSt) : X E cX11_ofHome m11_ofHome true (zQr E true eI r11_ofHome σ) 0 0 σ [(0, aR 11 (some 0)), (1, aI v1), (2, aI v2)] 0 [] (f11_ofHome v1 v2 σ) := by
  unfold f11_ofHome
  refine x_aload_n (pc := 0) 0 dX11_ofHome_0 rfl rfl ?_
  refine x_iload_n (pc := 1) 1 dX11_ofHome_1 rfl rfl ?_
  refine x_callVr (pc := 2) (as := [aI v1]) (rest := []) (fun l => c_11_homeAt l v1 σ) md_X11_homeAt ⟨_, _, rfl, by decide⟩ tk_280 tp_0 tk_278 dX11_ofHome_2 rfl ⟨by decide, by decide, by decide, by decide⟩ ⟨fun _ => rfl, fun _ => Or.inl rfl⟩ rfl (Nat.le_of_ble_eq_true rfl) (fun o2 => ?_)
  show X E _ _ _ _ 0 0 _ _ _ [aR 5 o2] _
  refine x_astore_n (pc := 5) (als' := [(3, aR 5 o2), (0, aR 11 (some 0)), (1, aI v1), (2, aI v2)]) 3 dX11_ofHome_5 rfl (by decide) rfl ?_
  refine x_aload_n (pc := 6) 3 dX11_ofHome_6 rfl rfl ?_
  rcases o2 with _ | i3
  ·
    refine x_ifnonnullN (pc := 7) dX11_ofHome_7 ?_
    refine x_iconst (pc := 10) (-1) dX11_ofHome_10 rfl ?_
    exact x_iret (rm := r11_ofHome) rfl rfl dX11_ofHome_11
  ·
    refine x_ifnonnullS (pc := 7) 12 dX11_ofHome_7 (by decide) ?_
    refine x_iload_n (pc := 12) 2 dX11_ofHome_12 rfl rfl ?_
    refine x_table (pc := 13) dX11_ofHome_13 (by decide) (fun tg4 ht5 => ?_) (fun x => ?_)
    ·
      refine x_ite (fun hc6 => ?_) (fun hc6 => ?_)
      ·
        obtain rfl : tg4 = 80 := zsw_at hc6 ht5 (by decide)
        refine x_aload_n (pc := 80) 3 dX11_ofHome_80 rfl rfl ?_
        refine x_getI (pc := 81) fd_5_0 tk_228 dX11_ofHome_81 ?_
        exact x_iret (rm := r11_ofHome) rfl rfl dX11_ofHome_84
      ·
        refine x_ite (fun hc7 => ?_) (fun hc7 => ?_)
        ·
          obtain rfl : tg4 = 85 := zsw_at hc7 ht5 (by decide)
          refine x_aload_n (pc := 85) 3 dX11_ofHome_85 rfl rfl ?_
          refine x_getI (pc := 86) fd_5_1 tk_230 dX11_ofHome_86 ?_
          exact x_iret (rm := r11_ofHome) rfl rfl dX11_ofHome_89
        ·
          refine x_ite (fun hc8 => ?_) (fun hc8 => ?_)
          ·
            obtain rfl : tg4 = 90 := zsw_at hc8 ht5 (by decide)
            refine x_aload_n (pc := 90) 3 dX11_ofHome_90 rfl rfl ?_
            refine x_getI (pc := 91) fd_5_2 tk_232 dX11_ofHome_91 ?_
            exact x_iret (rm := r11_ofHome) rfl rfl dX11_ofHome_94
          ·
            refine x_ite (fun hc9 => ?_) (fun hc9 => ?_)
            ·
              obtain rfl : tg4 = 95 := zsw_at hc9 ht5 (by decide)
              refine x_aload_n (pc := 95) 3 dX11_ofHome_95 rfl rfl ?_
              refine x_getI (pc := 96) fd_5_3 tk_234 dX11_ofHome_96 ?_
              exact x_iret (rm := r11_ofHome) rfl rfl dX11_ofHome_99
            ·
              refine x_ite (fun hc10 => ?_) (fun hc10 => ?_)
              ·
                obtain rfl : tg4 = 100 := zsw_at hc10 ht5 (by decide)
                refine x_aload_n (pc := 100) 3 dX11_ofHome_100 rfl rfl ?_
                refine x_getI (pc := 101) fd_5_4 tk_237 dX11_ofHome_101 ?_
                exact x_iret (rm := r11_ofHome) rfl rfl dX11_ofHome_104
              ·
                refine x_ite (fun hc11 => ?_) (fun hc11 => ?_)
                ·
                  obtain rfl : tg4 = 105 := zsw_at hc11 ht5 (by decide)
                  refine x_aload_n (pc := 105) 3 dX11_ofHome_105 rfl rfl ?_
                  refine x_getI (pc := 106) fd_5_9 tk_245 dX11_ofHome_106 ?_
                  exact x_iret (rm := r11_ofHome) rfl rfl dX11_ofHome_109
                ·
                  refine x_ite (fun hc12 => ?_) (fun hc12 => ?_)
                  ·
                    obtain rfl : tg4 = 110 := zsw_at hc12 ht5 (by decide)
                    refine x_aload_n (pc := 110) 0 dX11_ofHome_110 rfl rfl ?_
                    refine x_aload_n (pc := 111) 3 dX11_ofHome_111 rfl rfl ?_
                    refine x_callVr (pc := 112) (as := [aR 5 (some i3)]) (rest := []) (fun l => c_11_toldIn l i3 σ) md_X11_toldIn ⟨_, _, rfl, by decide⟩ tk_315 tp_1 tk_313 dX11_ofHome_112 rfl ⟨by decide, by decide, by decide, by decide⟩ ⟨fun _ => rfl, fun _ => Or.inl rfl⟩ rfl (Nat.le_of_ble_eq_true rfl) (fun r13 => ?_)
                    show X E _ _ _ _ 0 0 _ _ _ [aI r13] _
                    exact x_iret (rm := r11_ofHome) rfl rfl dX11_ofHome_115
                  ·
                    refine x_ite (fun hc14 => ?_) (fun hc14 => ?_)
                    ·
                      obtain rfl : tg4 = 116 := zsw_at hc14 ht5 (by decide)
                      refine x_aload_n (pc := 116) 0 dX11_ofHome_116 rfl rfl ?_
                      refine x_aload_n (pc := 117) 3 dX11_ofHome_117 rfl rfl ?_
                      refine x_callVr (pc := 118) (as := [aR 5 (some i3)]) (rest := []) (fun l => c_11_leftIn l i3 σ) md_X11_leftIn ⟨_, _, rfl, by decide⟩ tk_319 tp_2 tk_317 dX11_ofHome_118 rfl ⟨by decide, by decide, by decide, by decide⟩ ⟨fun _ => rfl, fun _ => Or.inl rfl⟩ rfl (Nat.le_of_ble_eq_true rfl) (fun r15 => ?_)
                      show X E _ _ _ _ 0 0 _ _ _ [aI r15] _
                      exact x_iret (rm := r11_ofHome) rfl rfl dX11_ofHome_121
                    ·
                      refine x_ite (fun hc16 => ?_) (fun hc16 => ?_)
                      ·
                        obtain rfl : tg4 = 122 := zsw_at hc16 ht5 (by decide)
                        refine x_aload_n (pc := 122) 0 dX11_ofHome_122 rfl rfl ?_
                        refine x_aload_n (pc := 123) 3 dX11_ofHome_123 rfl rfl ?_
                        refine x_callVr (pc := 124) (as := [aR 5 (some i3)]) (rest := []) (fun l => c_11_falseIn l i3 σ) md_X11_falseIn ⟨_, _, rfl, by decide⟩ tk_331 tp_3 tk_329 dX11_ofHome_124 rfl ⟨by decide, by decide, by decide, by decide⟩ ⟨fun _ => rfl, fun _ => Or.inl rfl⟩ rfl (Nat.le_of_ble_eq_true rfl) (fun r17 => ?_)
                        show X E _ _ _ _ 0 0 _ _ _ [aI r17] _
                        exact x_iret (rm := r11_ofHome) rfl rfl dX11_ofHome_127
                      ·
                        refine x_ite (fun hc18 => ?_) (fun hc18 => ?_)
                        ·
                          obtain rfl : tg4 = 128 := zsw_at hc18 ht5 (by decide)
                          refine x_aload_n (pc := 128) 0 dX11_ofHome_128 rfl rfl ?_
                          refine x_aload_n (pc := 129) 3 dX11_ofHome_129 rfl rfl ?_
                          refine x_callVr (pc := 130) (as := [aR 5 (some i3)]) (rest := []) (fun l => c_11_brokenIn l i3 σ) md_X11_brokenIn ⟨_, _, rfl, by decide⟩ tk_344 tp_5 tk_342 dX11_ofHome_130 rfl ⟨by decide, by decide, by decide, by decide⟩ ⟨fun _ => rfl, fun _ => Or.inl rfl⟩ rfl (Nat.le_of_ble_eq_true rfl) (fun r19 => ?_)
                          show X E _ _ _ _ 0 0 _ _ _ [aI r19] _
                          exact x_iret (rm := r11_ofHome) rfl rfl dX11_ofHome_133
                        ·
                          refine x_ite (fun hc20 => ?_) (fun hc20 => ?_)
                          ·
                            obtain rfl : tg4 = 134 := zsw_at hc20 ht5 (by decide)
                            refine x_aload_n (pc := 134) 3 dX11_ofHome_134 rfl rfl ?_
                            refine x_getI (pc := 135) fd_5_6 tk_241 dX11_ofHome_135 ?_
                            exact x_iret (rm := r11_ofHome) rfl rfl dX11_ofHome_138
                          ·
                            refine x_ite (fun hc21 => ?_) (fun hc21 => ?_)
                            ·
                              obtain rfl : tg4 = 139 := zsw_at hc21 ht5 (by decide)
                              refine x_aload_n (pc := 139) 3 dX11_ofHome_139 rfl rfl ?_
                              refine x_getI (pc := 140) fd_5_7 tk_242 dX11_ofHome_140 ?_
                              exact x_iret (rm := r11_ofHome) rfl rfl dX11_ofHome_143
                            ·
                              refine x_ite (fun hc22 => ?_) (fun hc22 => ?_)
                              ·
                                obtain rfl : tg4 = 144 := zsw_at hc22 ht5 (by decide)
                                refine x_aload_n (pc := 144) 3 dX11_ofHome_144 rfl rfl ?_
                                refine x_getI (pc := 145) fd_5_8 tk_243 dX11_ofHome_145 ?_
                                exact x_iret (rm := r11_ofHome) rfl rfl dX11_ofHome_148
                              ·
                                obtain rfl : tg4 = 149 := zswd_at (cs := [0, 1, 2, 3, 4, 5, 6, 7, 8, 9, 10, 11, 12]) ht5 (by decide) (by simp only [List.mem_cons, List.not_mem_nil, or_false, not_or]; exact ⟨hc6, hc7, hc8, hc9, hc10, hc11, hc12, hc14, hc16, hc18, hc20, hc21, hc22⟩) (by decide)
                                refine x_iconst (pc := 149) (-1) dX11_ofHome_149 rfl ?_
                                exact x_iret (rm := r11_ofHome) rfl rfl dX11_ofHome_150
    · exact ztoff_pos (by decide) (by decide) x
theorem c_11_ofHome (l : Launch)  (v1 : Int32) (v2 : Int32) (σ : zSt) : zMet l yX11_ofHome cX11_ofHome 4 (some .int) r11_ofHome true eI [aR 11 (some 0), aI v1, aI v2] σ (zro (f11_ofHome v1 v2 σ) σ) :=
  zMet_ofR [(0, aR 11 (some 0)), (1, aI v1), (2, aI v2)] (by decide +kernel) (fun h => by cases h) (Nat.le_of_ble_eq_true rfl) rfl fun E _ => x11_ofHome E  v1 v2 σ
abbrev r11_kind : Room := { frames := 2, cells := 1, slots := 3, locals := 35 }
abbrev m11_kind : zMu := (RX11, 4, (some .int), r11_kind, false)
set_option maxRecDepth 20000 in
theorem x11_kind (E : zEn)  (v1 : Int32) (v2 : Int32) (v3 : Int32) (σ : zSt) : X E cX11_kind m11_kind false (zQw E false eI r11_kind) 0 0 σ [(0, aR 11 (some 0)), (1, aI v1), (2, aI v2), (3, aI v3)] 0 [] (f11_kind v1 v2 v3 σ) := by
  unfold f11_kind
  refine x_iload_n (pc := 0) 1 dX11_kind_0 rfl rfl ?_
  refine x_bipush (pc := 1) 10 dX11_kind_1 rfl ?_
  refine x_callSr (pc := 3) (as := [aI v1, aI 10]) (rest := []) (fun l => c_11_isIn l false v1 10 σ) md_X11_isIn tk_219 tk_218 dX11_kind_3 rfl ⟨by decide, by decide, by decide, by decide⟩ ⟨(fun h => nomatch h), (fun h => nomatch h)⟩ rfl (Nat.le_of_ble_eq_true rfl) (fun r1 => ?_)
  show X E _ _ _ _ 0 0 _ _ _ [aI r1] _
  refine x_if_eq (pc := 6) 30 dX11_kind_6 (by decide) (fun _ => ?_) (fun _ => ?_)
  ·
    refine x_iconst (pc := 30) (-1) dX11_kind_30 rfl ?_
    refine x_widen (kc' := 1) (ks' := 3) (by decide) (by decide) ?_
    exact x_iret (rm := r11_kind) rfl rfl dX11_kind_31
  ·
    refine x_iload_n (pc := 9) 2 dX11_kind_9 rfl rfl ?_
    refine x_iconst (pc := 10) 1 dX11_kind_10 rfl ?_
    refine x_icmp_lt (pc := 11) 30 dX11_kind_11 (by decide) (fun _ => ?_) (fun _ => ?_)
    ·
      refine x_iconst (pc := 30) (-1) dX11_kind_30 rfl ?_
      refine x_widen (kc' := 1) (ks' := 3) (by decide) (by decide) ?_
      exact x_iret (rm := r11_kind) rfl rfl dX11_kind_31
    ·
      refine x_iload_n (pc := 14) 2 dX11_kind_14 rfl rfl ?_
      refine x_sipush (pc := 15) 999 dX11_kind_15 rfl ?_
      refine x_icmp_gt (pc := 18) 30 dX11_kind_18 (by decide) (fun _ => ?_) (fun _ => ?_)
      ·
        refine x_iconst (pc := 30) (-1) dX11_kind_30 rfl ?_
        refine x_widen (kc' := 1) (ks' := 3) (by decide) (by decide) ?_
        exact x_iret (rm := r11_kind) rfl rfl dX11_kind_31
      ·
        refine x_iload_n (pc := 21) 3 dX11_kind_21 rfl rfl ?_
        refine x_bipush (pc := 22) 8 dX11_kind_22 rfl ?_
        refine x_callSr (pc := 24) (as := [aI v3, aI 8]) (rest := []) (fun l => c_11_isIn l false v3 8 σ) md_X11_isIn tk_219 tk_218 dX11_kind_24 rfl ⟨by decide, by decide, by decide, by decide⟩ ⟨(fun h => nomatch h), (fun h => nomatch h)⟩ rfl (Nat.le_of_ble_eq_true rfl) (fun r2 => ?_)
        show X E _ _ _ _ 0 0 _ _ _ [aI r2] _
        refine x_if_ne (pc := 27) 32 dX11_kind_27 (by decide) (fun _ => ?_) (fun _ => ?_)
        ·
          refine x_aload_n (pc := 32) 0 dX11_kind_32 rfl rfl ?_
          refine x_getI (pc := 33) fd_11_3 tk_155 dX11_kind_33 ?_
          refine x_bipush (pc := 36) 20 dX11_kind_36 rfl ?_
          refine x_icmp_lt (pc := 38) 44 dX11_kind_38 (by decide) (fun _ => ?_) (fun _ => ?_)
          ·
            refine x_aload_n (pc := 44) 0 dX11_kind_44 rfl rfl ?_
            refine x_getR (pc := 45) fd_11_2 tk_154 dX11_kind_45 ?_
            refine x_nameR (fun o3 => ?_)
            refine x_aload_n (pc := 48) 0 dX11_kind_48 rfl rfl ?_
            refine x_getI (pc := 49) fd_11_3 tk_155 dX11_kind_49 ?_
            refine x_new (pc := 52) nw_7 tk_32 tk_358 tk_9 dX11_kind_52 rfl (by decide) ?_
            refine x_nameN (fun i4 => ?_)
            refine x_nameS (fun s5 => ?_)
            refine x_dup (pc := 55) dX11_kind_55 rfl ?_
            refine x_iload_n (pc := 56) 1 dX11_kind_56 rfl rfl ?_
            refine x_iload_n (pc := 57) 2 dX11_kind_57 rfl rfl ?_
            refine x_iload_n (pc := 58) 3 dX11_kind_58 rfl rfl ?_
            refine x_callI (pc := 59) (as := [aI v1, aI v2, aI v3]) (rest := [aR 7 (some i4), aI (gI σ 11 0 3), aR 1202 o3]) (fun l => c_7_init l i4 v1 v2 v3 s5) md_X7_init tk_360 rfl tk_359 dX11_kind_59 rfl ⟨by decide, by decide, by decide, by decide⟩ ⟨(fun h => nomatch h), (fun h => nomatch h)⟩ rfl (Nat.le_of_ble_eq_true rfl) (fun _ s7 => ?_)
            show X E _ _ _ _ 1 3 _ _ _ [aR 7 (some i4), aI (gI σ 11 0 3), aR 1202 o3] _
            rcases o3 with _ | i8
            · exact x_none
            ·
              skip
              refine x_zocS ?_
              refine x_aast (pc := 62) 7 ar_1202 (by decide) rfl dX11_kind_62 (fun m9 => ?_)
              refine x_nameS (fun s10 => ?_)
              refine x_aload_n (pc := 63) 0 dX11_kind_63 rfl rfl ?_
              refine x_dup (pc := 64) dX11_kind_64 rfl ?_
              refine x_getI (pc := 65) fd_11_3 tk_155 dX11_kind_65 ?_
              refine x_iconst (pc := 68) 1 dX11_kind_68 rfl ?_
              refine x_iadd (pc := 69) dX11_kind_69 ?_
              refine x_putI (pc := 70) fd_11_3 pt_11_3 tk_155 dX11_kind_70 (Or.inl rfl) ?_
              refine x_nameS (fun s11 => ?_)
              refine x_aload_n (pc := 73) 0 dX11_kind_73 rfl rfl ?_
              refine x_getI (pc := 74) fd_11_3 tk_155 dX11_kind_74 ?_
              refine x_iconst (pc := 77) 1 dX11_kind_77 rfl ?_
              refine x_isub (pc := 78) dX11_kind_78 ?_
              exact x_iret (rm := r11_kind) rfl rfl dX11_kind_79
          ·
            refine x_bipush (pc := 41) (-2) dX11_kind_41 rfl ?_
            refine x_widen (kc' := 1) (ks' := 3) (by decide) (by decide) ?_
            exact x_iret (rm := r11_kind) rfl rfl dX11_kind_43
        ·
          refine x_iconst (pc := 30) (-1) dX11_kind_30 rfl ?_
          refine x_widen (kc' := 1) (ks' := 3) (by decide) (by decide) ?_
          exact x_iret (rm := r11_kind) rfl rfl dX11_kind_31
theorem c_11_kind (l : Launch)  (v1 : Int32) (v2 : Int32) (v3 : Int32) (σ : zSt) : zMet l yX11_kind cX11_kind 4 (some .int) r11_kind false eI [aR 11 (some 0), aI v1, aI v2, aI v3] σ (f11_kind v1 v2 v3 σ) :=
  zMet_of [(0, aR 11 (some 0)), (1, aI v1), (2, aI v2), (3, aI v3)] (by decide +kernel) (fun h => by cases h) (Nat.le_of_ble_eq_true rfl) rfl fun E _ => x11_kind E  v1 v2 v3 σ
abbrev r11_kindAt : Room := { frames := 1, cells := 0, slots := 0, locals := 21 }
abbrev m11_kindAt : zMu := (RX11, 2, (some (.object "SnagBook$Kind")), r11_kindAt, false)
set_option maxRecDepth 20000 in
theorem x11_kindAt (E : zEn)  (v1 : Int32) (σ : zSt) : X E cX11_kindAt m11_kindAt true (zQr E true (eR 7) r11_kindAt σ) 0 0 σ [(0, aR 11 (some 0)), (1, aI v1)] 0 [] (f11_kindAt v1 σ) := by
  unfold f11_kindAt
  refine x_iload_n (pc := 0) 1 dX11_kindAt_0 rfl rfl ?_
  refine x_aload_n (pc := 1) 0 dX11_kindAt_1 rfl rfl ?_
  refine x_getI (pc := 2) fd_11_3 tk_155 dX11_kindAt_2 ?_
  refine x_callSr (pc := 5) (as := [aI v1, aI (gI σ 11 0 3)]) (rest := []) (fun l => c_11_isIn l true v1 (gI σ 11 0 3) σ) md_X11_isIn tk_219 tk_218 dX11_kindAt_5 rfl ⟨by decide, by decide, by decide, by decide⟩ ⟨fun _ => rfl, fun _ => Or.inl rfl⟩ rfl (Nat.le_of_ble_eq_true rfl) (fun r1 => ?_)
  show X E _ _ _ _ 0 0 _ _ _ [aI r1] _
  refine x_if_eq (pc := 8) 20 dX11_kindAt_8 (by decide) (fun _ => ?_) (fun _ => ?_)
  ·
    refine x_null (pc := 20) 7 dX11_kindAt_20 ?_
    exact x_aret (rm := r11_kindAt) rfl rfl dX11_kindAt_21
  ·
    refine x_aload_n (pc := 11) 0 dX11_kindAt_11 rfl rfl ?_
    refine x_getF (pc := 12) (j := 0) fd_11_2 rfl rfl tk_154 dX11_kindAt_12 ?_
    refine x_iload_n (pc := 15) 1 dX11_kindAt_15 rfl rfl ?_
    refine x_aald (pc := 16) (g0 := 7) ar_1202 (by decide) rfl dX11_kindAt_16 (fun m2 => ?_)
    refine x_nameR (fun o3 => ?_)
    refine x_goto (pc := 17) 21 dX11_kindAt_17 (by decide) ?_
    exact x_aret (rm := r11_kindAt) rfl rfl dX11_kindAt_21
theorem c_11_kindAt (l : Launch)  (v1 : Int32) (σ : zSt) : zMet l yX11_kindAt cX11_kindAt 2 (some (.object "SnagBook$Kind")) r11_kindAt true (eR 7) [aR 11 (some 0), aI v1] σ (zro (f11_kindAt v1 σ) σ) :=
  zMet_ofR [(0, aR 11 (some 0)), (1, aI v1)] (by decide +kernel) (fun h => by cases h) (Nat.le_of_ble_eq_true rfl) rfl fun E _ => x11_kindAt E  v1 σ
abbrev r11_isToldBefore : Room := { frames := 1, cells := 0, slots := 0, locals := 21 }
abbrev m11_isToldBefore : zMu := (RX11, 5, (some .boolean), r11_isToldBefore, false)
set_option maxRecDepth 20000 in
theorem xl11_isToldBefore_2 (E : zEn)   (h1 : Nat) (σ : zSt)   : ∀ (n : Nat) (v2 : Int32), X E cX11_isToldBefore m11_isToldBefore true (zQr E true eI r11_isToldBefore σ) 0 0 σ [(0, aR 11 (some 0)), (1, aR 1 (some h1)), (2, aI v2)] 2 [] (f11_isToldBefore_L2 h1 σ n v2) := by
  intro n
  induction n with
  | zero => intros; exact x_none
  | succ n ih =>
    intro v2
    rw [f11_isToldBefore_L2]
    refine x_iload_n (pc := 2) 2 dX11_isToldBefore_2 rfl rfl ?_
    refine x_aload_n (pc := 3) 0 dX11_isToldBefore_3 rfl rfl ?_
    refine x_getI (pc := 4) fd_11_5 tk_157 dX11_isToldBefore_4 ?_
    refine x_icmp_ge (pc := 7) 65 dX11_isToldBefore_7 (by decide) (fun _ => ?_) (fun _ => ?_)
    ·
      refine x_iconst (pc := 65) 0 dX11_isToldBefore_65 rfl ?_
      exact x_zretC (rm := r11_isToldBefore) rfl rfl (by decide) dX11_isToldBefore_66
    ·
      refine x_aload_n (pc := 10) 0 dX11_isToldBefore_10 rfl rfl ?_
      refine x_getF (pc := 11) (j := 0) fd_11_4 rfl rfl tk_156 dX11_isToldBefore_11 ?_
      refine x_iload_n (pc := 14) 2 dX11_isToldBefore_14 rfl rfl ?_
      refine x_aald (pc := 15) (g0 := 1) ar_1204 (by decide) rfl dX11_isToldBefore_15 (fun m1 => ?_)
      refine x_nameR (fun o2 => ?_)
      refine x_astore_n (pc := 16) (als' := [(3, aR 1 o2), (0, aR 11 (some 0)), (1, aR 1 (some h1)), (2, aI v2)]) 3 dX11_isToldBefore_16 rfl (by decide) rfl ?_
      refine x_aload_n (pc := 17) 3 dX11_isToldBefore_17 rfl rfl ?_
      refine x_aload_n (pc := 18) 1 dX11_isToldBefore_18 rfl rfl ?_
      rcases o2 with _ | i3
      · exact x_none
      ·
        skip
        refine x_zocS ?_
        refine x_callVr (pc := 19) (as := [aR 1 (some h1)]) (rest := []) (fun l => c_1_isSameThing l true i3 h1 σ) md_X1_isSameThing ⟨_, _, rfl, by decide⟩ tk_499 tk_500 tk_498 dX11_isToldBefore_19 rfl ⟨by decide, by decide, by decide, by decide⟩ ⟨fun _ => rfl, fun _ => Or.inl rfl⟩ rfl (Nat.le_of_ble_eq_true rfl) (fun r4 => ?_)
        show X E _ _ _ _ 0 0 _ _ _ [aI r4] _
        refine x_join (P := fun (j6 : Int32 → Option Int32) => ∀ (a5 : Int32), X E cX11_isToldBefore m11_isToldBefore true (zQr E true eI r11_isToldBefore σ) 0 0 σ [(0, aR 11 (some 0)), (1, aR 1 (some h1)), (2, aI v2), (3, aR 1 (some i3))] 36 [aI a5] (j6 a5)) ?_ ?_
        · intro a5
          refine x_istore (pc := 36) (als' := [(4, aI a5), (0, aR 11 (some 0)), (1, aR 1 (some h1)), (2, aI v2), (3, aR 1 (some i3))]) 4 dX11_isToldBefore_36 (by decide) rfl ?_
          refine x_iload (pc := 38) 4 dX11_isToldBefore_38 rfl ?_
          refine x_iconst (pc := 40) 4 dX11_isToldBefore_40 rfl ?_
          refine x_join (P := fun (j8 : Option Int32) => X E cX11_isToldBefore m11_isToldBefore true (zQr E true eI r11_isToldBefore σ) 0 0 σ [(0, aR 11 (some 0)), (1, aR 1 (some h1)), (2, aI v2)] 59 [] j8) ?_ ?_
          ·
            refine x_iinc (pc := 59) (als' := [(2, aI (v2 + 1)), (0, aR 11 (some 0)), (1, aR 1 (some h1))]) 2 2 (c := 1) dX11_isToldBefore_59 rfl rfl (by decide) rfl ?_
            refine x_nameV (g := fun y11 => [(2, aI y11), (0, aR 11 (some 0)), (1, aR 1 (some h1))]) (fun x10 => ?_) rfl
            refine x_goto (pc := 62) 2 dX11_isToldBefore_62 (by decide) ?_
            exact x_sub [1, 2, 0] rfl (ih x10)
          · intro j8 hj9
            refine x_icmp_eq (pc := 41) 59 dX11_isToldBefore_41 (by decide) (fun _ => ?_) (fun _ => ?_)
            ·
              exact x_sub [1, 2, 3] rfl (hj9)
            ·
              refine x_aload_n (pc := 44) 3 dX11_isToldBefore_44 rfl rfl ?_
              refine x_getI (pc := 45) fd_1_10 tk_452 dX11_isToldBefore_45 ?_
              refine x_if_ne (pc := 48) 57 dX11_isToldBefore_48 (by decide) (fun _ => ?_) (fun _ => ?_)
              ·
                refine x_iconst (pc := 57) 1 dX11_isToldBefore_57 rfl ?_
                exact x_zretC (rm := r11_isToldBefore) rfl rfl (by decide) dX11_isToldBefore_58
              ·
                refine x_iload (pc := 51) 4 dX11_isToldBefore_51 rfl ?_
                refine x_iconst (pc := 53) 3 dX11_isToldBefore_53 rfl ?_
                refine x_icmp_eq (pc := 54) 59 dX11_isToldBefore_54 (by decide) (fun _ => ?_) (fun _ => ?_)
                ·
                  exact x_sub [1, 2, 3] rfl (hj9)
                ·
                  refine x_iconst (pc := 57) 1 dX11_isToldBefore_57 rfl ?_
                  exact x_zretC (rm := r11_isToldBefore) rfl rfl (by decide) dX11_isToldBefore_58
        · intro j6 hj7
          refine x_if_eq (pc := 22) 35 dX11_isToldBefore_22 (by decide) (fun _ => ?_) (fun _ => ?_)
          ·
            refine x_iconst (pc := 35) 4 dX11_isToldBefore_35 rfl ?_
            exact x_sub [1, 2, 3, 0] rfl (hj7 4)
          ·
            refine x_aload_n (pc := 25) 3 dX11_isToldBefore_25 rfl rfl ?_
            refine x_getF (pc := 26) (j := i3) fd_1_7 rfl rfl tk_446 dX11_isToldBefore_26 ?_
            refine x_callVr (pc := 29) (as := []) (rest := []) (fun l => c_4_now l i3 σ) md_X4_now ⟨_, _, rfl, by decide⟩ tk_503 tk_504 tk_502 dX11_isToldBefore_29 rfl ⟨by decide, by decide, by decide, by decide⟩ ⟨fun _ => rfl, fun _ => Or.inl rfl⟩ rfl (Nat.le_of_ble_eq_true rfl) (fun r12 => ?_)
            show X E _ _ _ _ 0 0 _ _ _ [aI r12] _
            refine x_goto (pc := 32) 36 dX11_isToldBefore_32 (by decide) ?_
            exact x_sub [1, 2, 3, 0] rfl (hj7 r12)
set_option maxRecDepth 20000 in
theorem x11_isToldBefore (E : zEn)  (h1 : Nat) (σ : zSt) : X E cX11_isToldBefore m11_isToldBefore true (zQr E true eI r11_isToldBefore σ) 0 0 σ [(0, aR 11 (some 0)), (1, aR 1 (some h1))] 0 [] (f11_isToldBefore h1 σ) := by
  unfold f11_isToldBefore
  refine x_iconst (pc := 0) 0 dX11_isToldBefore_0 rfl ?_
  refine x_istore_n (pc := 1) (als' := [(2, aI 0), (0, aR 11 (some 0)), (1, aR 1 (some h1))]) 2 dX11_isToldBefore_1 rfl (by decide) rfl ?_
  refine x_sub [1, 2, 0] rfl (xl11_isToldBefore_2 E h1 σ zfuel 0)
theorem c_11_isToldBefore (l : Launch)  (h1 : Nat) (σ : zSt) : zMet l yX11_isToldBefore cX11_isToldBefore 5 (some .boolean) r11_isToldBefore true eI [aR 11 (some 0), aR 1 (some h1)] σ (zro (f11_isToldBefore h1 σ) σ) :=
  zMet_ofR [(0, aR 11 (some 0)), (1, aR 1 (some h1))] (by decide +kernel) (fun h => by cases h) (Nat.le_of_ble_eq_true rfl) rfl fun E _ => x11_isToldBefore E  h1 σ
abbrev r11_fault : Room := { frames := 3, cells := 8, slots := 137, locals := 59 }
abbrev m11_fault : zMu := (RX11, 8, (some .int), r11_fault, false)
set_option maxRecDepth 20000 in
theorem x11_fault (E : zEn)  (v1 : Int32) (v2 : Int32) (v3 : Int32) (v4 : Int32) (σ : zSt) : X E cX11_fault m11_fault false (zQw E false eI r11_fault) 0 0 σ [(0, aR 11 (some 0)), (1, aI v1), (2, aI v2), (3, aI v3), (4, aI v4)] 0 [] (f11_fault v1 v2 v3 v4 σ) := by
  unfold f11_fault
  refine x_iload_n (pc := 0) 1 dX11_fault_0 rfl rfl ?_
  refine x_join (P := fun (j2 : (Option Nat) → Option (Int32 × zSt)) => ∀ (a1 : (Option Nat)), X E cX11_fault m11_fault false (zQw E false eI r11_fault) 0 0 σ [(0, aR 11 (some 0)), (1, aI v1), (2, aI v2), (3, aI v3), (4, aI v4)] 16 [aR 5 a1] (j2 a1)) ?_ ?_
  · intro a1
    refine x_astore (pc := 16) (als' := [(5, aR 5 a1), (0, aR 11 (some 0)), (1, aI v1), (2, aI v2), (3, aI v3), (4, aI v4)]) 5 dX11_fault_16 (by decide) rfl ?_
    refine x_aload_n (pc := 18) 0 dX11_fault_18 rfl rfl ?_
    refine x_iload_n (pc := 19) 2 dX11_fault_19 rfl rfl ?_
    refine x_okc (fun hok4 => ?_)
    refine x_callVr (pc := 20) (as := [aI v2]) (rest := []) (fun l => c_11_kindAt l v2 σ) md_X11_kindAt ⟨_, _, rfl, by decide⟩ tk_382 tp_6 tk_380 dX11_fault_20 rfl ⟨by decide, by decide, by decide, by decide⟩ ⟨(fun h => nomatch h), (fun _ => Or.inr hok4)⟩ rfl (Nat.le_of_ble_eq_true rfl) (fun o6 => ?_)
    show X E _ _ _ _ 0 0 _ _ _ [aR 7 o6] _
    refine x_astore (pc := 23) (als' := [(6, aR 7 o6), (5, aR 5 a1), (0, aR 11 (some 0)), (1, aI v1), (2, aI v2), (3, aI v3), (4, aI v4)]) 6 dX11_fault_23 (by decide) rfl ?_
    refine x_aload (pc := 25) 5 dX11_fault_25 rfl ?_
    rcases a1 with _ | i7
    ·
      refine x_ifnullN (pc := 27) 56 dX11_fault_27 (by decide) ?_
      refine x_iconst (pc := 56) (-1) dX11_fault_56 rfl ?_
      refine x_widen (kc' := 8) (ks' := 137) (by decide) (by decide) ?_
      exact x_iret (rm := r11_fault) rfl rfl dX11_fault_57
    ·
      refine x_ifnullS (pc := 27) dX11_fault_27 ?_
      refine x_aload (pc := 30) 6 dX11_fault_30 rfl ?_
      rcases o6 with _ | i8
      ·
        refine x_ifnullN (pc := 32) 56 dX11_fault_32 (by decide) ?_
        refine x_iconst (pc := 56) (-1) dX11_fault_56 rfl ?_
        refine x_widen (kc' := 8) (ks' := 137) (by decide) (by decide) ?_
        exact x_iret (rm := r11_fault) rfl rfl dX11_fault_57
      ·
        refine x_ifnullS (pc := 32) dX11_fault_32 ?_
        refine x_iload_n (pc := 35) 3 dX11_fault_35 rfl rfl ?_
        refine x_iconst (pc := 36) 1 dX11_fault_36 rfl ?_
        refine x_icmp_lt (pc := 37) 56 dX11_fault_37 (by decide) (fun _ => ?_) (fun _ => ?_)
        ·
          refine x_iconst (pc := 56) (-1) dX11_fault_56 rfl ?_
          refine x_widen (kc' := 8) (ks' := 137) (by decide) (by decide) ?_
          exact x_iret (rm := r11_fault) rfl rfl dX11_fault_57
        ·
          refine x_iload_n (pc := 40) 3 dX11_fault_40 rfl rfl ?_
          refine x_bipush (pc := 41) 9 dX11_fault_41 rfl ?_
          refine x_icmp_gt (pc := 43) 56 dX11_fault_43 (by decide) (fun _ => ?_) (fun _ => ?_)
          ·
            refine x_iconst (pc := 56) (-1) dX11_fault_56 rfl ?_
            refine x_widen (kc' := 8) (ks' := 137) (by decide) (by decide) ?_
            exact x_iret (rm := r11_fault) rfl rfl dX11_fault_57
          ·
            refine x_iload (pc := 46) 4 dX11_fault_46 rfl ?_
            refine x_bipush (pc := 48) 11 dX11_fault_48 rfl ?_
            refine x_callSr (pc := 50) (as := [aI v4, aI 11]) (rest := []) (fun l => c_11_isIn l false v4 11 σ) md_X11_isIn tk_219 tk_218 dX11_fault_50 rfl ⟨by decide, by decide, by decide, by decide⟩ ⟨(fun h => nomatch h), (fun h => nomatch h)⟩ rfl (Nat.le_of_ble_eq_true rfl) (fun r9 => ?_)
            show X E _ _ _ _ 0 0 _ _ _ [aI r9] _
            refine x_if_ne (pc := 53) 58 dX11_fault_53 (by decide) (fun _ => ?_) (fun _ => ?_)
            ·
              refine x_aload_n (pc := 58) 0 dX11_fault_58 rfl rfl ?_
              refine x_getI (pc := 59) fd_11_5 tk_157 dX11_fault_59 ?_
              refine x_sipush (pc := 62) 200 dX11_fault_62 rfl ?_
              refine x_icmp_lt (pc := 65) 71 dX11_fault_65 (by decide) (fun _ => ?_) (fun _ => ?_)
              ·
                refine x_new (pc := 71) nw_1 tk_34 tk_384 tk_10 dX11_fault_71 rfl (by decide) ?_
                refine x_nameN (fun i10 => ?_)
                refine x_nameS (fun s11 => ?_)
                refine x_dup (pc := 74) dX11_fault_74 rfl ?_
                refine x_aload_n (pc := 75) 0 dX11_fault_75 rfl rfl ?_
                refine x_getI (pc := 76) fd_11_5 tk_157 dX11_fault_76 ?_
                refine x_aload (pc := 79) 5 dX11_fault_79 rfl ?_
                refine x_iload_n (pc := 81) 1 dX11_fault_81 rfl rfl ?_
                refine x_bipush (pc := 82) 12 dX11_fault_82 rfl ?_
                refine x_iremC (pc := 84) dX11_fault_84 (by decide) ?_
                refine x_iload_n (pc := 85) 2 dX11_fault_85 rfl rfl ?_
                refine x_aload (pc := 86) 6 dX11_fault_86 rfl ?_
                refine x_iload_n (pc := 88) 3 dX11_fault_88 rfl rfl ?_
                refine x_iload (pc := 89) 4 dX11_fault_89 rfl ?_
                refine x_callI (pc := 91) (as := [aI (gI s11 11 0 5), aR 5 (some i7), aI (zop_irem v1 12), aI v2, aR 7 (some i8), aI v3, aI v4]) (rest := [aR 1 (some i10)]) (fun l => c_1_init l i10 (gI s11 11 0 5) i7 (zop_irem v1 12) v2 i8 v3 v4 s11) md_X1_init tk_386 rfl tk_385 dX11_fault_91 rfl ⟨by decide, by decide, by decide, by decide⟩ ⟨(fun h => nomatch h), (fun h => nomatch h)⟩ rfl (Nat.le_of_ble_eq_true rfl) (fun _ s13 => ?_)
                show X E _ _ _ _ 8 137 _ _ _ [aR 1 (some i10)] _
                refine x_astore (pc := 94) (als' := [(7, aR 1 (some i10)), (6, aR 7 (some i8)), (5, aR 5 (some i7)), (0, aR 11 (some 0)), (1, aI v1), (2, aI v2), (3, aI v3), (4, aI v4)]) 7 dX11_fault_94 (by decide) rfl ?_
                refine x_aload (pc := 96) 7 dX11_fault_96 rfl ?_
                refine x_aload_n (pc := 98) 0 dX11_fault_98 rfl rfl ?_
                refine x_getI (pc := 99) fd_11_6 tk_158 dX11_fault_99 ?_
                refine x_aload_n (pc := 102) 0 dX11_fault_102 rfl rfl ?_
                refine x_aload (pc := 103) 7 dX11_fault_103 rfl ?_
                refine x_okc (fun hok14 => ?_)
                refine x_callVr (pc := 105) (as := [aR 1 (some i10)]) (rest := [aI (gI s13 11 0 6), aR 1 (some i10)]) (fun l => c_11_isToldBefore l i10 s13) md_X11_isToldBefore ⟨_, _, rfl, by decide⟩ tk_496 tp_7 tk_494 dX11_fault_105 rfl ⟨by decide, by decide, by decide, by decide⟩ ⟨(fun h => nomatch h), (fun _ => Or.inr hok14)⟩ rfl (Nat.le_of_ble_eq_true rfl) (fun r15 => ?_)
                show X E _ _ _ _ 8 137 _ _ _ [aI r15, aI (gI s13 11 0 6), aR 1 (some i10)] _
                refine x_okc (fun hok16 => ?_)
                refine x_callV (pc := 108) (as := [aI (gI s13 11 0 6), aI r15]) (rest := []) (fun l => c_1_tell l i10 (gI s13 11 0 6) r15 s13) md_X1_tell ⟨_, _, rfl, by decide⟩ tk_507 tk_508 tk_506 dX11_fault_108 rfl ⟨by decide, by decide, by decide, by decide⟩ ⟨(fun h => nomatch h), (fun _ => Or.inr hok16)⟩ rfl (Nat.le_of_ble_eq_true rfl) (fun _ s18 => ?_)
                show X E _ _ _ _ 8 137 _ _ _ [] _
                refine x_aload_n (pc := 111) 0 dX11_fault_111 rfl rfl ?_
                refine x_getR (pc := 112) fd_11_4 tk_156 dX11_fault_112 ?_
                refine x_nameR (fun o19 => ?_)
                refine x_aload_n (pc := 115) 0 dX11_fault_115 rfl rfl ?_
                refine x_getI (pc := 116) fd_11_5 tk_157 dX11_fault_116 ?_
                refine x_aload (pc := 119) 7 dX11_fault_119 rfl ?_
                rcases o19 with _ | i20
                · exact x_none
                ·
                  skip
                  refine x_zocS ?_
                  refine x_aast (pc := 121) 1 ar_1204 (by decide) rfl dX11_fault_121 (fun m21 => ?_)
                  refine x_nameS (fun s22 => ?_)
                  refine x_aload_n (pc := 122) 0 dX11_fault_122 rfl rfl ?_
                  refine x_dup (pc := 123) dX11_fault_123 rfl ?_
                  refine x_getI (pc := 124) fd_11_5 tk_157 dX11_fault_124 ?_
                  refine x_iconst (pc := 127) 1 dX11_fault_127 rfl ?_
                  refine x_iadd (pc := 128) dX11_fault_128 ?_
                  refine x_putI (pc := 129) fd_11_5 pt_11_5 tk_157 dX11_fault_129 (Or.inl rfl) ?_
                  refine x_nameS (fun s23 => ?_)
                  refine x_aload_n (pc := 132) 0 dX11_fault_132 rfl rfl ?_
                  refine x_getI (pc := 133) fd_11_5 tk_157 dX11_fault_133 ?_
                  refine x_iconst (pc := 136) 1 dX11_fault_136 rfl ?_
                  refine x_isub (pc := 137) dX11_fault_137 ?_
                  exact x_iret (rm := r11_fault) rfl rfl dX11_fault_138
              ·
                refine x_bipush (pc := 68) (-2) dX11_fault_68 rfl ?_
                refine x_widen (kc' := 8) (ks' := 137) (by decide) (by decide) ?_
                exact x_iret (rm := r11_fault) rfl rfl dX11_fault_70
            ·
              refine x_iconst (pc := 56) (-1) dX11_fault_56 rfl ?_
              refine x_widen (kc' := 8) (ks' := 137) (by decide) (by decide) ?_
              exact x_iret (rm := r11_fault) rfl rfl dX11_fault_57
  · intro j2 hj3
    refine x_if_ge (pc := 1) 8 dX11_fault_1 (by decide) (fun _ => ?_) (fun _ => ?_)
    ·
      refine x_aload_n (pc := 8) 0 dX11_fault_8 rfl rfl ?_
      refine x_iload_n (pc := 9) 1 dX11_fault_9 rfl rfl ?_
      refine x_bipush (pc := 10) 12 dX11_fault_10 rfl ?_
      refine x_idivC (pc := 12) dX11_fault_12 (by decide) ?_
      refine x_okc (fun hok24 => ?_)
      refine x_callVr (pc := 13) (as := [aI (zop_idiv v1 12)]) (rest := []) (fun l => c_11_homeAt l (zop_idiv v1 12) σ) md_X11_homeAt ⟨_, _, rfl, by decide⟩ tk_280 tp_0 tk_278 dX11_fault_13 rfl ⟨by decide, by decide, by decide, by decide⟩ ⟨(fun h => nomatch h), (fun _ => Or.inr hok24)⟩ rfl (Nat.le_of_ble_eq_true rfl) (fun o26 => ?_)
      show X E _ _ _ _ 0 0 _ _ _ [aR 5 o26] _
      exact hj3 o26
    ·
      refine x_null (pc := 4) 5 dX11_fault_4 ?_
      refine x_goto (pc := 5) 16 dX11_fault_5 (by decide) ?_
      exact hj3 none
theorem c_11_fault (l : Launch)  (v1 : Int32) (v2 : Int32) (v3 : Int32) (v4 : Int32) (σ : zSt) : zMet l yX11_fault cX11_fault 8 (some .int) r11_fault false eI [aR 11 (some 0), aI v1, aI v2, aI v3, aI v4] σ (f11_fault v1 v2 v3 v4 σ) :=
  zMet_of [(0, aR 11 (some 0)), (1, aI v1), (2, aI v2), (3, aI v3), (4, aI v4)] (by decide +kernel) (fun h => by cases h) (Nat.le_of_ble_eq_true rfl) rfl fun E _ => x11_fault E  v1 v2 v3 v4 σ
abbrev r11_faultAt : Room := { frames := 1, cells := 0, slots := 0, locals := 21 }
abbrev m11_faultAt : zMu := (RX11, 2, (some (.object "SnagBook$Fault")), r11_faultAt, false)
set_option maxRecDepth 20000 in
theorem x11_faultAt (E : zEn)  (v1 : Int32) (σ : zSt) : X E cX11_faultAt m11_faultAt true (zQr E true (eR 1) r11_faultAt σ) 0 0 σ [(0, aR 11 (some 0)), (1, aI v1)] 0 [] (f11_faultAt v1 σ) := by
  unfold f11_faultAt
  refine x_iload_n (pc := 0) 1 dX11_faultAt_0 rfl rfl ?_
  refine x_aload_n (pc := 1) 0 dX11_faultAt_1 rfl rfl ?_
  refine x_getI (pc := 2) fd_11_5 tk_157 dX11_faultAt_2 ?_
  refine x_callSr (pc := 5) (as := [aI v1, aI (gI σ 11 0 5)]) (rest := []) (fun l => c_11_isIn l true v1 (gI σ 11 0 5) σ) md_X11_isIn tk_219 tk_218 dX11_faultAt_5 rfl ⟨by decide, by decide, by decide, by decide⟩ ⟨fun _ => rfl, fun _ => Or.inl rfl⟩ rfl (Nat.le_of_ble_eq_true rfl) (fun r1 => ?_)
  show X E _ _ _ _ 0 0 _ _ _ [aI r1] _
  refine x_if_eq (pc := 8) 20 dX11_faultAt_8 (by decide) (fun _ => ?_) (fun _ => ?_)
  ·
    refine x_null (pc := 20) 1 dX11_faultAt_20 ?_
    exact x_aret (rm := r11_faultAt) rfl rfl dX11_faultAt_21
  ·
    refine x_aload_n (pc := 11) 0 dX11_faultAt_11 rfl rfl ?_
    refine x_getF (pc := 12) (j := 0) fd_11_4 rfl rfl tk_156 dX11_faultAt_12 ?_
    refine x_iload_n (pc := 15) 1 dX11_faultAt_15 rfl rfl ?_
    refine x_aald (pc := 16) (g0 := 1) ar_1204 (by decide) rfl dX11_faultAt_16 (fun m2 => ?_)
    refine x_nameR (fun o3 => ?_)
    refine x_goto (pc := 17) 21 dX11_faultAt_17 (by decide) ?_
    exact x_aret (rm := r11_faultAt) rfl rfl dX11_faultAt_21
theorem c_11_faultAt (l : Launch)  (v1 : Int32) (σ : zSt) : zMet l yX11_faultAt cX11_faultAt 2 (some (.object "SnagBook$Fault")) r11_faultAt true (eR 1) [aR 11 (some 0), aI v1] σ (zro (f11_faultAt v1 σ) σ) :=
  zMet_ofR [(0, aR 11 (some 0)), (1, aI v1)] (by decide +kernel) (fun h => by cases h) (Nat.le_of_ble_eq_true rfl) rfl fun E _ => x11_faultAt E  v1 σ
abbrev r11_promise : Room := { frames := 3, cells := 0, slots := 0, locals := 64 }
abbrev m11_promise : zMu := (RX11, 4, (some .int), r11_promise, false)
set_option maxRecDepth 20000 in
theorem x11_promise (E : zEn)  (v1 : Int32) (v2 : Int32) (σ : zSt) : X E cX11_promise m11_promise true (zQw E true eI r11_promise) 0 0 σ [(0, aR 11 (some 0)), (1, aI v1), (2, aI v2)] 0 [] (f11_promise v1 v2 σ) := by
  unfold f11_promise
  refine x_aload_n (pc := 0) 0 dX11_promise_0 rfl rfl ?_
  refine x_iload_n (pc := 1) 1 dX11_promise_1 rfl rfl ?_
  refine x_callVr (pc := 2) (as := [aI v1]) (rest := []) (fun l => c_11_faultAt l v1 σ) md_X11_faultAt ⟨_, _, rfl, by decide⟩ tk_521 tp_8 tk_519 dX11_promise_2 rfl ⟨by decide, by decide, by decide, by decide⟩ ⟨fun _ => rfl, fun _ => Or.inl rfl⟩ rfl (Nat.le_of_ble_eq_true rfl) (fun o2 => ?_)
  show X E _ _ _ _ 0 0 _ _ _ [aR 1 o2] _
  refine x_astore_n (pc := 5) (als' := [(3, aR 1 o2), (0, aR 11 (some 0)), (1, aI v1), (2, aI v2)]) 3 dX11_promise_5 rfl (by decide) rfl ?_
  refine x_aload_n (pc := 6) 3 dX11_promise_6 rfl rfl ?_
  rcases o2 with _ | i3
  ·
    refine x_ifnullN (pc := 7) 25 dX11_promise_7 (by decide) ?_
    refine x_iconst (pc := 25) (-1) dX11_promise_25 rfl ?_
    exact x_iret (rm := r11_promise) rfl rfl dX11_promise_26
  ·
    refine x_ifnullS (pc := 7) dX11_promise_7 ?_
    refine x_iload_n (pc := 10) 2 dX11_promise_10 rfl rfl ?_
    refine x_aload_n (pc := 11) 0 dX11_promise_11 rfl rfl ?_
    refine x_getI (pc := 12) fd_11_6 tk_158 dX11_promise_12 ?_
    refine x_icmp_lt (pc := 15) 25 dX11_promise_15 (by decide) (fun _ => ?_) (fun _ => ?_)
    ·
      refine x_iconst (pc := 25) (-1) dX11_promise_25 rfl ?_
      exact x_iret (rm := r11_promise) rfl rfl dX11_promise_26
    ·
      refine x_iload_n (pc := 18) 2 dX11_promise_18 rfl rfl ?_
      refine x_sipush (pc := 19) 9999 dX11_promise_19 rfl ?_
      refine x_icmp_le (pc := 22) 27 dX11_promise_22 (by decide) (fun _ => ?_) (fun _ => ?_)
      ·
        refine x_aload_n (pc := 27) 3 dX11_promise_27 rfl rfl ?_
        refine x_callVr (pc := 28) (as := []) (rest := []) (fun l => c_1_isWaiting l i3 σ) md_X1_isWaiting ⟨_, _, rfl, by decide⟩ tk_524 tk_525 tk_523 dX11_promise_28 rfl ⟨by decide, by decide, by decide, by decide⟩ ⟨fun _ => rfl, fun _ => Or.inl rfl⟩ rfl (Nat.le_of_ble_eq_true rfl) (fun r4 => ?_)
        show X E _ _ _ _ 0 0 _ _ _ [aI r4] _
        refine x_if_ne (pc := 31) 37 dX11_promise_31 (by decide) (fun _ => ?_) (fun _ => ?_)
        ·
          refine x_aload_n (pc := 37) 3 dX11_promise_37 rfl rfl ?_
          refine x_getF (pc := 38) (j := i3) fd_1_7 rfl rfl tk_446 dX11_promise_38 ?_
          refine x_callVr (pc := 41) (as := []) (rest := []) (fun l => c_4_isFull l true i3 σ) md_X4_isFull ⟨_, _, rfl, by decide⟩ tk_529 tk_530 tk_528 dX11_promise_41 rfl ⟨by decide, by decide, by decide, by decide⟩ ⟨fun _ => rfl, fun _ => Or.inl rfl⟩ rfl (Nat.le_of_ble_eq_true rfl) (fun r5 => ?_)
          show X E _ _ _ _ 0 0 _ _ _ [aI r5] _
          refine x_if_eq (pc := 44) 50 dX11_promise_44 (by decide) (fun _ => ?_) (fun _ => ?_)
          ·
            refine x_aload_n (pc := 50) 3 dX11_promise_50 rfl rfl ?_
            refine x_iload_n (pc := 51) 2 dX11_promise_51 rfl rfl ?_
            refine x_aload_n (pc := 52) 0 dX11_promise_52 rfl rfl ?_
            refine x_getI (pc := 53) fd_11_6 tk_158 dX11_promise_53 ?_
            refine x_callV (pc := 56) (as := [aI v2, aI (gI σ 11 0 6)]) (rest := []) (fun l => c_1_promiseAnew l i3 v2 (gI σ 11 0 6) σ) md_X1_promiseAnew ⟨_, _, rfl, by decide⟩ tk_533 tk_534 tk_532 dX11_promise_56 rfl ⟨by decide, by decide, by decide, by decide⟩ ⟨fun _ => rfl, fun _ => Or.inl rfl⟩ rfl (Nat.le_of_ble_eq_true rfl) (fun _ s7 => ?_)
            show X E _ _ _ _ 0 0 _ _ _ [] _
            refine x_iconst (pc := 59) 1 dX11_promise_59 rfl ?_
            exact x_iret (rm := r11_promise) rfl rfl dX11_promise_60
          ·
            refine x_bipush (pc := 47) (-2) dX11_promise_47 rfl ?_
            exact x_iret (rm := r11_promise) rfl rfl dX11_promise_49
        ·
          refine x_bipush (pc := 34) (-3) dX11_promise_34 rfl ?_
          exact x_iret (rm := r11_promise) rfl rfl dX11_promise_36
      ·
        refine x_iconst (pc := 25) (-1) dX11_promise_25 rfl ?_
        exact x_iret (rm := r11_promise) rfl rfl dX11_promise_26
theorem c_11_promise (l : Launch)  (v1 : Int32) (v2 : Int32) (σ : zSt) : zMet l yX11_promise cX11_promise 4 (some .int) r11_promise true eI [aR 11 (some 0), aI v1, aI v2] σ (f11_promise v1 v2 σ) :=
  zMet_of [(0, aR 11 (some 0)), (1, aI v1), (2, aI v2)] (by decide +kernel) (fun h => by cases h) (Nat.le_of_ble_eq_true rfl) rfl fun E _ => x11_promise E  v1 v2 σ
abbrev r11_said : Room := { frames := 2, cells := 0, slots := 0, locals := 45 }
abbrev m11_said : zMu := (RX11, 4, (some .int), r11_said, false)
set_option maxRecDepth 20000 in
theorem x11_said (E : zEn)  (v1 : Int32) (v2 : Int32) (σ : zSt) : X E cX11_said m11_said true (zQw E true eI r11_said) 0 0 σ [(0, aR 11 (some 0)), (1, aI v1), (2, aI v2)] 0 [] (f11_said v1 v2 σ) := by
  unfold f11_said
  refine x_aload_n (pc := 0) 0 dX11_said_0 rfl rfl ?_
  refine x_iload_n (pc := 1) 1 dX11_said_1 rfl rfl ?_
  refine x_callVr (pc := 2) (as := [aI v1]) (rest := []) (fun l => c_11_faultAt l v1 σ) md_X11_faultAt ⟨_, _, rfl, by decide⟩ tk_521 tp_8 tk_519 dX11_said_2 rfl ⟨by decide, by decide, by decide, by decide⟩ ⟨fun _ => rfl, fun _ => Or.inl rfl⟩ rfl (Nat.le_of_ble_eq_true rfl) (fun o2 => ?_)
  show X E _ _ _ _ 0 0 _ _ _ [aR 1 o2] _
  refine x_astore_n (pc := 5) (als' := [(3, aR 1 o2), (0, aR 11 (some 0)), (1, aI v1), (2, aI v2)]) 3 dX11_said_5 rfl (by decide) rfl ?_
  refine x_aload_n (pc := 6) 3 dX11_said_6 rfl rfl ?_
  rcases o2 with _ | i3
  ·
    refine x_ifnullN (pc := 7) 19 dX11_said_7 (by decide) ?_
    refine x_iconst (pc := 19) (-1) dX11_said_19 rfl ?_
    exact x_iret (rm := r11_said) rfl rfl dX11_said_20
  ·
    refine x_ifnullS (pc := 7) dX11_said_7 ?_
    refine x_iload_n (pc := 10) 2 dX11_said_10 rfl rfl ?_
    refine x_bipush (pc := 11) 10 dX11_said_11 rfl ?_
    refine x_callSr (pc := 13) (as := [aI v2, aI 10]) (rest := []) (fun l => c_11_isIn l true v2 10 σ) md_X11_isIn tk_219 tk_218 dX11_said_13 rfl ⟨by decide, by decide, by decide, by decide⟩ ⟨fun _ => rfl, fun _ => Or.inl rfl⟩ rfl (Nat.le_of_ble_eq_true rfl) (fun r4 => ?_)
    show X E _ _ _ _ 0 0 _ _ _ [aI r4] _
    refine x_if_ne (pc := 16) 21 dX11_said_16 (by decide) (fun _ => ?_) (fun _ => ?_)
    ·
      refine x_aload_n (pc := 21) 3 dX11_said_21 rfl rfl ?_
      refine x_callVr (pc := 22) (as := []) (rest := []) (fun l => c_1_isWaiting l i3 σ) md_X1_isWaiting ⟨_, _, rfl, by decide⟩ tk_524 tk_525 tk_523 dX11_said_22 rfl ⟨by decide, by decide, by decide, by decide⟩ ⟨fun _ => rfl, fun _ => Or.inl rfl⟩ rfl (Nat.le_of_ble_eq_true rfl) (fun r5 => ?_)
      show X E _ _ _ _ 0 0 _ _ _ [aI r5] _
      refine x_if_ne (pc := 25) 31 dX11_said_25 (by decide) (fun _ => ?_) (fun _ => ?_)
      ·
        refine x_aload_n (pc := 31) 3 dX11_said_31 rfl rfl ?_
        refine x_getF (pc := 32) (j := i3) fd_1_7 rfl rfl tk_446 dX11_said_32 ?_
        refine x_callVr (pc := 35) (as := []) (rest := []) (fun l => c_4_isFull l true i3 σ) md_X4_isFull ⟨_, _, rfl, by decide⟩ tk_529 tk_530 tk_528 dX11_said_35 rfl ⟨by decide, by decide, by decide, by decide⟩ ⟨fun _ => rfl, fun _ => Or.inl rfl⟩ rfl (Nat.le_of_ble_eq_true rfl) (fun r6 => ?_)
        show X E _ _ _ _ 0 0 _ _ _ [aI r6] _
        refine x_if_eq (pc := 38) 44 dX11_said_38 (by decide) (fun _ => ?_) (fun _ => ?_)
        ·
          refine x_aload_n (pc := 44) 3 dX11_said_44 rfl rfl ?_
          refine x_iload_n (pc := 45) 2 dX11_said_45 rfl rfl ?_
          refine x_aload_n (pc := 46) 0 dX11_said_46 rfl rfl ?_
          refine x_getI (pc := 47) fd_11_6 tk_158 dX11_said_47 ?_
          refine x_callV (pc := 50) (as := [aI v2, aI (gI σ 11 0 6)]) (rest := []) (fun l => c_1_saidBy l i3 v2 (gI σ 11 0 6) σ) md_X1_saidBy ⟨_, _, rfl, by decide⟩ tk_542 tk_543 tk_541 dX11_said_50 rfl ⟨by decide, by decide, by decide, by decide⟩ ⟨fun _ => rfl, fun _ => Or.inl rfl⟩ rfl (Nat.le_of_ble_eq_true rfl) (fun _ s8 => ?_)
          show X E _ _ _ _ 0 0 _ _ _ [] _
          refine x_iconst (pc := 53) 1 dX11_said_53 rfl ?_
          exact x_iret (rm := r11_said) rfl rfl dX11_said_54
        ·
          refine x_bipush (pc := 41) (-2) dX11_said_41 rfl ?_
          exact x_iret (rm := r11_said) rfl rfl dX11_said_43
      ·
        refine x_bipush (pc := 28) (-3) dX11_said_28 rfl ?_
        exact x_iret (rm := r11_said) rfl rfl dX11_said_30
    ·
      refine x_iconst (pc := 19) (-1) dX11_said_19 rfl ?_
      exact x_iret (rm := r11_said) rfl rfl dX11_said_20
theorem c_11_said (l : Launch)  (v1 : Int32) (v2 : Int32) (σ : zSt) : zMet l yX11_said cX11_said 4 (some .int) r11_said true eI [aR 11 (some 0), aI v1, aI v2] σ (f11_said v1 v2 σ) :=
  zMet_of [(0, aR 11 (some 0)), (1, aI v1), (2, aI v2)] (by decide +kernel) (fun h => by cases h) (Nat.le_of_ble_eq_true rfl) rfl fun E _ => x11_said E  v1 v2 σ
abbrev r11_look : Room := { frames := 3, cells := 0, slots := 0, locals := 62 }
abbrev m11_look : zMu := (RX11, 4, (some .int), r11_look, false)
set_option maxRecDepth 20000 in
theorem x11_look (E : zEn)  (v1 : Int32) (v2 : Int32) (σ : zSt) : X E cX11_look m11_look true (zQw E true eI r11_look) 0 0 σ [(0, aR 11 (some 0)), (1, aI v1), (2, aI v2)] 0 [] (f11_look v1 v2 σ) := by
  unfold f11_look
  refine x_aload_n (pc := 0) 0 dX11_look_0 rfl rfl ?_
  refine x_iload_n (pc := 1) 1 dX11_look_1 rfl rfl ?_
  refine x_callVr (pc := 2) (as := [aI v1]) (rest := []) (fun l => c_11_faultAt l v1 σ) md_X11_faultAt ⟨_, _, rfl, by decide⟩ tk_521 tp_8 tk_519 dX11_look_2 rfl ⟨by decide, by decide, by decide, by decide⟩ ⟨fun _ => rfl, fun _ => Or.inl rfl⟩ rfl (Nat.le_of_ble_eq_true rfl) (fun o2 => ?_)
  show X E _ _ _ _ 0 0 _ _ _ [aR 1 o2] _
  refine x_astore_n (pc := 5) (als' := [(3, aR 1 o2), (0, aR 11 (some 0)), (1, aI v1), (2, aI v2)]) 3 dX11_look_5 rfl (by decide) rfl ?_
  refine x_aload_n (pc := 6) 3 dX11_look_6 rfl rfl ?_
  rcases o2 with _ | i3
  ·
    refine x_ifnullN (pc := 7) 18 dX11_look_7 (by decide) ?_
    refine x_iconst (pc := 18) (-1) dX11_look_18 rfl ?_
    exact x_iret (rm := r11_look) rfl rfl dX11_look_19
  ·
    refine x_ifnullS (pc := 7) dX11_look_7 ?_
    refine x_iload_n (pc := 10) 2 dX11_look_10 rfl rfl ?_
    refine x_iconst (pc := 11) 2 dX11_look_11 rfl ?_
    refine x_callSr (pc := 12) (as := [aI v2, aI 2]) (rest := []) (fun l => c_11_isIn l true v2 2 σ) md_X11_isIn tk_219 tk_218 dX11_look_12 rfl ⟨by decide, by decide, by decide, by decide⟩ ⟨fun _ => rfl, fun _ => Or.inl rfl⟩ rfl (Nat.le_of_ble_eq_true rfl) (fun r4 => ?_)
    show X E _ _ _ _ 0 0 _ _ _ [aI r4] _
    refine x_if_ne (pc := 15) 20 dX11_look_15 (by decide) (fun _ => ?_) (fun _ => ?_)
    ·
      refine x_aload_n (pc := 20) 3 dX11_look_20 rfl rfl ?_
      refine x_getF (pc := 21) (j := i3) fd_1_7 rfl rfl tk_446 dX11_look_21 ?_
      refine x_callVr (pc := 24) (as := []) (rest := []) (fun l => c_4_now l i3 σ) md_X4_now ⟨_, _, rfl, by decide⟩ tk_503 tk_504 tk_502 dX11_look_24 rfl ⟨by decide, by decide, by decide, by decide⟩ ⟨fun _ => rfl, fun _ => Or.inl rfl⟩ rfl (Nat.le_of_ble_eq_true rfl) (fun r5 => ?_)
      show X E _ _ _ _ 0 0 _ _ _ [aI r5] _
      refine x_iconst (pc := 27) 2 dX11_look_27 rfl ?_
      refine x_icmp_eq (pc := 28) 34 dX11_look_28 (by decide) (fun _ => ?_) (fun _ => ?_)
      ·
        refine x_aload_n (pc := 34) 3 dX11_look_34 rfl rfl ?_
        refine x_getF (pc := 35) (j := i3) fd_1_7 rfl rfl tk_446 dX11_look_35 ?_
        refine x_callVr (pc := 38) (as := []) (rest := []) (fun l => c_4_isFull l true i3 σ) md_X4_isFull ⟨_, _, rfl, by decide⟩ tk_529 tk_530 tk_528 dX11_look_38 rfl ⟨by decide, by decide, by decide, by decide⟩ ⟨fun _ => rfl, fun _ => Or.inl rfl⟩ rfl (Nat.le_of_ble_eq_true rfl) (fun r6 => ?_)
        show X E _ _ _ _ 0 0 _ _ _ [aI r6] _
        refine x_if_eq (pc := 41) 47 dX11_look_41 (by decide) (fun _ => ?_) (fun _ => ?_)
        ·
          refine x_aload_n (pc := 47) 3 dX11_look_47 rfl rfl ?_
          refine x_callVr (pc := 48) (as := []) (rest := []) (fun l => c_1_lastCrew l i3 σ) md_X1_lastCrew ⟨_, _, rfl, by decide⟩ tk_550 tk_551 tk_549 dX11_look_48 rfl ⟨by decide, by decide, by decide, by decide⟩ ⟨fun _ => rfl, fun _ => Or.inl rfl⟩ rfl (Nat.le_of_ble_eq_true rfl) (fun r7 => ?_)
          show X E _ _ _ _ 0 0 _ _ _ [aI r7] _
          refine x_bipush (pc := 51) 10 dX11_look_51 rfl ?_
          refine x_callSr (pc := 53) (as := [aI r7, aI 10]) (rest := []) (fun l => c_11_isIn l true r7 10 σ) md_X11_isIn tk_219 tk_218 dX11_look_53 rfl ⟨by decide, by decide, by decide, by decide⟩ ⟨fun _ => rfl, fun _ => Or.inl rfl⟩ rfl (Nat.le_of_ble_eq_true rfl) (fun r8 => ?_)
          show X E _ _ _ _ 0 0 _ _ _ [aI r8] _
          refine x_join (P := fun (j10 : zSt → Option (Int32 × zSt)) => ∀ (s9 : zSt), X E cX11_look m11_look true (zQw E true eI r11_look) 0 0 s9 [(0, aR 11 (some 0)), (2, aI v2), (3, aR 1 (some i3))] 72 [] (j10 s9)) ?_ ?_
          · intro s9
            refine x_aload_n (pc := 72) 3 dX11_look_72 rfl rfl ?_
            refine x_getF (pc := 73) (j := i3) fd_1_7 rfl rfl tk_446 dX11_look_73 ?_
            refine x_iload_n (pc := 76) 2 dX11_look_76 rfl rfl ?_
            refine x_iconst (pc := 77) 1 dX11_look_77 rfl ?_
            refine x_mg (c := v2 = 1) (a := 3) (b := 0) 86 [aR 4 (some i3)] ?_ (fun hm12 => ?_)
            ·
              refine x_aload_n (pc := 86) 0 dX11_look_86 rfl rfl ?_
              refine x_getI (pc := 87) fd_11_6 tk_158 dX11_look_87 ?_
              refine x_iconst (pc := 90) (-1) dX11_look_90 rfl ?_
              refine x_callV (pc := 91) (as := [aI (if v2 = 1 then 3 else 0), aI (gI s9 11 0 6), aI (-1)]) (rest := []) (fun l => c_4_add l i3 (if v2 = 1 then 3 else 0) (gI s9 11 0 6) (-1) s9) md_X4_add ⟨_, _, rfl, by decide⟩ tk_512 tk_513 tk_562 dX11_look_91 rfl ⟨by decide, by decide, by decide, by decide⟩ ⟨fun _ => rfl, fun _ => Or.inl rfl⟩ rfl (Nat.le_of_ble_eq_true rfl) (fun _ s17 => ?_)
              show X E _ _ _ _ 0 0 _ _ _ [] _
              refine x_iconst (pc := 94) 1 dX11_look_94 rfl ?_
              exact x_iret (rm := r11_look) rfl rfl dX11_look_95
            ·
              refine x_same (c := v2 = 1) ?_
              refine x_icmp_ne (pc := 78) 85 dX11_look_78 (by decide) (fun hc13 => ?_) (fun hc13 => ?_)
              ·
                have hm15 := x_topF hc13 hm12
                refine x_iconst (pc := 85) 0 dX11_look_85 rfl ?_
                exact hm15
              ·
                have hm14 := x_topT hc13 hm12
                refine x_iconst (pc := 81) 3 dX11_look_81 rfl ?_
                refine x_goto (pc := 82) 86 dX11_look_82 (by decide) ?_
                exact hm14
          · intro j10 hj11
            refine x_if_eq (pc := 56) 72 dX11_look_56 (by decide) (fun _ => ?_) (fun _ => ?_)
            ·
              exact x_sub [1, 3, 0] rfl (hj11 σ)
            ·
              refine x_aload_n (pc := 59) 0 dX11_look_59 rfl rfl ?_
              refine x_getF (pc := 60) (j := 0) fd_11_17 rfl rfl tk_169 dX11_look_60 ?_
              refine x_aload_n (pc := 63) 3 dX11_look_63 rfl rfl ?_
              refine x_callVr (pc := 64) (as := []) (rest := [aR 1217 (some 0)]) (fun l => c_1_lastCrew l i3 σ) md_X1_lastCrew ⟨_, _, rfl, by decide⟩ tk_550 tk_551 tk_549 dX11_look_64 rfl ⟨by decide, by decide, by decide, by decide⟩ ⟨fun _ => rfl, fun _ => Or.inl rfl⟩ rfl (Nat.le_of_ble_eq_true rfl) (fun r18 => ?_)
              show X E _ _ _ _ 0 0 _ _ _ [aI r18, aR 1217 (some 0)] _
              refine x_dup2 (pc := 67) dX11_look_67 rfl rfl ?_
              refine x_iald (pc := 68) ar_1217 dX11_look_68 (fun m19 => ?_)
              refine x_iconst (pc := 69) 1 dX11_look_69 rfl ?_
              refine x_iadd (pc := 70) dX11_look_70 ?_
              refine x_iast (pc := 71) ar_1217 dX11_look_71 (fun m20 => ?_)
              refine x_nameS (fun s21 => ?_)
              exact x_sub [1, 3, 0] rfl (hj11 s21)
        ·
          refine x_bipush (pc := 44) (-2) dX11_look_44 rfl ?_
          exact x_iret (rm := r11_look) rfl rfl dX11_look_46
      ·
        refine x_bipush (pc := 31) (-3) dX11_look_31 rfl ?_
        exact x_iret (rm := r11_look) rfl rfl dX11_look_33
    ·
      refine x_iconst (pc := 18) (-1) dX11_look_18 rfl ?_
      exact x_iret (rm := r11_look) rfl rfl dX11_look_19
theorem c_11_look (l : Launch)  (v1 : Int32) (v2 : Int32) (σ : zSt) : zMet l yX11_look cX11_look 4 (some .int) r11_look true eI [aR 11 (some 0), aI v1, aI v2] σ (f11_look v1 v2 σ) :=
  zMet_of [(0, aR 11 (some 0)), (1, aI v1), (2, aI v2)] (by decide +kernel) (fun h => by cases h) (Nat.le_of_ble_eq_true rfl) rfl fun E _ => x11_look E  v1 v2 σ
abbrev r11_voids : Room := { frames := 2, cells := 0, slots := 0, locals := 45 }
abbrev m11_voids : zMu := (RX11, 3, (some .int), r11_voids, false)
set_option maxRecDepth 20000 in
theorem x11_voids (E : zEn)  (v1 : Int32) (σ : zSt) : X E cX11_voids m11_voids true (zQw E true eI r11_voids) 0 0 σ [(0, aR 11 (some 0)), (1, aI v1)] 0 [] (f11_voids v1 σ) := by
  unfold f11_voids
  refine x_aload_n (pc := 0) 0 dX11_voids_0 rfl rfl ?_
  refine x_iload_n (pc := 1) 1 dX11_voids_1 rfl rfl ?_
  refine x_callVr (pc := 2) (as := [aI v1]) (rest := []) (fun l => c_11_faultAt l v1 σ) md_X11_faultAt ⟨_, _, rfl, by decide⟩ tk_521 tp_8 tk_519 dX11_voids_2 rfl ⟨by decide, by decide, by decide, by decide⟩ ⟨fun _ => rfl, fun _ => Or.inl rfl⟩ rfl (Nat.le_of_ble_eq_true rfl) (fun o2 => ?_)
  show X E _ _ _ _ 0 0 _ _ _ [aR 1 o2] _
  refine x_astore_n (pc := 5) (als' := [(2, aR 1 o2), (0, aR 11 (some 0)), (1, aI v1)]) 2 dX11_voids_5 rfl (by decide) rfl ?_
  refine x_aload_n (pc := 6) 2 dX11_voids_6 rfl rfl ?_
  rcases o2 with _ | i3
  ·
    refine x_ifnonnullN (pc := 7) dX11_voids_7 ?_
    refine x_iconst (pc := 10) (-1) dX11_voids_10 rfl ?_
    exact x_iret (rm := r11_voids) rfl rfl dX11_voids_11
  ·
    refine x_ifnonnullS (pc := 7) 12 dX11_voids_7 (by decide) ?_
    refine x_aload_n (pc := 12) 2 dX11_voids_12 rfl rfl ?_
    refine x_callVr (pc := 13) (as := []) (rest := []) (fun l => c_1_isWaiting l i3 σ) md_X1_isWaiting ⟨_, _, rfl, by decide⟩ tk_524 tk_525 tk_523 dX11_voids_13 rfl ⟨by decide, by decide, by decide, by decide⟩ ⟨fun _ => rfl, fun _ => Or.inl rfl⟩ rfl (Nat.le_of_ble_eq_true rfl) (fun r4 => ?_)
    show X E _ _ _ _ 0 0 _ _ _ [aI r4] _
    refine x_if_ne (pc := 16) 22 dX11_voids_16 (by decide) (fun _ => ?_) (fun _ => ?_)
    ·
      refine x_aload_n (pc := 22) 2 dX11_voids_22 rfl rfl ?_
      refine x_getF (pc := 23) (j := i3) fd_1_7 rfl rfl tk_446 dX11_voids_23 ?_
      refine x_callVr (pc := 26) (as := []) (rest := []) (fun l => c_4_isFull l true i3 σ) md_X4_isFull ⟨_, _, rfl, by decide⟩ tk_529 tk_530 tk_528 dX11_voids_26 rfl ⟨by decide, by decide, by decide, by decide⟩ ⟨fun _ => rfl, fun _ => Or.inl rfl⟩ rfl (Nat.le_of_ble_eq_true rfl) (fun r5 => ?_)
      show X E _ _ _ _ 0 0 _ _ _ [aI r5] _
      refine x_if_eq (pc := 29) 35 dX11_voids_29 (by decide) (fun _ => ?_) (fun _ => ?_)
      ·
        refine x_aload_n (pc := 35) 2 dX11_voids_35 rfl rfl ?_
        refine x_iconst (pc := 36) 4 dX11_voids_36 rfl ?_
        refine x_aload_n (pc := 37) 0 dX11_voids_37 rfl rfl ?_
        refine x_getI (pc := 38) fd_11_6 tk_158 dX11_voids_38 ?_
        refine x_callV (pc := 41) (as := [aI 4, aI (gI σ 11 0 6)]) (rest := []) (fun l => c_1_endWith l i3 4 (gI σ 11 0 6) σ) md_X1_endWith ⟨_, _, rfl, by decide⟩ tk_568 tk_569 tk_567 dX11_voids_41 rfl ⟨by decide, by decide, by decide, by decide⟩ ⟨fun _ => rfl, fun _ => Or.inl rfl⟩ rfl (Nat.le_of_ble_eq_true rfl) (fun _ s7 => ?_)
        show X E _ _ _ _ 0 0 _ _ _ [] _
        refine x_iconst (pc := 44) 1 dX11_voids_44 rfl ?_
        exact x_iret (rm := r11_voids) rfl rfl dX11_voids_45
      ·
        refine x_bipush (pc := 32) (-2) dX11_voids_32 rfl ?_
        exact x_iret (rm := r11_voids) rfl rfl dX11_voids_34
    ·
      refine x_bipush (pc := 19) (-3) dX11_voids_19 rfl ?_
      exact x_iret (rm := r11_voids) rfl rfl dX11_voids_21
theorem c_11_voids (l : Launch)  (v1 : Int32) (σ : zSt) : zMet l yX11_voids cX11_voids 3 (some .int) r11_voids true eI [aR 11 (some 0), aI v1] σ (f11_voids v1 σ) :=
  zMet_of [(0, aR 11 (some 0)), (1, aI v1)] (by decide +kernel) (fun h => by cases h) (Nat.le_of_ble_eq_true rfl) rfl fun E _ => x11_voids E  v1 σ
