abbrev r2_setFacts : Room := { frames := 0, cells := 0, slots := 0, locals := 0 }
abbrev m2_setFacts : zMu := (RX2, 6, none, r2_setFacts, false)
set_option maxRecDepth 20000 in
theorem x2_setFacts (E : zEn)  (v1 : Int32) (v2 : Int32) (v3 : Int32) (v4 : Int32) (v5 : Int32) (σ : zSt) : X E cX2_setFacts m2_setFacts true (zQw E true eV r2_setFacts) 0 0 σ [(0, aR 2 (some 0)), (1, aI v1), (2, aI v2), (3, aI v3), (4, aI v4), (5, aI v5)] 0 [] (f2_setFacts v1 v2 v3 v4 v5 σ) := by
  unfold f2_setFacts
  refine x_aload_n (pc := 0) 0 dX2_setFacts_0 rfl rfl ?_
  refine x_getF (pc := 1) (j := 0) fd_2_0 rfl rfl tk_98 dX2_setFacts_1 ?_
  refine x_iconst (pc := 4) 0 dX2_setFacts_4 rfl ?_
  refine x_iload_n (pc := 5) 1 dX2_setFacts_5 rfl rfl ?_
  refine x_iast (pc := 6) ar_300 dX2_setFacts_6 (fun m1 => ?_)
  refine x_nameS (fun s2 => ?_)
  refine x_aload_n (pc := 7) 0 dX2_setFacts_7 rfl rfl ?_
  refine x_getF (pc := 8) (j := 0) fd_2_0 rfl rfl tk_98 dX2_setFacts_8 ?_
  refine x_iconst (pc := 11) 1 dX2_setFacts_11 rfl ?_
  refine x_iload_n (pc := 12) 2 dX2_setFacts_12 rfl rfl ?_
  refine x_iast (pc := 13) ar_300 dX2_setFacts_13 (fun m3 => ?_)
  refine x_nameS (fun s4 => ?_)
  refine x_aload_n (pc := 14) 0 dX2_setFacts_14 rfl rfl ?_
  refine x_getF (pc := 15) (j := 0) fd_2_0 rfl rfl tk_98 dX2_setFacts_15 ?_
  refine x_iconst (pc := 18) 2 dX2_setFacts_18 rfl ?_
  refine x_iload_n (pc := 19) 3 dX2_setFacts_19 rfl rfl ?_
  refine x_iast (pc := 20) ar_300 dX2_setFacts_20 (fun m5 => ?_)
  refine x_nameS (fun s6 => ?_)
  refine x_aload_n (pc := 21) 0 dX2_setFacts_21 rfl rfl ?_
  refine x_getF (pc := 22) (j := 0) fd_2_0 rfl rfl tk_98 dX2_setFacts_22 ?_
  refine x_iconst (pc := 25) 3 dX2_setFacts_25 rfl ?_
  refine x_iload (pc := 26) 4 dX2_setFacts_26 rfl ?_
  refine x_iast (pc := 28) ar_300 dX2_setFacts_28 (fun m7 => ?_)
  refine x_nameS (fun s8 => ?_)
  refine x_aload_n (pc := 29) 0 dX2_setFacts_29 rfl rfl ?_
  refine x_getF (pc := 30) (j := 0) fd_2_0 rfl rfl tk_98 dX2_setFacts_30 ?_
  refine x_iconst (pc := 33) 4 dX2_setFacts_33 rfl ?_
  refine x_iload (pc := 34) 5 dX2_setFacts_34 rfl ?_
  refine x_iast (pc := 36) ar_300 dX2_setFacts_36 (fun m9 => ?_)
  refine x_nameS (fun s10 => ?_)
  exact x_vret (rm := r2_setFacts) rfl rfl dX2_setFacts_37
theorem c_2_setFacts (l : Launch)  (v1 : Int32) (v2 : Int32) (v3 : Int32) (v4 : Int32) (v5 : Int32) (σ : zSt) : zMet l yX2_setFacts cX2_setFacts 6 none r2_setFacts true eV [aR 2 (some 0), aI v1, aI v2, aI v3, aI v4, aI v5] σ (f2_setFacts v1 v2 v3 v4 v5 σ) :=
  zMet_of [(0, aR 2 (some 0)), (1, aI v1), (2, aI v2), (3, aI v3), (4, aI v4), (5, aI v5)] (by decide +kernel) (fun h => by cases h) (Nat.le_of_ble_eq_true rfl) rfl fun E _ => x2_setFacts E  v1 v2 v3 v4 v5 σ
abbrev r2_startLevel : Room := { frames := 1, cells := 0, slots := 0, locals := 21 }
abbrev m2_startLevel : zMu := (RX2, 1, none, r2_startLevel, false)
set_option maxRecDepth 20000 in
theorem x2_startLevel (E : zEn)   (σ : zSt) : X E cX2_startLevel m2_startLevel true (zQw E true eV r2_startLevel) 0 0 σ [(0, aR 2 (some 0))] 0 [] (f2_startLevel σ) := by
  unfold f2_startLevel
  refine x_aload_n (pc := 0) 0 dX2_startLevel_0 rfl rfl ?_
  refine x_getI (pc := 1) fd_2_3 tk_101 dX2_startLevel_1 ?_
  refine x_aload_n (pc := 4) 0 dX2_startLevel_4 rfl rfl ?_
  refine x_getF (pc := 5) (j := 0) fd_2_1 rfl rfl tk_99 dX2_startLevel_5 ?_
  refine x_alen (pc := 8) ar_301 (by decide) dX2_startLevel_8 ?_
  refine x_callSNr (pc := 9) (as := [aI (gI σ 2 0 3), aI (nI 7)]) (rest := []) (fun l => c_11_isIn l true (gI σ 2 0 3) (nI 7) σ) md_X11_isIn tk_219 (host := RX11) (by decide +kernel) dX2_startLevel_9 rfl ⟨by decide, by decide, by decide, by decide⟩ ⟨fun _ => rfl, fun _ => Or.inl rfl⟩ rfl (Nat.le_of_ble_eq_true rfl) (fun r1 => ?_)
  show X E _ _ _ _ 0 0 _ _ _ [aI r1] _
  refine x_if_eq (pc := 12) 36 dX2_startLevel_12 (by decide) (fun _ => ?_) (fun _ => ?_)
  ·
    exact x_vret (rm := r2_startLevel) rfl rfl dX2_startLevel_36
  ·
    refine x_aload_n (pc := 15) 0 dX2_startLevel_15 rfl rfl ?_
    refine x_getF (pc := 16) (j := 0) fd_2_1 rfl rfl tk_99 dX2_startLevel_16 ?_
    refine x_aload_n (pc := 19) 0 dX2_startLevel_19 rfl rfl ?_
    refine x_getI (pc := 20) fd_2_3 tk_101 dX2_startLevel_20 ?_
    refine x_iconst (pc := 23) 0 dX2_startLevel_23 rfl ?_
    refine x_iast (pc := 24) ar_301 dX2_startLevel_24 (fun m2 => ?_)
    refine x_nameS (fun s3 => ?_)
    refine x_aload_n (pc := 25) 0 dX2_startLevel_25 rfl rfl ?_
    refine x_getF (pc := 26) (j := 0) fd_2_2 rfl rfl tk_100 dX2_startLevel_26 ?_
    refine x_aload_n (pc := 29) 0 dX2_startLevel_29 rfl rfl ?_
    refine x_getI (pc := 30) fd_2_3 tk_101 dX2_startLevel_30 ?_
    refine x_bipush (pc := 33) 43 dX2_startLevel_33 rfl ?_
    refine x_iast (pc := 35) ar_302 dX2_startLevel_35 (fun m4 => ?_)
    refine x_nameS (fun s5 => ?_)
    exact x_vret (rm := r2_startLevel) rfl rfl dX2_startLevel_36
theorem c_2_startLevel (l : Launch)   (σ : zSt) : zMet l yX2_startLevel cX2_startLevel 1 none r2_startLevel true eV [aR 2 (some 0)] σ (f2_startLevel σ) :=
  zMet_of [(0, aR 2 (some 0))] (by decide +kernel) (fun h => by cases h) (Nat.le_of_ble_eq_true rfl) rfl fun E _ => x2_startLevel E   σ
abbrev r2_startPart : Room := { frames := 2, cells := 0, slots := 0, locals := 41 }
abbrev m2_startPart : zMu := (RX2, 1, none, r2_startPart, false)
set_option maxRecDepth 20000 in
theorem x2_startPart (E : zEn)   (σ : zSt) : X E cX2_startPart m2_startPart true (zQw E true eV r2_startPart) 0 0 σ [(0, aR 2 (some 0))] 0 [] (f2_startPart σ) := by
  unfold f2_startPart
  refine x_aload_n (pc := 0) 0 dX2_startPart_0 rfl rfl ?_
  refine x_iconst (pc := 1) 0 dX2_startPart_1 rfl ?_
  refine x_putI (pc := 2) fd_2_3 pt_2_3 tk_101 dX2_startPart_2 (Or.inl rfl) ?_
  refine x_nameS (fun s1 => ?_)
  refine x_aload_n (pc := 5) 0 dX2_startPart_5 rfl rfl ?_
  refine x_callV (pc := 6) (as := []) (rest := []) (fun l => c_2_startLevel l s1) md_X2_startLevel ⟨_, _, rfl, by decide⟩ tk_1068 tp_37 tk_1066 dX2_startPart_6 rfl ⟨by decide, by decide, by decide, by decide⟩ ⟨fun _ => rfl, fun _ => Or.inl rfl⟩ rfl (Nat.le_of_ble_eq_true rfl) (fun _ s3 => ?_)
  show X E _ _ _ _ 0 0 _ _ _ [] _
  exact x_vret (rm := r2_startPart) rfl rfl dX2_startPart_9
theorem c_2_startPart (l : Launch)   (σ : zSt) : zMet l yX2_startPart cX2_startPart 1 none r2_startPart true eV [aR 2 (some 0)] σ (f2_startPart σ) :=
  zMet_of [(0, aR 2 (some 0))] (by decide +kernel) (fun h => by cases h) (Nat.le_of_ble_eq_true rfl) rfl fun E _ => x2_startPart E   σ
abbrev r10_length : Room := { frames := 0, cells := 0, slots := 0, locals := 0 }
abbrev m10_length : zMu := (RX10, 1, (some .int), r10_length, false)
set_option maxRecDepth 20000 in
theorem x10_length (E : zEn)  (h : Nat) (σ : zSt) : X E cX10_length m10_length true (zQr E true eI r10_length σ) 0 0 σ [(0, aR 10 (some h))] 0 [] (f10_length h σ) := by
  unfold f10_length
  refine x_aload_n (pc := 0) 0 dX10_length_0 rfl rfl ?_
  refine x_getF (pc := 1) (j := h) fd_10_0 rfl rfl tk_957 dX10_length_1 ?_
  refine x_alenV (pc := 4) dX10_length_4 ?_
  exact x_iret (rm := r10_length) rfl rfl dX10_length_5
theorem c_10_length (l : Launch)  (h : Nat) (σ : zSt) : zMet l yX10_length cX10_length 1 (some .int) r10_length true eI [aR 10 (some h)] σ (zro (f10_length h σ) σ) :=
  zMet_ofR [(0, aR 10 (some h))] (by decide +kernel) (fun h => by cases h) (Nat.le_of_ble_eq_true rfl) rfl fun E _ => x10_length E  h σ
abbrev r10_at : Room := { frames := 0, cells := 0, slots := 0, locals := 0 }
abbrev m10_at : zMu := (RX10, 2, (some .int), r10_at, false)
set_option maxRecDepth 20000 in
theorem x10_at (E : zEn)  (h : Nat) (v1 : Int32) (σ : zSt) : X E cX10_at m10_at true (zQr E true eI r10_at σ) 0 0 σ [(0, aR 10 (some h)), (1, aI v1)] 0 [] (f10_at h v1 σ) := by
  unfold f10_at
  refine x_iload_n (pc := 0) 1 dX10_at_0 rfl rfl ?_
  refine x_join (P := fun (j1 : Option Int32) => X E cX10_at m10_at true (zQr E true eI r10_at σ) 0 0 σ [] 22 [] j1) ?_ ?_
  ·
    refine x_iconst (pc := 22) (-1) dX10_at_22 rfl ?_
    exact x_iret (rm := r10_at) rfl rfl dX10_at_23
  · intro j1 hj2
    refine x_if_lt (pc := 1) 22 dX10_at_1 (by decide) (fun _ => ?_) (fun _ => ?_)
    ·
      exact x_sub [] rfl (hj2)
    ·
      refine x_iload_n (pc := 4) 1 dX10_at_4 rfl rfl ?_
      refine x_aload_n (pc := 5) 0 dX10_at_5 rfl rfl ?_
      refine x_getF (pc := 6) (j := h) fd_10_0 rfl rfl tk_957 dX10_at_6 ?_
      refine x_alenV (pc := 9) dX10_at_9 ?_
      refine x_icmp_ge (pc := 10) 22 dX10_at_10 (by decide) (fun _ => ?_) (fun _ => ?_)
      ·
        exact x_sub [] rfl (hj2)
      ·
        refine x_aload_n (pc := 13) 0 dX10_at_13 rfl rfl ?_
        refine x_getF (pc := 14) (j := h) fd_10_0 rfl rfl tk_957 dX10_at_14 ?_
        refine x_iload_n (pc := 17) 1 dX10_at_17 rfl rfl ?_
        refine x_ialdV (pc := 18) dX10_at_18 (fun m3 => ?_)
        refine x_goto (pc := 19) 23 dX10_at_19 (by decide) ?_
        exact x_iret (rm := r10_at) rfl rfl dX10_at_23
theorem c_10_at (l : Launch)  (h : Nat) (v1 : Int32) (σ : zSt) : zMet l yX10_at cX10_at 2 (some .int) r10_at true eI [aR 10 (some h), aI v1] σ (zro (f10_at h v1 σ) σ) :=
  zMet_ofR [(0, aR 10 (some h)), (1, aI v1)] (by decide +kernel) (fun h => by cases h) (Nat.le_of_ble_eq_true rfl) rfl fun E _ => x10_at E  h v1 σ
abbrev r2_workOut : Room := { frames := 0, cells := 0, slots := 0, locals := 0 }
abbrev m2_workOut : zMu := (RX2, 3, (some .int), r2_workOut, false)
set_option maxRecDepth 20000 in
theorem x2_workOut (E : zEn)  (q : Bool) (v0 : Int32) (v1 : Int32) (v2 : Int32) (σ : zSt) : X E cX2_workOut m2_workOut q (zQr E q eI r2_workOut σ) 0 0 σ [(0, aI v0), (1, aI v1), (2, aI v2)] 0 [] (f2_workOut v0 v1 v2 σ) := by
  unfold f2_workOut
  refine x_iload_n (pc := 0) 1 dX2_workOut_0 rfl rfl ?_
  refine x_table (pc := 1) dX2_workOut_1 (by decide) (fun tg1 ht2 => ?_) (fun x => ?_)
  ·
    refine x_ite (fun hc3 => ?_) (fun hc3 => ?_)
    ·
      obtain rfl : tg1 = 40 := zsw_at hc3 ht2 (by decide)
      refine x_iload_n (pc := 40) 0 dX2_workOut_40 rfl rfl ?_
      refine x_iload_n (pc := 41) 2 dX2_workOut_41 rfl rfl ?_
      refine x_imul (pc := 42) dX2_workOut_42 ?_
      exact x_iret (rm := r2_workOut) rfl rfl dX2_workOut_43
    ·
      refine x_ite (fun hc4 => ?_) (fun hc4 => ?_)
      ·
        obtain rfl : tg1 = 32 := zsw_at hc4 ht2 (by decide)
        refine x_iload_n (pc := 32) 0 dX2_workOut_32 rfl rfl ?_
        refine x_iload_n (pc := 33) 2 dX2_workOut_33 rfl rfl ?_
        refine x_iadd (pc := 34) dX2_workOut_34 ?_
        exact x_iret (rm := r2_workOut) rfl rfl dX2_workOut_35
      ·
        refine x_ite (fun hc5 => ?_) (fun hc5 => ?_)
        ·
          obtain rfl : tg1 = 36 := zsw_at hc5 ht2 (by decide)
          refine x_iload_n (pc := 36) 0 dX2_workOut_36 rfl rfl ?_
          refine x_iload_n (pc := 37) 2 dX2_workOut_37 rfl rfl ?_
          refine x_isub (pc := 38) dX2_workOut_38 ?_
          exact x_iret (rm := r2_workOut) rfl rfl dX2_workOut_39
        ·
          obtain rfl : tg1 = 44 := zswd_at (cs := [42, 43, 45]) ht2 (by decide) (by simp only [List.mem_cons, List.not_mem_nil, or_false, not_or]; exact ⟨hc3, hc4, hc5⟩) (by decide)
          refine x_iload_n (pc := 44) 2 dX2_workOut_44 rfl rfl ?_
          refine x_if_ne (pc := 45) 52 dX2_workOut_45 (by decide) (fun _ => ?_) (fun _ => ?_)
          ·
            refine x_iload_n (pc := 52) 0 dX2_workOut_52 rfl rfl ?_
            refine x_iload_n (pc := 53) 2 dX2_workOut_53 rfl rfl ?_
            refine x_idiv (pc := 54) dX2_workOut_54 ?_
            exact x_iret (rm := r2_workOut) rfl rfl dX2_workOut_55
          ·
            refine x_iconst (pc := 48) 0 dX2_workOut_48 rfl ?_
            refine x_goto (pc := 49) 55 dX2_workOut_49 (by decide) ?_
            exact x_iret (rm := r2_workOut) rfl rfl dX2_workOut_55
  · exact ztoff_pos (by decide) (by decide) x
theorem c_2_workOut (l : Launch)  (q : Bool) (v0 : Int32) (v1 : Int32) (v2 : Int32) (σ : zSt) : zMet l yX2_workOut cX2_workOut 3 (some .int) r2_workOut q eI [aI v0, aI v1, aI v2] σ (zro (f2_workOut v0 v1 v2 σ) σ) :=
  zMet_ofR [(0, aI v0), (1, aI v1), (2, aI v2)] (by decide +kernel) (fun h => by cases h) (Nat.le_of_ble_eq_true rfl) rfl fun E _ => x2_workOut E  q v0 v1 v2 σ
abbrev r2_join : Room := { frames := 1, cells := 0, slots := 0, locals := 22 }
abbrev m2_join : zMu := (RX2, 2, none, r2_join, false)
set_option maxRecDepth 20000 in
theorem x2_join (E : zEn)  (v1 : Int32) (σ : zSt) : X E cX2_join m2_join true (zQw E true eV r2_join) 0 0 σ [(0, aR 2 (some 0)), (1, aI v1)] 0 [] (f2_join v1 σ) := by
  unfold f2_join
  refine x_aload_n (pc := 0) 0 dX2_join_0 rfl rfl ?_
  refine x_getI (pc := 1) fd_2_3 tk_101 dX2_join_1 ?_
  refine x_aload_n (pc := 4) 0 dX2_join_4 rfl rfl ?_
  refine x_getF (pc := 5) (j := 0) fd_2_1 rfl rfl tk_99 dX2_join_5 ?_
  refine x_alen (pc := 8) ar_301 (by decide) dX2_join_8 ?_
  refine x_callSNr (pc := 9) (as := [aI (gI σ 2 0 3), aI (nI 7)]) (rest := []) (fun l => c_11_isIn l true (gI σ 2 0 3) (nI 7) σ) md_X11_isIn tk_219 (host := RX11) (by decide +kernel) dX2_join_9 rfl ⟨by decide, by decide, by decide, by decide⟩ ⟨fun _ => rfl, fun _ => Or.inl rfl⟩ rfl (Nat.le_of_ble_eq_true rfl) (fun r1 => ?_)
  show X E _ _ _ _ 0 0 _ _ _ [aI r1] _
  refine x_if_eq (pc := 12) 46 dX2_join_12 (by decide) (fun _ => ?_) (fun _ => ?_)
  ·
    exact x_vret (rm := r2_join) rfl rfl dX2_join_46
  ·
    refine x_aload_n (pc := 15) 0 dX2_join_15 rfl rfl ?_
    refine x_getF (pc := 16) (j := 0) fd_2_1 rfl rfl tk_99 dX2_join_16 ?_
    refine x_aload_n (pc := 19) 0 dX2_join_19 rfl rfl ?_
    refine x_getI (pc := 20) fd_2_3 tk_101 dX2_join_20 ?_
    refine x_aload_n (pc := 23) 0 dX2_join_23 rfl rfl ?_
    refine x_getF (pc := 24) (j := 0) fd_2_1 rfl rfl tk_99 dX2_join_24 ?_
    refine x_aload_n (pc := 27) 0 dX2_join_27 rfl rfl ?_
    refine x_getI (pc := 28) fd_2_3 tk_101 dX2_join_28 ?_
    refine x_iald (pc := 31) ar_301 dX2_join_31 (fun m2 => ?_)
    refine x_aload_n (pc := 32) 0 dX2_join_32 rfl rfl ?_
    refine x_getF (pc := 33) (j := 0) fd_2_2 rfl rfl tk_100 dX2_join_33 ?_
    refine x_aload_n (pc := 36) 0 dX2_join_36 rfl rfl ?_
    refine x_getI (pc := 37) fd_2_3 tk_101 dX2_join_37 ?_
    refine x_iald (pc := 40) ar_302 dX2_join_40 (fun m3 => ?_)
    refine x_iload_n (pc := 41) 1 dX2_join_41 rfl rfl ?_
    refine x_callSr (pc := 42) (as := [aI (gI σ 301 0 m2), aI (gI σ 302 0 m3), aI v1]) (rest := [aI (gI σ 2 0 3), aR 301 (some 0)]) (fun l => c_2_workOut l true (gI σ 301 0 m2) (gI σ 302 0 m3) v1 σ) md_X2_workOut tk_1078 tk_1077 dX2_join_42 rfl ⟨by decide, by decide, by decide, by decide⟩ ⟨fun _ => rfl, fun _ => Or.inl rfl⟩ rfl (Nat.le_of_ble_eq_true rfl) (fun r4 => ?_)
    show X E _ _ _ _ 0 0 _ _ _ [aI r4, aI (gI σ 2 0 3), aR 301 (some 0)] _
    refine x_iast (pc := 45) ar_301 dX2_join_45 (fun m5 => ?_)
    refine x_nameS (fun s6 => ?_)
    exact x_vret (rm := r2_join) rfl rfl dX2_join_46
theorem c_2_join (l : Launch)  (v1 : Int32) (σ : zSt) : zMet l yX2_join cX2_join 2 none r2_join true eV [aR 2 (some 0), aI v1] σ (f2_join v1 σ) :=
  zMet_of [(0, aR 2 (some 0)), (1, aI v1)] (by decide +kernel) (fun h => by cases h) (Nat.le_of_ble_eq_true rfl) rfl fun E _ => x2_join E  v1 σ
abbrev r2_step : Room := { frames := 7, cells := 0, slots := 0, locals := 221 }
abbrev m2_step : zMu := (RX2, 3, none, r2_step, false)
set_option maxRecDepth 20000 in
theorem x2_step (E : zEn)  (v1 : Int32) (σ : zSt) : X E cX2_step m2_step true (zQw E true eV r2_step) 0 0 σ [(0, aR 2 (some 0)), (1, aI v1)] 0 [] (f2_step v1 σ) := by
  unfold f2_step
  refine x_ldcS (pc := 0) 3 dX2_step_0 rfl ?_
  refine x_iload_n (pc := 2) 1 dX2_step_2 rfl rfl ?_
  refine x_i2c (pc := 3) dX2_step_3 ?_
  refine x_callTr (pc := 4) (as := [aI (zi2c v1)]) (rest := []) (fun l => c_J0_indexOf_0f7a4 l true 3 (by decide) (zi2c v1) σ) md_J0_indexOf_0f7a4 rfl (by decide) rfl tk_841 tk_842 tk_932 dX2_step_4 rfl ⟨by decide, by decide, by decide, by decide⟩ ⟨fun _ => rfl, fun _ => Or.inl rfl⟩ rfl (Nat.le_of_ble_eq_true rfl) (fun r1 => ?_)
  show X E _ _ _ _ 0 0 _ _ _ [aI r1] _
  refine x_istore_n (pc := 7) (als' := [(2, aI r1), (0, aR 2 (some 0)), (1, aI v1)]) 2 dX2_step_7 rfl (by decide) rfl ?_
  refine x_iload_n (pc := 8) 2 dX2_step_8 rfl rfl ?_
  refine x_aload_n (pc := 9) 0 dX2_step_9 rfl rfl ?_
  refine x_getF (pc := 10) (j := 0) fd_2_0 rfl rfl tk_98 dX2_step_10 ?_
  refine x_alen (pc := 13) ar_300 (by decide) dX2_step_13 ?_
  refine x_callSNr (pc := 14) (as := [aI r1, aI (nI 5)]) (rest := []) (fun l => c_11_isIn l true r1 (nI 5) σ) md_X11_isIn tk_219 (host := RX11) (by decide +kernel) dX2_step_14 rfl ⟨by decide, by decide, by decide, by decide⟩ ⟨fun _ => rfl, fun _ => Or.inl rfl⟩ rfl (Nat.le_of_ble_eq_true rfl) (fun r2 => ?_)
  show X E _ _ _ _ 0 0 _ _ _ [aI r2] _
  refine x_if_eq (pc := 17) 33 dX2_step_17 (by decide) (fun _ => ?_) (fun _ => ?_)
  ·
    refine x_iload_n (pc := 33) 1 dX2_step_33 rfl rfl ?_
    refine x_bipush (pc := 34) 40 dX2_step_34 rfl ?_
    refine x_join (P := fun (j3 : Option (Unit × zSt)) => X E cX2_step m2_step true (zQw E true eV r2_step) 0 0 σ [(0, aR 2 (some 0)), (1, aI v1)] 65 [] j3) ?_ ?_
    ·
      refine x_iload_n (pc := 65) 1 dX2_step_65 rfl rfl ?_
      refine x_bipush (pc := 66) 41 dX2_step_66 rfl ?_
      refine x_join (P := fun (j5 : Option (Unit × zSt)) => X E cX2_step m2_step true (zQw E true eV r2_step) 0 0 σ [(0, aR 2 (some 0)), (1, aI v1)] 115 [] j5) ?_ ?_
      ·
        refine x_aload_n (pc := 115) 0 dX2_step_115 rfl rfl ?_
        refine x_getI (pc := 116) fd_2_3 tk_101 dX2_step_116 ?_
        refine x_aload_n (pc := 119) 0 dX2_step_119 rfl rfl ?_
        refine x_getF (pc := 120) (j := 0) fd_2_2 rfl rfl tk_100 dX2_step_120 ?_
        refine x_alen (pc := 123) ar_302 (by decide) dX2_step_123 ?_
        refine x_callSNr (pc := 124) (as := [aI (gI σ 2 0 3), aI (nI 7)]) (rest := []) (fun l => c_11_isIn l true (gI σ 2 0 3) (nI 7) σ) md_X11_isIn tk_219 (host := RX11) (by decide +kernel) dX2_step_124 rfl ⟨by decide, by decide, by decide, by decide⟩ ⟨fun _ => rfl, fun _ => Or.inl rfl⟩ rfl (Nat.le_of_ble_eq_true rfl) (fun r7 => ?_)
        show X E _ _ _ _ 0 0 _ _ _ [aI r7] _
        refine x_if_eq (pc := 127) 140 dX2_step_127 (by decide) (fun _ => ?_) (fun _ => ?_)
        ·
          exact x_vret (rm := r2_step) rfl rfl dX2_step_140
        ·
          refine x_aload_n (pc := 130) 0 dX2_step_130 rfl rfl ?_
          refine x_getF (pc := 131) (j := 0) fd_2_2 rfl rfl tk_100 dX2_step_131 ?_
          refine x_aload_n (pc := 134) 0 dX2_step_134 rfl rfl ?_
          refine x_getI (pc := 135) fd_2_3 tk_101 dX2_step_135 ?_
          refine x_iload_n (pc := 138) 1 dX2_step_138 rfl rfl ?_
          refine x_iast (pc := 139) ar_302 dX2_step_139 (fun m8 => ?_)
          refine x_nameS (fun s9 => ?_)
          exact x_vret (rm := r2_step) rfl rfl dX2_step_140
      · intro j5 hj6
        refine x_icmp_ne (pc := 68) 115 dX2_step_68 (by decide) (fun _ => ?_) (fun _ => ?_)
        ·
          exact hj6
        ·
          refine x_aload_n (pc := 71) 0 dX2_step_71 rfl rfl ?_
          refine x_getI (pc := 72) fd_2_3 tk_101 dX2_step_72 ?_
          refine x_if_le (pc := 75) 115 dX2_step_75 (by decide) (fun _ => ?_) (fun _ => ?_)
          ·
            exact hj6
          ·
            refine x_aload_n (pc := 78) 0 dX2_step_78 rfl rfl ?_
            refine x_getI (pc := 79) fd_2_3 tk_101 dX2_step_79 ?_
            refine x_bipush (pc := 82) 6 dX2_step_82 rfl ?_
            refine x_icmp_gt (pc := 84) 115 dX2_step_84 (by decide) (fun _ => ?_) (fun _ => ?_)
            ·
              exact hj6
            ·
              refine x_aload_n (pc := 87) 0 dX2_step_87 rfl rfl ?_
              refine x_dup (pc := 88) dX2_step_88 rfl ?_
              refine x_getI (pc := 89) fd_2_3 tk_101 dX2_step_89 ?_
              refine x_iconst (pc := 92) 1 dX2_step_92 rfl ?_
              refine x_isub (pc := 93) dX2_step_93 ?_
              refine x_putI (pc := 94) fd_2_3 pt_2_3 tk_101 dX2_step_94 (Or.inl rfl) ?_
              refine x_nameS (fun s10 => ?_)
              refine x_aload_n (pc := 97) 0 dX2_step_97 rfl rfl ?_
              refine x_aload_n (pc := 98) 0 dX2_step_98 rfl rfl ?_
              refine x_getF (pc := 99) (j := 0) fd_2_1 rfl rfl tk_99 dX2_step_99 ?_
              refine x_aload_n (pc := 102) 0 dX2_step_102 rfl rfl ?_
              refine x_getI (pc := 103) fd_2_3 tk_101 dX2_step_103 ?_
              refine x_iconst (pc := 106) 1 dX2_step_106 rfl ?_
              refine x_iadd (pc := 107) dX2_step_107 ?_
              refine x_iald (pc := 108) ar_301 dX2_step_108 (fun m11 => ?_)
              refine x_callV (pc := 109) (as := [aI (gI s10 301 0 m11)]) (rest := []) (fun l => c_2_join l (gI s10 301 0 m11) s10) md_X2_join ⟨_, _, rfl, by decide⟩ tk_1075 tp_38 tk_1073 dX2_step_109 rfl ⟨by decide, by decide, by decide, by decide⟩ ⟨fun _ => rfl, fun _ => Or.inl rfl⟩ rfl (Nat.le_of_ble_eq_true rfl) (fun _ s13 => ?_)
              show X E _ _ _ _ 0 0 _ _ _ [] _
              refine x_goto (pc := 112) 140 dX2_step_112 (by decide) ?_
              exact x_vret (rm := r2_step) rfl rfl dX2_step_140
    · intro j3 hj4
      refine x_icmp_ne (pc := 36) 65 dX2_step_36 (by decide) (fun _ => ?_) (fun _ => ?_)
      ·
        exact x_sub [1, 2] rfl (hj4)
      ·
        refine x_aload_n (pc := 39) 0 dX2_step_39 rfl rfl ?_
        refine x_getI (pc := 40) fd_2_3 tk_101 dX2_step_40 ?_
        refine x_bipush (pc := 43) 6 dX2_step_43 rfl ?_
        refine x_icmp_ge (pc := 45) 65 dX2_step_45 (by decide) (fun _ => ?_) (fun _ => ?_)
        ·
          exact x_sub [1, 2] rfl (hj4)
        ·
          refine x_aload_n (pc := 48) 0 dX2_step_48 rfl rfl ?_
          refine x_dup (pc := 49) dX2_step_49 rfl ?_
          refine x_getI (pc := 50) fd_2_3 tk_101 dX2_step_50 ?_
          refine x_iconst (pc := 53) 1 dX2_step_53 rfl ?_
          refine x_iadd (pc := 54) dX2_step_54 ?_
          refine x_putI (pc := 55) fd_2_3 pt_2_3 tk_101 dX2_step_55 (Or.inl rfl) ?_
          refine x_nameS (fun s14 => ?_)
          refine x_aload_n (pc := 58) 0 dX2_step_58 rfl rfl ?_
          refine x_callV (pc := 59) (as := []) (rest := []) (fun l => c_2_startLevel l s14) md_X2_startLevel ⟨_, _, rfl, by decide⟩ tk_1068 tp_37 tk_1066 dX2_step_59 rfl ⟨by decide, by decide, by decide, by decide⟩ ⟨fun _ => rfl, fun _ => Or.inl rfl⟩ rfl (Nat.le_of_ble_eq_true rfl) (fun _ s16 => ?_)
          show X E _ _ _ _ 0 0 _ _ _ [] _
          refine x_goto (pc := 62) 140 dX2_step_62 (by decide) ?_
          exact x_vret (rm := r2_step) rfl rfl dX2_step_140
  ·
    refine x_aload_n (pc := 20) 0 dX2_step_20 rfl rfl ?_
    refine x_aload_n (pc := 21) 0 dX2_step_21 rfl rfl ?_
    refine x_getF (pc := 22) (j := 0) fd_2_0 rfl rfl tk_98 dX2_step_22 ?_
    refine x_iload_n (pc := 25) 2 dX2_step_25 rfl rfl ?_
    refine x_iald (pc := 26) ar_300 dX2_step_26 (fun m17 => ?_)
    refine x_callV (pc := 27) (as := [aI (gI σ 300 0 m17)]) (rest := []) (fun l => c_2_join l (gI σ 300 0 m17) σ) md_X2_join ⟨_, _, rfl, by decide⟩ tk_1075 tp_38 tk_1073 dX2_step_27 rfl ⟨by decide, by decide, by decide, by decide⟩ ⟨fun _ => rfl, fun _ => Or.inl rfl⟩ rfl (Nat.le_of_ble_eq_true rfl) (fun _ s19 => ?_)
    show X E _ _ _ _ 0 0 _ _ _ [] _
    refine x_goto (pc := 30) 140 dX2_step_30 (by decide) ?_
    exact x_vret (rm := r2_step) rfl rfl dX2_step_140
theorem c_2_step (l : Launch)  (v1 : Int32) (σ : zSt) : zMet l yX2_step cX2_step 3 none r2_step true eV [aR 2 (some 0), aI v1] σ (f2_step v1 σ) :=
  zMet_of [(0, aR 2 (some 0)), (1, aI v1)] (by decide +kernel) (fun h => by cases h) (Nat.le_of_ble_eq_true rfl) rfl fun E _ => x2_step E  v1 σ
abbrev r2_gives : Room := { frames := 8, cells := 0, slots := 0, locals := 243 }
abbrev m2_gives : zMu := (RX2, 6, (some .int), r2_gives, false)
set_option maxRecDepth 20000 in
theorem xl2_gives_11 (E : zEn)   (h1 : Nat) {K111 : zSt → Option (Int32 × zSt)} {K139 : Int32 → zSt → Option (Int32 × zSt)} (hK111 : ∀ (σ : zSt), X E cX2_gives m2_gives true (zQw E true eI r2_gives) 0 0 σ [(0, aR 2 (some 0))] 111 [] (K111 σ)) (hK139 : ∀ (v2 : Int32) (σ : zSt), X E cX2_gives m2_gives true (zQw E true eI r2_gives) 0 0 σ [(0, aR 2 (some 0)), (2, aI v2)] 139 [] (K139 v2 σ)) : ∀ (n : Nat) (v2 : Int32) (v3 : Int32) (v4 : Int32) (σ : zSt), X E cX2_gives m2_gives true (zQw E true eI r2_gives) 0 0 σ [(0, aR 2 (some 0)), (1, aR 10 (some h1)), (2, aI v2), (3, aI v3), (4, aI v4)] 11 [] (f2_gives_L11 h1 K111 K139 n v2 v3 v4 σ) := by
  intro n
  induction n with
  | zero => intros; exact x_none
  | succ n ih =>
    intro v2 v3 v4 σ
    rw [f2_gives_L11]
    refine x_iload (pc := 11) 4 dX2_gives_11 rfl ?_
    refine x_aload_n (pc := 13) 1 dX2_gives_13 rfl rfl ?_
    refine x_callVr (pc := 14) (as := []) (rest := [aI v4]) (fun l => c_10_length l h1 σ) md_X10_length ⟨_, _, rfl, by decide⟩ tk_1029 tk_1030 tk_1071 dX2_gives_14 rfl ⟨by decide, by decide, by decide, by decide⟩ ⟨fun _ => rfl, fun _ => Or.inl rfl⟩ rfl (Nat.le_of_ble_eq_true rfl) (fun r3 => ?_)
    show X E _ _ _ _ 0 0 _ _ _ [aI r3, aI v4] _
    refine x_icmp_ge (pc := 17) 139 dX2_gives_17 (by decide) (fun _ => ?_) (fun _ => ?_)
    ·
      exact x_sub [0, 2] rfl (hK139 v2 σ)
    ·
      refine x_aload_n (pc := 20) 1 dX2_gives_20 rfl rfl ?_
      refine x_iload (pc := 21) 4 dX2_gives_21 rfl ?_
      refine x_callVr (pc := 23) (as := [aI v4]) (rest := []) (fun l => c_10_at l h1 v4 σ) md_X10_at ⟨_, _, rfl, by decide⟩ tk_1037 tk_1038 tk_1072 dX2_gives_23 rfl ⟨by decide, by decide, by decide, by decide⟩ ⟨fun _ => rfl, fun _ => Or.inl rfl⟩ rfl (Nat.le_of_ble_eq_true rfl) (fun r4 => ?_)
      show X E _ _ _ _ 0 0 _ _ _ [aI r4] _
      refine x_istore (pc := 26) (als' := [(5, aI r4), (0, aR 2 (some 0)), (1, aR 10 (some h1)), (2, aI v2), (3, aI v3), (4, aI v4)]) 5 dX2_gives_26 (by decide) rfl ?_
      refine x_iload (pc := 28) 5 dX2_gives_28 rfl ?_
      refine x_callSNr (pc := 30) (as := [aI r4]) (rest := []) (fun l => c_11_isDigit l true r4 σ) md_X11_isDigit tk_831 (host := RX11) (by decide +kernel) dX2_gives_30 rfl ⟨by decide, by decide, by decide, by decide⟩ ⟨fun _ => rfl, fun _ => Or.inl rfl⟩ rfl (Nat.le_of_ble_eq_true rfl) (fun r5 => ?_)
      show X E _ _ _ _ 0 0 _ _ _ [aI r5] _
      refine x_join (P := fun (j9 : Int32 → Int32 → zSt → Option (Int32 × zSt)) => ∀ (a6 : Int32) (a7 : Int32) (s8 : zSt), X E cX2_gives m2_gives true (zQw E true eI r2_gives) 0 0 s8 [(0, aR 2 (some 0)), (1, aR 10 (some h1)), (2, aI a6), (3, aI a7), (4, aI v4)] 133 [] (j9 a6 a7 s8)) ?_ ?_
      · intro a6 a7 s8
        refine x_iinc (pc := 133) (als' := [(4, aI (v4 + 1)), (0, aR 2 (some 0)), (1, aR 10 (some h1)), (2, aI a6), (3, aI a7)]) 4 4 (c := 1) dX2_gives_133 rfl rfl (by decide) rfl ?_
        refine x_nameV (g := fun y12 => [(4, aI y12), (0, aR 2 (some 0)), (1, aR 10 (some h1)), (2, aI a6), (3, aI a7)]) (fun x11 => ?_) rfl
        refine x_goto (pc := 136) 11 dX2_gives_136 (by decide) ?_
        exact x_sub [1, 2, 3, 4, 0] rfl (ih a6 a7 x11 s8)
      · intro j9 hj10
        refine x_if_eq (pc := 33) 71 dX2_gives_33 (by decide) (fun _ => ?_) (fun _ => ?_)
        ·
          refine x_iload (pc := 71) 5 dX2_gives_71 rfl ?_
          refine x_bipush (pc := 73) 58 dX2_gives_73 rfl ?_
          refine x_icmp_ne (pc := 75) 100 dX2_gives_75 (by decide) (fun _ => ?_) (fun _ => ?_)
          ·
            refine x_iload (pc := 100) 5 dX2_gives_100 rfl ?_
            refine x_bipush (pc := 102) 59 dX2_gives_102 rfl ?_
            refine x_icmp_ne (pc := 104) 127 dX2_gives_104 (by decide) (fun _ => ?_) (fun _ => ?_)
            ·
              refine x_aload_n (pc := 127) 0 dX2_gives_127 rfl rfl ?_
              refine x_iload (pc := 128) 5 dX2_gives_128 rfl ?_
              refine x_callV (pc := 130) (as := [aI r4]) (rest := []) (fun l => c_2_step l r4 σ) md_X2_step ⟨_, _, rfl, by decide⟩ tk_1082 tp_39 tk_1080 dX2_gives_130 rfl ⟨by decide, by decide, by decide, by decide⟩ ⟨fun _ => rfl, fun _ => Or.inl rfl⟩ rfl (Nat.le_of_ble_eq_true rfl) (fun _ s24 => ?_)
              show X E _ _ _ _ 0 0 _ _ _ [] _
              exact x_sub [1, 2, 3, 4, 5] rfl (hj10 v2 v3 s24)
            ·
              refine x_iload_n (pc := 107) 2 dX2_gives_107 rfl rfl ?_
              refine x_if_eq (pc := 108) 118 dX2_gives_108 (by decide) (fun _ => ?_) (fun _ => ?_)
              ·
                refine x_iconst (pc := 118) 1 dX2_gives_118 rfl ?_
                refine x_istore_n (pc := 119) (als' := [(2, aI 1), (5, aI r4), (0, aR 2 (some 0)), (1, aR 10 (some h1)), (3, aI v3), (4, aI v4)]) 2 dX2_gives_119 rfl (by decide) rfl ?_
                refine x_aload_n (pc := 120) 0 dX2_gives_120 rfl rfl ?_
                refine x_callV (pc := 121) (as := []) (rest := []) (fun l => c_2_startPart l σ) md_X2_startPart ⟨_, _, rfl, by decide⟩ tk_1064 tp_36 tk_1062 dX2_gives_121 rfl ⟨by decide, by decide, by decide, by decide⟩ ⟨fun _ => rfl, fun _ => Or.inl rfl⟩ rfl (Nat.le_of_ble_eq_true rfl) (fun _ s22 => ?_)
                show X E _ _ _ _ 0 0 _ _ _ [] _
                refine x_goto (pc := 124) 133 dX2_gives_124 (by decide) ?_
                exact x_sub [2, 3, 0, 4, 5] rfl (hj10 1 v3 s22)
              ·
                exact x_sub [1] rfl (hK111 σ)
          ·
            refine x_aload_n (pc := 78) 0 dX2_gives_78 rfl rfl ?_
            refine x_getF (pc := 79) (j := 0) fd_2_1 rfl rfl tk_99 dX2_gives_79 ?_
            refine x_iconst (pc := 82) 0 dX2_gives_82 rfl ?_
            refine x_iald (pc := 83) ar_301 dX2_gives_83 (fun m13 => ?_)
            refine x_mg (c := (gI σ 301 0 m13) = 0) (a := 0) (b := 1) 92 [] ?_ (fun hm14 => ?_)
            ·
              refine x_nameI (fun x18 => ?_)
              refine x_istore_n (pc := 92) (als' := [(2, aI x18), (5, aI r4), (0, aR 2 (some 0)), (1, aR 10 (some h1)), (3, aI v3), (4, aI v4)]) 2 dX2_gives_92 rfl (by decide) rfl ?_
              refine x_aload_n (pc := 93) 0 dX2_gives_93 rfl rfl ?_
              refine x_callV (pc := 94) (as := []) (rest := []) (fun l => c_2_startPart l σ) md_X2_startPart ⟨_, _, rfl, by decide⟩ tk_1064 tp_36 tk_1062 dX2_gives_94 rfl ⟨by decide, by decide, by decide, by decide⟩ ⟨fun _ => rfl, fun _ => Or.inl rfl⟩ rfl (Nat.le_of_ble_eq_true rfl) (fun _ s20 => ?_)
              show X E _ _ _ _ 0 0 _ _ _ [] _
              refine x_goto (pc := 97) 133 dX2_gives_97 (by decide) ?_
              exact x_sub [2, 3, 0, 4, 5] rfl (hj10 x18 v3 s20)
            ·
              refine x_same (c := (gI σ 301 0 m13) = 0) ?_
              refine x_if_eq (pc := 84) 91 dX2_gives_84 (by decide) (fun hc15 => ?_) (fun hc15 => ?_)
              ·
                have hm16 := x_topT hc15 hm14
                refine x_iconst (pc := 91) 0 dX2_gives_91 rfl ?_
                exact hm16
              ·
                have hm17 := x_topF hc15 hm14
                refine x_iconst (pc := 87) 1 dX2_gives_87 rfl ?_
                refine x_goto (pc := 88) 92 dX2_gives_88 (by decide) ?_
                exact hm17
        ·
          refine x_iload_n (pc := 36) 3 dX2_gives_36 rfl rfl ?_
          refine x_bipush (pc := 37) 10 dX2_gives_37 rfl ?_
          refine x_imul (pc := 39) dX2_gives_39 ?_
          refine x_iload (pc := 40) 5 dX2_gives_40 rfl ?_
          refine x_bipush (pc := 42) 48 dX2_gives_42 rfl ?_
          refine x_isub (pc := 44) dX2_gives_44 ?_
          refine x_iadd (pc := 45) dX2_gives_45 ?_
          refine x_nameI (fun x25 => ?_)
          refine x_istore_n (pc := 46) (als' := [(3, aI x25), (5, aI r4), (0, aR 2 (some 0)), (1, aR 10 (some h1)), (2, aI v2), (4, aI v4)]) 3 dX2_gives_46 rfl (by decide) rfl ?_
          refine x_aload_n (pc := 47) 1 dX2_gives_47 rfl rfl ?_
          refine x_iload (pc := 48) 4 dX2_gives_48 rfl ?_
          refine x_iconst (pc := 50) 1 dX2_gives_50 rfl ?_
          refine x_iadd (pc := 51) dX2_gives_51 ?_
          refine x_callVr (pc := 52) (as := [aI (v4 + 1)]) (rest := []) (fun l => c_10_at l h1 (v4 + 1) σ) md_X10_at ⟨_, _, rfl, by decide⟩ tk_1037 tk_1038 tk_1072 dX2_gives_52 rfl ⟨by decide, by decide, by decide, by decide⟩ ⟨fun _ => rfl, fun _ => Or.inl rfl⟩ rfl (Nat.le_of_ble_eq_true rfl) (fun r26 => ?_)
          show X E _ _ _ _ 0 0 _ _ _ [aI r26] _
          refine x_callSNr (pc := 55) (as := [aI r26]) (rest := []) (fun l => c_11_isDigit l true r26 σ) md_X11_isDigit tk_831 (host := RX11) (by decide +kernel) dX2_gives_55 rfl ⟨by decide, by decide, by decide, by decide⟩ ⟨fun _ => rfl, fun _ => Or.inl rfl⟩ rfl (Nat.le_of_ble_eq_true rfl) (fun r27 => ?_)
          show X E _ _ _ _ 0 0 _ _ _ [aI r27] _
          refine x_if_ne (pc := 58) 133 dX2_gives_58 (by decide) (fun _ => ?_) (fun _ => ?_)
          ·
            exact x_sub [2, 3, 4, 0, 5] rfl (hj10 v2 x25 σ)
          ·
            refine x_aload_n (pc := 61) 0 dX2_gives_61 rfl rfl ?_
            refine x_iload_n (pc := 62) 3 dX2_gives_62 rfl rfl ?_
            refine x_callV (pc := 63) (as := [aI x25]) (rest := []) (fun l => c_2_join l x25 σ) md_X2_join ⟨_, _, rfl, by decide⟩ tk_1075 tp_38 tk_1073 dX2_gives_63 rfl ⟨by decide, by decide, by decide, by decide⟩ ⟨fun _ => rfl, fun _ => Or.inl rfl⟩ rfl (Nat.le_of_ble_eq_true rfl) (fun _ s29 => ?_)
            show X E _ _ _ _ 0 0 _ _ _ [] _
            refine x_iconst (pc := 66) 0 dX2_gives_66 rfl ?_
            refine x_istore_n (pc := 67) (als' := [(3, aI 0), (5, aI r4), (0, aR 2 (some 0)), (1, aR 10 (some h1)), (2, aI v2), (4, aI v4)]) 3 dX2_gives_67 rfl (by decide) rfl ?_
            refine x_goto (pc := 68) 133 dX2_gives_68 (by decide) ?_
            exact x_sub [2, 3, 4, 0, 5] rfl (hj10 v2 0 s29)
set_option maxRecDepth 20000 in
theorem x2_gives (E : zEn)  (h1 : Nat) (σ : zSt) : X E cX2_gives m2_gives true (zQw E true eI r2_gives) 0 0 σ [(0, aR 2 (some 0)), (1, aR 10 (some h1))] 0 [] (f2_gives h1 σ) := by
  unfold f2_gives
  refine x_iconst (pc := 0) 1 dX2_gives_0 rfl ?_
  refine x_istore_n (pc := 1) (als' := [(2, aI 1), (0, aR 2 (some 0)), (1, aR 10 (some h1))]) 2 dX2_gives_1 rfl (by decide) rfl ?_
  refine x_iconst (pc := 2) 0 dX2_gives_2 rfl ?_
  refine x_istore_n (pc := 3) (als' := [(3, aI 0), (2, aI 1), (0, aR 2 (some 0)), (1, aR 10 (some h1))]) 3 dX2_gives_3 rfl (by decide) rfl ?_
  refine x_aload_n (pc := 4) 0 dX2_gives_4 rfl rfl ?_
  refine x_callV (pc := 5) (as := []) (rest := []) (fun l => c_2_startPart l σ) md_X2_startPart ⟨_, _, rfl, by decide⟩ tk_1064 tp_36 tk_1062 dX2_gives_5 rfl ⟨by decide, by decide, by decide, by decide⟩ ⟨fun _ => rfl, fun _ => Or.inl rfl⟩ rfl (Nat.le_of_ble_eq_true rfl) (fun _ s2 => ?_)
  show X E _ _ _ _ 0 0 _ _ _ [] _
  refine x_iconst (pc := 8) 0 dX2_gives_8 rfl ?_
  refine x_istore (pc := 9) (als' := [(4, aI 0), (3, aI 0), (2, aI 1), (0, aR 2 (some 0)), (1, aR 10 (some h1))]) 4 dX2_gives_9 (by decide) rfl ?_
  refine x_sub [3, 4, 2, 1, 0] rfl (xl2_gives_11 E h1 (fun s30 => ?_) (fun a32 s33 => ?_) zfuel 1 0 0 s2)
  ·
    refine x_aload_n (pc := 111) 0 dX2_gives_111 rfl rfl ?_
    refine x_getF (pc := 112) (j := 0) fd_2_1 rfl rfl tk_99 dX2_gives_112 ?_
    refine x_iconst (pc := 115) 0 dX2_gives_115 rfl ?_
    refine x_iald (pc := 116) ar_301 dX2_gives_116 (fun m31 => ?_)
    exact x_iret (rm := r2_gives) rfl rfl dX2_gives_117
  ·
    refine x_iload_n (pc := 139) 2 dX2_gives_139 rfl rfl ?_
    refine x_if_eq (pc := 140) 152 dX2_gives_140 (by decide) (fun _ => ?_) (fun _ => ?_)
    ·
      refine x_iconst (pc := 152) 0 dX2_gives_152 rfl ?_
      exact x_iret (rm := r2_gives) rfl rfl dX2_gives_153
    ·
      refine x_aload_n (pc := 143) 0 dX2_gives_143 rfl rfl ?_
      refine x_getF (pc := 144) (j := 0) fd_2_1 rfl rfl tk_99 dX2_gives_144 ?_
      refine x_iconst (pc := 147) 0 dX2_gives_147 rfl ?_
      refine x_iald (pc := 148) ar_301 dX2_gives_148 (fun m34 => ?_)
      refine x_goto (pc := 149) 153 dX2_gives_149 (by decide) ?_
      exact x_iret (rm := r2_gives) rfl rfl dX2_gives_153
theorem c_2_gives (l : Launch)  (h1 : Nat) (σ : zSt) : zMet l yX2_gives cX2_gives 6 (some .int) r2_gives true eI [aR 2 (some 0), aR 10 (some h1)] σ (f2_gives h1 σ) :=
  zMet_of [(0, aR 2 (some 0)), (1, aR 10 (some h1))] (by decide +kernel) (fun h => by cases h) (Nat.le_of_ble_eq_true rfl) rfl fun E _ => x2_gives E  h1 σ
abbrev r3_lastDay : Room := { frames := 0, cells := 0, slots := 0, locals := 0 }
abbrev m3_lastDay : zMu := (RX3, 1, (some .int), r3_lastDay, false)
set_option maxRecDepth 20000 in
theorem x3_lastDay (E : zEn)  (h : Nat) (σ : zSt) : X E cX3_lastDay m3_lastDay true (zQr E true eI r3_lastDay σ) 0 0 σ [(0, aR 3 (some h))] 0 [] (f3_lastDay h σ) := by
  unfold f3_lastDay
  refine x_aload_n (pc := 0) 0 dX3_lastDay_0 rfl rfl ?_
  refine x_getI (pc := 1) fd_3_2 tk_419 dX3_lastDay_1 ?_
  refine x_if_ne (pc := 4) 11 dX3_lastDay_4 (by decide) (fun _ => ?_) (fun _ => ?_)
  ·
    refine x_aload_n (pc := 11) 0 dX3_lastDay_11 rfl rfl ?_
    refine x_getF (pc := 12) (j := h) fd_3_0 rfl rfl tk_417 dX3_lastDay_12 ?_
    refine x_aload_n (pc := 15) 0 dX3_lastDay_15 rfl rfl ?_
    refine x_getI (pc := 16) fd_3_2 tk_419 dX3_lastDay_16 ?_
    refine x_iconst (pc := 19) 1 dX3_lastDay_19 rfl ?_
    refine x_isub (pc := 20) dX3_lastDay_20 ?_
    refine x_iald (pc := 21) ar_400 dX3_lastDay_21 (fun m1 => ?_)
    exact x_iret (rm := r3_lastDay) rfl rfl dX3_lastDay_22
  ·
    refine x_iconst (pc := 7) (-1) dX3_lastDay_7 rfl ?_
    refine x_goto (pc := 8) 22 dX3_lastDay_8 (by decide) ?_
    exact x_iret (rm := r3_lastDay) rfl rfl dX3_lastDay_22
theorem c_3_lastDay (l : Launch)  (h : Nat) (σ : zSt) : zMet l yX3_lastDay cX3_lastDay 1 (some .int) r3_lastDay true eI [aR 3 (some h)] σ (zro (f3_lastDay h σ) σ) :=
  zMet_ofR [(0, aR 3 (some h))] (by decide +kernel) (fun h => by cases h) (Nat.le_of_ble_eq_true rfl) rfl fun E _ => x3_lastDay E  h σ
abbrev r3_add : Room := { frames := 0, cells := 0, slots := 0, locals := 0 }
abbrev m3_add : zMu := (RX3, 3, (some .boolean), r3_add, false)
set_option maxRecDepth 20000 in
theorem x3_add (E : zEn)  (h : Nat) (v1 : Int32) (v2 : Int32) (σ : zSt) : X E cX3_add m3_add true (zQw E true eI r3_add) 0 0 σ [(0, aR 3 (some h)), (1, aI v1), (2, aI v2)] 0 [] (f3_add h v1 v2 σ) := by
  unfold f3_add
  refine x_aload_n (pc := 0) 0 dX3_add_0 rfl rfl ?_
  refine x_getI (pc := 1) fd_3_2 tk_419 dX3_add_1 ?_
  refine x_bipush (pc := 4) 12 dX3_add_4 rfl ?_
  refine x_icmp_lt (pc := 6) 11 dX3_add_6 (by decide) (fun _ => ?_) (fun _ => ?_)
  ·
    refine x_aload_n (pc := 11) 0 dX3_add_11 rfl rfl ?_
    refine x_getF (pc := 12) (j := h) fd_3_0 rfl rfl tk_417 dX3_add_12 ?_
    refine x_aload_n (pc := 15) 0 dX3_add_15 rfl rfl ?_
    refine x_getI (pc := 16) fd_3_2 tk_419 dX3_add_16 ?_
    refine x_iload_n (pc := 19) 1 dX3_add_19 rfl rfl ?_
    refine x_iast (pc := 20) ar_400 dX3_add_20 (fun m1 => ?_)
    refine x_nameS (fun s2 => ?_)
    refine x_aload_n (pc := 21) 0 dX3_add_21 rfl rfl ?_
    refine x_getF (pc := 22) (j := h) fd_3_1 rfl rfl tk_418 dX3_add_22 ?_
    refine x_aload_n (pc := 25) 0 dX3_add_25 rfl rfl ?_
    refine x_getI (pc := 26) fd_3_2 tk_419 dX3_add_26 ?_
    refine x_iload_n (pc := 29) 2 dX3_add_29 rfl rfl ?_
    refine x_iast (pc := 30) ar_401 dX3_add_30 (fun m3 => ?_)
    refine x_nameS (fun s4 => ?_)
    refine x_aload_n (pc := 31) 0 dX3_add_31 rfl rfl ?_
    refine x_dup (pc := 32) dX3_add_32 rfl ?_
    refine x_getI (pc := 33) fd_3_2 tk_419 dX3_add_33 ?_
    refine x_iconst (pc := 36) 1 dX3_add_36 rfl ?_
    refine x_iadd (pc := 37) dX3_add_37 ?_
    refine x_putI (pc := 38) fd_3_2 pt_3_2 tk_419 dX3_add_38 (Or.inl rfl) ?_
    refine x_nameS (fun s5 => ?_)
    refine x_iconst (pc := 41) 1 dX3_add_41 rfl ?_
    exact x_zretC (rm := r3_add) rfl rfl (by decide) dX3_add_42
  ·
    refine x_iconst (pc := 9) 0 dX3_add_9 rfl ?_
    exact x_zretC (rm := r3_add) rfl rfl (by decide) dX3_add_10
theorem c_3_add (l : Launch)  (h : Nat) (v1 : Int32) (v2 : Int32) (σ : zSt) : zMet l yX3_add cX3_add 3 (some .boolean) r3_add true eI [aR 3 (some h), aI v1, aI v2] σ (f3_add h v1 v2 σ) :=
  zMet_of [(0, aR 3 (some h)), (1, aI v1), (2, aI v2)] (by decide +kernel) (fun h => by cases h) (Nat.le_of_ble_eq_true rfl) rfl fun E _ => x3_add E  h v1 v2 σ
abbrev r4_isFull : Room := { frames := 0, cells := 0, slots := 0, locals := 0 }
abbrev m4_isFull : zMu := (RX4, 1, (some .boolean), r4_isFull, false)
set_option maxRecDepth 20000 in
theorem x4_isFull (E : zEn)  (q : Bool) (h : Nat) (σ : zSt) : X E cX4_isFull m4_isFull q (zQr E q eI r4_isFull σ) 0 0 σ [(0, aR 4 (some h))] 0 [] (f4_isFull h σ) := by
  unfold f4_isFull
  refine x_aload_n (pc := 0) 0 dX4_isFull_0 rfl rfl ?_
  refine x_getI (pc := 1) fd_4_3 tk_397 dX4_isFull_1 ?_
  refine x_bipush (pc := 4) 30 dX4_isFull_4 rfl ?_
  refine x_icmp_lt (pc := 6) 13 dX4_isFull_6 (by decide) (fun _ => ?_) (fun _ => ?_)
  ·
    refine x_iconst (pc := 13) 0 dX4_isFull_13 rfl ?_
    exact x_zretC (rm := r4_isFull) rfl rfl (by decide) dX4_isFull_14
  ·
    refine x_iconst (pc := 9) 1 dX4_isFull_9 rfl ?_
    refine x_goto (pc := 10) 14 dX4_isFull_10 (by decide) ?_
    exact x_zretC (rm := r4_isFull) rfl rfl (by decide) dX4_isFull_14
theorem c_4_isFull (l : Launch)  (q : Bool) (h : Nat) (σ : zSt) : zMet l yX4_isFull cX4_isFull 1 (some .boolean) r4_isFull q eI [aR 4 (some h)] σ (zro (f4_isFull h σ) σ) :=
  zMet_ofR [(0, aR 4 (some h))] (by decide +kernel) (fun h => by cases h) (Nat.le_of_ble_eq_true rfl) rfl fun E _ => x4_isFull E  q h σ
abbrev r4_dayAt : Room := { frames := 1, cells := 0, slots := 0, locals := 21 }
abbrev m4_dayAt : zMu := (RX4, 2, (some .int), r4_dayAt, false)
set_option maxRecDepth 20000 in
theorem x4_dayAt (E : zEn)  (h : Nat) (v1 : Int32) (σ : zSt) : X E cX4_dayAt m4_dayAt true (zQr E true eI r4_dayAt σ) 0 0 σ [(0, aR 4 (some h)), (1, aI v1)] 0 [] (f4_dayAt h v1 σ) := by
  unfold f4_dayAt
  refine x_iload_n (pc := 0) 1 dX4_dayAt_0 rfl rfl ?_
  refine x_aload_n (pc := 1) 0 dX4_dayAt_1 rfl rfl ?_
  refine x_getI (pc := 2) fd_4_3 tk_397 dX4_dayAt_2 ?_
  refine x_callSNr (pc := 5) (as := [aI v1, aI (gI σ 4 h 3)]) (rest := []) (fun l => c_11_isIn l true v1 (gI σ 4 h 3) σ) md_X11_isIn tk_219 (host := RX11) (by decide +kernel) dX4_dayAt_5 rfl ⟨by decide, by decide, by decide, by decide⟩ ⟨fun _ => rfl, fun _ => Or.inl rfl⟩ rfl (Nat.le_of_ble_eq_true rfl) (fun r1 => ?_)
  show X E _ _ _ _ 0 0 _ _ _ [aI r1] _
  refine x_if_eq (pc := 8) 20 dX4_dayAt_8 (by decide) (fun _ => ?_) (fun _ => ?_)
  ·
    refine x_iconst (pc := 20) (-1) dX4_dayAt_20 rfl ?_
    exact x_iret (rm := r4_dayAt) rfl rfl dX4_dayAt_21
  ·
    refine x_aload_n (pc := 11) 0 dX4_dayAt_11 rfl rfl ?_
    refine x_getF (pc := 12) (j := h) fd_4_0 rfl rfl tk_394 dX4_dayAt_12 ?_
    refine x_iload_n (pc := 15) 1 dX4_dayAt_15 rfl rfl ?_
    refine x_iald (pc := 16) ar_500 dX4_dayAt_16 (fun m2 => ?_)
    refine x_goto (pc := 17) 21 dX4_dayAt_17 (by decide) ?_
    exact x_iret (rm := r4_dayAt) rfl rfl dX4_dayAt_21
theorem c_4_dayAt (l : Launch)  (h : Nat) (v1 : Int32) (σ : zSt) : zMet l yX4_dayAt cX4_dayAt 2 (some .int) r4_dayAt true eI [aR 4 (some h), aI v1] σ (zro (f4_dayAt h v1 σ) σ) :=
  zMet_ofR [(0, aR 4 (some h)), (1, aI v1)] (by decide +kernel) (fun h => by cases h) (Nat.le_of_ble_eq_true rfl) rfl fun E _ => x4_dayAt E  h v1 σ
abbrev r4_isSaidAt : Room := { frames := 0, cells := 0, slots := 0, locals := 0 }
abbrev m4_isSaidAt : zMu := (RX4, 3, (some .boolean), r4_isSaidAt, false)
set_option maxRecDepth 20000 in
theorem x4_isSaidAt (E : zEn)  (h : Nat) (v1 : Int32) (v2 : Int32) (σ : zSt) : X E cX4_isSaidAt m4_isSaidAt true (zQr E true eI r4_isSaidAt σ) 0 0 σ [(0, aR 4 (some h)), (1, aI v1), (2, aI v2)] 0 [] (f4_isSaidAt h v1 v2 σ) := by
  unfold f4_isSaidAt
  refine x_aload_n (pc := 0) 0 dX4_isSaidAt_0 rfl rfl ?_
  refine x_getF (pc := 1) (j := h) fd_4_1 rfl rfl tk_395 dX4_isSaidAt_1 ?_
  refine x_iload_n (pc := 4) 1 dX4_isSaidAt_4 rfl rfl ?_
  refine x_iald (pc := 5) ar_501 dX4_isSaidAt_5 (fun m1 => ?_)
  refine x_iconst (pc := 6) 2 dX4_isSaidAt_6 rfl ?_
  refine x_join (P := fun (j2 : Option Int32) => X E cX4_isSaidAt m4_isSaidAt true (zQr E true eI r4_isSaidAt σ) 0 0 σ [] 29 [] j2) ?_ ?_
  ·
    refine x_iconst (pc := 29) 0 dX4_isSaidAt_29 rfl ?_
    exact x_zretC (rm := r4_isSaidAt) rfl rfl (by decide) dX4_isSaidAt_30
  · intro j2 hj3
    refine x_icmp_ne (pc := 7) 29 dX4_isSaidAt_7 (by decide) (fun _ => ?_) (fun _ => ?_)
    ·
      exact x_sub [] rfl (hj3)
    ·
      refine x_iload_n (pc := 10) 2 dX4_isSaidAt_10 rfl rfl ?_
      refine x_iconst (pc := 11) (-1) dX4_isSaidAt_11 rfl ?_
      refine x_join (P := fun (j4 : Option Int32) => X E cX4_isSaidAt m4_isSaidAt true (zQr E true eI r4_isSaidAt σ) 0 0 σ [] 25 [] j4) ?_ ?_
      ·
        refine x_iconst (pc := 25) 1 dX4_isSaidAt_25 rfl ?_
        refine x_goto (pc := 26) 30 dX4_isSaidAt_26 (by decide) ?_
        exact x_zretC (rm := r4_isSaidAt) rfl rfl (by decide) dX4_isSaidAt_30
      · intro j4 hj5
        refine x_icmp_eq (pc := 12) 25 dX4_isSaidAt_12 (by decide) (fun _ => ?_) (fun _ => ?_)
        ·
          exact x_sub [] rfl (hj5)
        ·
          refine x_aload_n (pc := 15) 0 dX4_isSaidAt_15 rfl rfl ?_
          refine x_getF (pc := 16) (j := h) fd_4_2 rfl rfl tk_396 dX4_isSaidAt_16 ?_
          refine x_iload_n (pc := 19) 1 dX4_isSaidAt_19 rfl rfl ?_
          refine x_iald (pc := 20) ar_502 dX4_isSaidAt_20 (fun m6 => ?_)
          refine x_iload_n (pc := 21) 2 dX4_isSaidAt_21 rfl rfl ?_
          refine x_icmp_ne (pc := 22) 29 dX4_isSaidAt_22 (by decide) (fun _ => ?_) (fun _ => ?_)
          ·
            exact x_sub [] rfl (hj3)
          ·
            exact x_sub [] rfl (hj5)
theorem c_4_isSaidAt (l : Launch)  (h : Nat) (v1 : Int32) (v2 : Int32) (σ : zSt) : zMet l yX4_isSaidAt cX4_isSaidAt 3 (some .boolean) r4_isSaidAt true eI [aR 4 (some h), aI v1, aI v2] σ (zro (f4_isSaidAt h v1 v2 σ) σ) :=
  zMet_ofR [(0, aR 4 (some h)), (1, aI v1), (2, aI v2)] (by decide +kernel) (fun h => by cases h) (Nat.le_of_ble_eq_true rfl) rfl fun E _ => x4_isSaidAt E  h v1 v2 σ
abbrev r4_timesSaid : Room := { frames := 1, cells := 0, slots := 0, locals := 22 }
abbrev m4_timesSaid : zMu := (RX4, 4, (some .int), r4_timesSaid, false)
set_option maxRecDepth 20000 in
theorem xl4_timesSaid_4 (E : zEn)   (h0 : Nat) (h1 : Int32) (σ : zSt)   : ∀ (n : Nat) (v2 : Int32) (v3 : Int32), X E cX4_timesSaid m4_timesSaid true (zQr E true eI r4_timesSaid σ) 0 0 σ [(0, aR 4 (some h0)), (1, aI h1), (2, aI v2), (3, aI v3)] 4 [] (f4_timesSaid_L4 h0 h1 σ n v2 v3) := by
  intro n
  induction n with
  | zero => intros; exact x_none
  | succ n ih =>
    intro v2 v3
    rw [f4_timesSaid_L4]
    refine x_iload_n (pc := 4) 3 dX4_timesSaid_4 rfl rfl ?_
    refine x_aload_n (pc := 5) 0 dX4_timesSaid_5 rfl rfl ?_
    refine x_getI (pc := 6) fd_4_3 tk_397 dX4_timesSaid_6 ?_
    refine x_icmp_ge (pc := 9) 35 dX4_timesSaid_9 (by decide) (fun _ => ?_) (fun _ => ?_)
    ·
      refine x_iload_n (pc := 35) 2 dX4_timesSaid_35 rfl rfl ?_
      exact x_iret (rm := r4_timesSaid) rfl rfl dX4_timesSaid_36
    ·
      refine x_iload_n (pc := 12) 2 dX4_timesSaid_12 rfl rfl ?_
      refine x_aload_n (pc := 13) 0 dX4_timesSaid_13 rfl rfl ?_
      refine x_iload_n (pc := 14) 3 dX4_timesSaid_14 rfl rfl ?_
      refine x_iload_n (pc := 15) 1 dX4_timesSaid_15 rfl rfl ?_
      refine x_callVr (pc := 16) (as := [aI v3, aI h1]) (rest := [aI v2]) (fun l => c_4_isSaidAt l h0 v3 h1 σ) md_X4_isSaidAt ⟨_, _, rfl, by decide⟩ tk_339 tp_4 tk_337 dX4_timesSaid_16 rfl ⟨by decide, by decide, by decide, by decide⟩ ⟨fun _ => rfl, fun _ => Or.inl rfl⟩ rfl (Nat.le_of_ble_eq_true rfl) (fun r1 => ?_)
      show X E _ _ _ _ 0 0 _ _ _ [aI r1, aI v2] _
      refine x_mg (c := r1 = 0) (a := 0) (b := 1) 27 [aI v2] ?_ (fun hm2 => ?_)
      ·
        refine x_iadd (pc := 27) dX4_timesSaid_27 ?_
        refine x_nameI (fun x6 => ?_)
        refine x_istore_n (pc := 28) (als' := [(2, aI x6), (0, aR 4 (some h0)), (1, aI h1), (3, aI v3)]) 2 dX4_timesSaid_28 rfl (by decide) rfl ?_
        refine x_iinc (pc := 29) (als' := [(3, aI (v3 + 1)), (2, aI x6), (0, aR 4 (some h0)), (1, aI h1)]) 3 3 (c := 1) dX4_timesSaid_29 rfl rfl (by decide) rfl ?_
        refine x_nameV (g := fun y8 => [(3, aI y8), (2, aI x6), (0, aR 4 (some h0)), (1, aI h1)]) (fun x7 => ?_) rfl
        refine x_goto (pc := 32) 4 dX4_timesSaid_32 (by decide) ?_
        exact x_sub [2, 3, 1, 0] rfl (ih x6 x7)
      ·
        refine x_same (c := r1 = 0) ?_
        refine x_if_eq (pc := 19) 26 dX4_timesSaid_19 (by decide) (fun hc3 => ?_) (fun hc3 => ?_)
        ·
          have hm4 := x_topT hc3 hm2
          refine x_iconst (pc := 26) 0 dX4_timesSaid_26 rfl ?_
          exact hm4
        ·
          have hm5 := x_topF hc3 hm2
          refine x_iconst (pc := 22) 1 dX4_timesSaid_22 rfl ?_
          refine x_goto (pc := 23) 27 dX4_timesSaid_23 (by decide) ?_
          exact hm5
set_option maxRecDepth 20000 in
theorem x4_timesSaid (E : zEn)  (h : Nat) (v1 : Int32) (σ : zSt) : X E cX4_timesSaid m4_timesSaid true (zQr E true eI r4_timesSaid σ) 0 0 σ [(0, aR 4 (some h)), (1, aI v1)] 0 [] (f4_timesSaid h v1 σ) := by
  unfold f4_timesSaid
  refine x_iconst (pc := 0) 0 dX4_timesSaid_0 rfl ?_
  refine x_istore_n (pc := 1) (als' := [(2, aI 0), (0, aR 4 (some h)), (1, aI v1)]) 2 dX4_timesSaid_1 rfl (by decide) rfl ?_
  refine x_iconst (pc := 2) 0 dX4_timesSaid_2 rfl ?_
  refine x_istore_n (pc := 3) (als' := [(3, aI 0), (2, aI 0), (0, aR 4 (some h)), (1, aI v1)]) 3 dX4_timesSaid_3 rfl (by decide) rfl ?_
  refine x_sub [2, 3, 1, 0] rfl (xl4_timesSaid_4 E h v1 σ zfuel 0 0)
theorem c_4_timesSaid (l : Launch)  (h : Nat) (v1 : Int32) (σ : zSt) : zMet l yX4_timesSaid cX4_timesSaid 4 (some .int) r4_timesSaid true eI [aR 4 (some h), aI v1] σ (zro (f4_timesSaid h v1 σ) σ) :=
  zMet_ofR [(0, aR 4 (some h)), (1, aI v1)] (by decide +kernel) (fun h => by cases h) (Nat.le_of_ble_eq_true rfl) rfl fun E _ => x4_timesSaid E  h v1 σ
abbrev r4_timesFalse : Room := { frames := 1, cells := 0, slots := 0, locals := 22 }
abbrev m4_timesFalse : zMu := (RX4, 4, (some .int), r4_timesFalse, false)
set_option maxRecDepth 20000 in
theorem xl4_timesFalse_4 (E : zEn)   (h0 : Nat) (h1 : Int32) (σ : zSt)   : ∀ (n : Nat) (v2 : Int32) (v3 : Int32), X E cX4_timesFalse m4_timesFalse true (zQr E true eI r4_timesFalse σ) 0 0 σ [(0, aR 4 (some h0)), (1, aI h1), (2, aI v2), (3, aI v3)] 4 [] (f4_timesFalse_L4 h0 h1 σ n v2 v3) := by
  intro n
  induction n with
  | zero => intros; exact x_none
  | succ n ih =>
    intro v2 v3
    rw [f4_timesFalse_L4]
    refine x_iload_n (pc := 4) 3 dX4_timesFalse_4 rfl rfl ?_
    refine x_iconst (pc := 5) 1 dX4_timesFalse_5 rfl ?_
    refine x_iadd (pc := 6) dX4_timesFalse_6 ?_
    refine x_aload_n (pc := 7) 0 dX4_timesFalse_7 rfl rfl ?_
    refine x_getI (pc := 8) fd_4_3 tk_397 dX4_timesFalse_8 ?_
    refine x_icmp_ge (pc := 11) 48 dX4_timesFalse_11 (by decide) (fun _ => ?_) (fun _ => ?_)
    ·
      refine x_iload_n (pc := 48) 2 dX4_timesFalse_48 rfl rfl ?_
      exact x_iret (rm := r4_timesFalse) rfl rfl dX4_timesFalse_49
    ·
      refine x_iload_n (pc := 14) 2 dX4_timesFalse_14 rfl rfl ?_
      refine x_aload_n (pc := 15) 0 dX4_timesFalse_15 rfl rfl ?_
      refine x_iload_n (pc := 16) 3 dX4_timesFalse_16 rfl rfl ?_
      refine x_iload_n (pc := 17) 1 dX4_timesFalse_17 rfl rfl ?_
      refine x_callVr (pc := 18) (as := [aI v3, aI h1]) (rest := [aI v2]) (fun l => c_4_isSaidAt l h0 v3 h1 σ) md_X4_isSaidAt ⟨_, _, rfl, by decide⟩ tk_339 tp_4 tk_337 dX4_timesFalse_18 rfl ⟨by decide, by decide, by decide, by decide⟩ ⟨fun _ => rfl, fun _ => Or.inl rfl⟩ rfl (Nat.le_of_ble_eq_true rfl) (fun r1 => ?_)
      show X E _ _ _ _ 0 0 _ _ _ [aI r1, aI v2] _
      refine x_join (P := fun (j3 : Int32 → Option Int32) => ∀ (a2 : Int32), X E cX4_timesFalse m4_timesFalse true (zQr E true eI r4_timesFalse σ) 0 0 σ [(0, aR 4 (some h0)), (1, aI h1), (3, aI v3)] 40 [aI a2, aI v2] (j3 a2)) ?_ ?_
      · intro a2
        refine x_iadd (pc := 40) dX4_timesFalse_40 ?_
        refine x_nameI (fun x5 => ?_)
        refine x_istore_n (pc := 41) (als' := [(2, aI x5), (0, aR 4 (some h0)), (1, aI h1), (3, aI v3)]) 2 dX4_timesFalse_41 rfl (by decide) rfl ?_
        refine x_iinc (pc := 42) (als' := [(3, aI (v3 + 1)), (2, aI x5), (0, aR 4 (some h0)), (1, aI h1)]) 3 3 (c := 1) dX4_timesFalse_42 rfl rfl (by decide) rfl ?_
        refine x_nameV (g := fun y7 => [(3, aI y7), (2, aI x5), (0, aR 4 (some h0)), (1, aI h1)]) (fun x6 => ?_) rfl
        refine x_goto (pc := 45) 4 dX4_timesFalse_45 (by decide) ?_
        exact x_sub [2, 3, 1, 0] rfl (ih x5 x6)
      · intro j3 hj4
        refine x_join (P := fun (j8 : Option Int32) => X E cX4_timesFalse m4_timesFalse true (zQr E true eI r4_timesFalse σ) 0 0 σ [(0, aR 4 (some h0)), (1, aI h1), (3, aI v3)] 39 [aI v2] j8) ?_ ?_
        ·
          refine x_iconst (pc := 39) 0 dX4_timesFalse_39 rfl ?_
          exact hj4 0
        · intro j8 hj9
          refine x_if_eq (pc := 21) 39 dX4_timesFalse_21 (by decide) (fun _ => ?_) (fun _ => ?_)
          ·
            exact x_sub [0, 1, 3] rfl (hj9)
          ·
            refine x_aload_n (pc := 24) 0 dX4_timesFalse_24 rfl rfl ?_
            refine x_getF (pc := 25) (j := h0) fd_4_1 rfl rfl tk_395 dX4_timesFalse_25 ?_
            refine x_iload_n (pc := 28) 3 dX4_timesFalse_28 rfl rfl ?_
            refine x_iconst (pc := 29) 1 dX4_timesFalse_29 rfl ?_
            refine x_iadd (pc := 30) dX4_timesFalse_30 ?_
            refine x_iald (pc := 31) ar_501 dX4_timesFalse_31 (fun m10 => ?_)
            refine x_if_ne (pc := 32) 39 dX4_timesFalse_32 (by decide) (fun _ => ?_) (fun _ => ?_)
            ·
              exact x_sub [0, 1, 3] rfl (hj9)
            ·
              refine x_iconst (pc := 35) 1 dX4_timesFalse_35 rfl ?_
              refine x_goto (pc := 36) 40 dX4_timesFalse_36 (by decide) ?_
              exact x_sub [0, 1, 3] rfl (hj4 1)
set_option maxRecDepth 20000 in
theorem x4_timesFalse (E : zEn)  (h : Nat) (v1 : Int32) (σ : zSt) : X E cX4_timesFalse m4_timesFalse true (zQr E true eI r4_timesFalse σ) 0 0 σ [(0, aR 4 (some h)), (1, aI v1)] 0 [] (f4_timesFalse h v1 σ) := by
  unfold f4_timesFalse
  refine x_iconst (pc := 0) 0 dX4_timesFalse_0 rfl ?_
  refine x_istore_n (pc := 1) (als' := [(2, aI 0), (0, aR 4 (some h)), (1, aI v1)]) 2 dX4_timesFalse_1 rfl (by decide) rfl ?_
  refine x_iconst (pc := 2) 0 dX4_timesFalse_2 rfl ?_
  refine x_istore_n (pc := 3) (als' := [(3, aI 0), (2, aI 0), (0, aR 4 (some h)), (1, aI v1)]) 3 dX4_timesFalse_3 rfl (by decide) rfl ?_
  refine x_sub [2, 3, 1, 0] rfl (xl4_timesFalse_4 E h v1 σ zfuel 0 0)
theorem c_4_timesFalse (l : Launch)  (h : Nat) (v1 : Int32) (σ : zSt) : zMet l yX4_timesFalse cX4_timesFalse 4 (some .int) r4_timesFalse true eI [aR 4 (some h), aI v1] σ (zro (f4_timesFalse h v1 σ) σ) :=
  zMet_ofR [(0, aR 4 (some h)), (1, aI v1)] (by decide +kernel) (fun h => by cases h) (Nat.le_of_ble_eq_true rfl) rfl fun E _ => x4_timesFalse E  h v1 σ
abbrev rJ7_fill_611 : Room := { frames := 0, cells := 0, slots := 0, locals := 0 }
abbrev mJ7_fill_611 : zMu := (RJ7, 4, none, rJ7_fill_611, false)
set_option maxRecDepth 20000 in
theorem xlJ7_fill_611_5 (E : zEn)  (q : Bool) (h0 : Nat) (h1 : Int32) (h3 : Int32)   : ∀ (n : Nat) (v2 : Int32) (σ : zSt), X E cJ7_fill_53178 mJ7_fill_611 q (zQw E q eV rJ7_fill_611) 0 0 σ [(0, aR 611 (some h0)), (1, aI h1), (2, aI v2), (3, aI h3)] 5 [] (fJ7_fill_611_L5 h0 h1 h3 n v2 σ) := by
  intro n
  induction n with
  | zero => intros; exact x_none
  | succ n ih =>
    intro v2 σ
    rw [fJ7_fill_611_L5]
    refine x_iload_n (pc := 5) 2 dJ7_fill_53178_5 rfl rfl ?_
    refine x_iload_n (pc := 6) 3 dJ7_fill_53178_6 rfl rfl ?_
    refine x_icmp_ge (pc := 7) 20 dJ7_fill_53178_7 (by decide) (fun _ => ?_) (fun _ => ?_)
    ·
      exact x_vret (rm := rJ7_fill_611) rfl rfl dJ7_fill_53178_20
    ·
      refine x_aload_n (pc := 10) 0 dJ7_fill_53178_10 rfl rfl ?_
      refine x_iload_n (pc := 11) 2 dJ7_fill_53178_11 rfl rfl ?_
      refine x_iload_n (pc := 12) 1 dJ7_fill_53178_12 rfl rfl ?_
      refine x_iast (pc := 13) ar_611 dJ7_fill_53178_13 (fun m2 => ?_)
      refine x_nameS (fun s3 => ?_)
      refine x_iinc (pc := 14) (als' := [(2, aI (v2 + 1)), (0, aR 611 (some h0)), (1, aI h1), (3, aI h3)]) 2 2 (c := 1) dJ7_fill_53178_14 rfl rfl (by decide) rfl ?_
      refine x_nameV (g := fun y5 => [(2, aI y5), (0, aR 611 (some h0)), (1, aI h1), (3, aI h3)]) (fun x4 => ?_) rfl
      refine x_goto (pc := 17) 5 dJ7_fill_53178_17 (by decide) ?_
      exact x_sub [1, 2, 0, 3] rfl (ih x4 s3)
set_option maxRecDepth 20000 in
theorem xJ7_fill_611 (E : zEn)  (q : Bool) (h0 : Nat) (v1 : Int32) (σ : zSt) : X E cJ7_fill_53178 mJ7_fill_611 q (zQw E q eV rJ7_fill_611) 0 0 σ [(0, aR 611 (some h0)), (1, aI v1)] 0 [] (fJ7_fill_611 h0 v1 σ) := by
  unfold fJ7_fill_611
  refine x_iconst (pc := 0) 0 dJ7_fill_53178_0 rfl ?_
  refine x_istore_n (pc := 1) (als' := [(2, aI 0), (0, aR 611 (some h0)), (1, aI v1)]) 2 dJ7_fill_53178_1 rfl (by decide) rfl ?_
  refine x_aload_n (pc := 2) 0 dJ7_fill_53178_2 rfl rfl ?_
  refine x_alen (pc := 3) ar_611 (by decide) dJ7_fill_53178_3 ?_
  refine x_nameI (fun x1 => ?_)
  refine x_istore_n (pc := 4) (als' := [(3, aI x1), (2, aI 0), (0, aR 611 (some h0)), (1, aI v1)]) 3 dJ7_fill_53178_4 rfl (by decide) rfl ?_
  refine x_sub [2, 3, 1, 0] rfl (xlJ7_fill_611_5 E q h0 v1 x1 zfuel 0 σ)
theorem c_J7_fill_611 (l : Launch)  (q : Bool) (h0 : Nat) (v1 : Int32) (σ : zSt) : zMet l yJ7_fill_53178 cJ7_fill_53178 4 none rJ7_fill_611 q eV [aR 611 (some h0), aI v1] σ (fJ7_fill_611 h0 v1 σ) :=
  zMet_of [(0, aR 611 (some h0)), (1, aI v1)] (by decide +kernel) (fun h => by cases h) (Nat.le_of_ble_eq_true rfl) rfl fun E _ => xJ7_fill_611 E  q h0 v1 σ
abbrev r5_init : Room := { frames := 1, cells := 2, slots := 30, locals := 23 }
abbrev m5_init : zMu := (RX5, 5, none, r5_init, true)
set_option maxRecDepth 20000 in
theorem x5_init (E : zEn)  (h : Nat) (v1 : Int32) (v2 : Int32) (v3 : Int32) (v4 : Int32) (σ : zSt) : X E cX5_init m5_init false (zQw E false eV r5_init) 0 0 σ [(0, aR 5 (some h)), (1, aI v1), (2, aI v2), (3, aI v3), (4, aI v4)] 0 [] (f5_init h v1 v2 v3 v4 σ) := by
  unfold f5_init
  refine x_aload_n (pc := 0) 0 dX5_init_0 rfl rfl ?_
  refine x_objInit (pc := 1) tk_225 tk_28 tk_29 dX5_init_1 (by decide) ?_
  refine x_aload_n (pc := 4) 0 dX5_init_4 rfl rfl ?_
  refine x_iconst (pc := 5) (-1) dX5_init_5 rfl ?_
  refine x_putI (pc := 6) fd_5_4 pt_5_4 tk_235 dX5_init_6 (Or.inl rfl) ?_
  refine x_nameS (fun s1 => ?_)
  refine x_aload_n (pc := 9) 0 dX5_init_9 rfl rfl ?_
  refine x_bipush (pc := 10) 127 dX5_init_10 rfl ?_
  refine x_putI (pc := 12) fd_5_5 pt_5_5 tk_239 dX5_init_12 (Or.inl rfl) ?_
  refine x_nameS (fun s2 => ?_)
  refine x_aload_n (pc := 15) 0 dX5_init_15 rfl rfl ?_
  refine x_bipush (pc := 16) 20 dX5_init_16 rfl ?_
  refine x_newaI (pc := 18) 610 (n := 20) ar_610 rfl (by decide) tk_52 dX5_init_18 rfl (by decide) ?_
  refine x_nameN (fun i3 => ?_)
  refine x_nameS (fun s4 => ?_)
  refine x_putR (pc := 20) fd_5_10 pt_5_10 (Or.inr ⟨_, rfl⟩) tk_246 dX5_init_20 (Or.inr ⟨rfl, rfl⟩) (Or.inl rfl) ?_
  refine x_nameS (fun s5 => ?_)
  refine x_aload_n (pc := 23) 0 dX5_init_23 rfl rfl ?_
  refine x_bipush (pc := 24) 10 dX5_init_24 rfl ?_
  refine x_newaI (pc := 26) 611 (n := 10) ar_611 rfl (by decide) tk_52 dX5_init_26 rfl (by decide) ?_
  refine x_nameN (fun i6 => ?_)
  refine x_nameS (fun s7 => ?_)
  refine x_putR (pc := 28) fd_5_11 pt_5_11 (Or.inr ⟨_, rfl⟩) tk_247 dX5_init_28 (Or.inr ⟨rfl, rfl⟩) (Or.inl rfl) ?_
  refine x_nameS (fun s8 => ?_)
  refine x_aload_n (pc := 31) 0 dX5_init_31 rfl rfl ?_
  refine x_iload_n (pc := 32) 1 dX5_init_32 rfl rfl ?_
  refine x_putI (pc := 33) fd_5_0 pt_5_0 tk_227 dX5_init_33 (Or.inr ⟨rfl, rfl⟩) ?_
  refine x_nameS (fun s9 => ?_)
  refine x_aload_n (pc := 36) 0 dX5_init_36 rfl rfl ?_
  refine x_iload_n (pc := 37) 2 dX5_init_37 rfl rfl ?_
  refine x_putI (pc := 38) fd_5_1 pt_5_1 tk_229 dX5_init_38 (Or.inr ⟨rfl, rfl⟩) ?_
  refine x_nameS (fun s10 => ?_)
  refine x_aload_n (pc := 41) 0 dX5_init_41 rfl rfl ?_
  refine x_iload_n (pc := 42) 3 dX5_init_42 rfl rfl ?_
  refine x_putI (pc := 43) fd_5_2 pt_5_2 tk_231 dX5_init_43 (Or.inr ⟨rfl, rfl⟩) ?_
  refine x_nameS (fun s11 => ?_)
  refine x_aload_n (pc := 46) 0 dX5_init_46 rfl rfl ?_
  refine x_iload (pc := 47) 4 dX5_init_47 rfl ?_
  refine x_putI (pc := 49) fd_5_3 pt_5_3 tk_233 dX5_init_49 (Or.inr ⟨rfl, rfl⟩) ?_
  refine x_nameS (fun s12 => ?_)
  refine x_aload_n (pc := 52) 0 dX5_init_52 rfl rfl ?_
  refine x_getR (pc := 53) fd_5_11 tk_247 dX5_init_53 ?_
  refine x_nameR (fun o13 => ?_)
  refine x_iconst (pc := 56) (-1) dX5_init_56 rfl ?_
  rcases o13 with _ | i14
  · exact x_none
  ·
    skip
    refine x_zocS ?_
    refine x_callS (pc := 57) (as := [aR 611 (some i14), aI (-1)]) (rest := []) (fun l => c_J7_fill_611 l false i14 (-1) s12) md_J7_fill_53178 tk_119 tk_226 dX5_init_57 rfl ⟨by decide, by decide, by decide, by decide⟩ ⟨(fun h => nomatch h), (fun h => nomatch h)⟩ rfl (Nat.le_of_ble_eq_true rfl) (fun _ s16 => ?_)
    show X E _ _ _ _ 2 30 _ _ _ [] _
    exact x_vret (rm := r5_init) rfl rfl dX5_init_60
theorem c_5_init (l : Launch)  (h : Nat) (v1 : Int32) (v2 : Int32) (v3 : Int32) (v4 : Int32) (σ : zSt) : zMet l yX5_init cX5_init 5 none r5_init false eV [aR 5 (some h), aI v1, aI v2, aI v3, aI v4] σ (f5_init h v1 v2 v3 v4 σ) :=
  zMet_of [(0, aR 5 (some h)), (1, aI v1), (2, aI v2), (3, aI v3), (4, aI v4)] (by decide +kernel) (fun _ => rfl) (Nat.le_of_ble_eq_true rfl) rfl fun E _ => x5_init E  h v1 v2 v3 v4 σ
abbrev r5_crewOf : Room := { frames := 1, cells := 0, slots := 0, locals := 21 }
abbrev m5_crewOf : zMu := (RX5, 2, (some .int), r5_crewOf, false)
set_option maxRecDepth 20000 in
theorem x5_crewOf (E : zEn)  (h : Nat) (v1 : Int32) (σ : zSt) : X E cX5_crewOf m5_crewOf true (zQr E true eI r5_crewOf σ) 0 0 σ [(0, aR 5 (some h)), (1, aI v1)] 0 [] (f5_crewOf h v1 σ) := by
  unfold f5_crewOf
  refine x_iload_n (pc := 0) 1 dX5_crewOf_0 rfl rfl ?_
  refine x_bipush (pc := 1) 10 dX5_crewOf_1 rfl ?_
  refine x_callSNr (pc := 3) (as := [aI v1, aI 10]) (rest := []) (fun l => c_11_isIn l true v1 10 σ) md_X11_isIn tk_219 (host := RX11) (by decide +kernel) dX5_crewOf_3 rfl ⟨by decide, by decide, by decide, by decide⟩ ⟨fun _ => rfl, fun _ => Or.inl rfl⟩ rfl (Nat.le_of_ble_eq_true rfl) (fun r1 => ?_)
  show X E _ _ _ _ 0 0 _ _ _ [aI r1] _
  refine x_if_eq (pc := 6) 18 dX5_crewOf_6 (by decide) (fun _ => ?_) (fun _ => ?_)
  ·
    refine x_iconst (pc := 18) (-1) dX5_crewOf_18 rfl ?_
    exact x_iret (rm := r5_crewOf) rfl rfl dX5_crewOf_19
  ·
    refine x_aload_n (pc := 9) 0 dX5_crewOf_9 rfl rfl ?_
    refine x_getF (pc := 10) (j := h) fd_5_11 rfl rfl tk_247 dX5_crewOf_10 ?_
    refine x_iload_n (pc := 13) 1 dX5_crewOf_13 rfl rfl ?_
    refine x_iald (pc := 14) ar_611 dX5_crewOf_14 (fun m2 => ?_)
    refine x_goto (pc := 15) 19 dX5_crewOf_15 (by decide) ?_
    exact x_iret (rm := r5_crewOf) rfl rfl dX5_crewOf_19
theorem c_5_crewOf (l : Launch)  (h : Nat) (v1 : Int32) (σ : zSt) : zMet l yX5_crewOf cX5_crewOf 2 (some .int) r5_crewOf true eI [aR 5 (some h), aI v1] σ (zro (f5_crewOf h v1 σ) σ) :=
  zMet_ofR [(0, aR 5 (some h)), (1, aI v1)] (by decide +kernel) (fun h => by cases h) (Nat.le_of_ble_eq_true rfl) rfl fun E _ => x5_crewOf E  h v1 σ
abbrev r5_addSale : Room := { frames := 0, cells := 0, slots := 0, locals := 0 }
abbrev m5_addSale : zMu := (RX5, 2, (some .boolean), r5_addSale, false)
set_option maxRecDepth 20000 in
theorem x5_addSale (E : zEn)  (h : Nat) (v1 : Int32) (σ : zSt) : X E cX5_addSale m5_addSale true (zQw E true eI r5_addSale) 0 0 σ [(0, aR 5 (some h)), (1, aI v1)] 0 [] (f5_addSale h v1 σ) := by
  unfold f5_addSale
  refine x_aload_n (pc := 0) 0 dX5_addSale_0 rfl rfl ?_
  refine x_getI (pc := 1) fd_5_9 tk_244 dX5_addSale_1 ?_
  refine x_bipush (pc := 4) 20 dX5_addSale_4 rfl ?_
  refine x_icmp_lt (pc := 6) 11 dX5_addSale_6 (by decide) (fun _ => ?_) (fun _ => ?_)
  ·
    refine x_aload_n (pc := 11) 0 dX5_addSale_11 rfl rfl ?_
    refine x_getF (pc := 12) (j := h) fd_5_10 rfl rfl tk_246 dX5_addSale_12 ?_
    refine x_aload_n (pc := 15) 0 dX5_addSale_15 rfl rfl ?_
    refine x_getI (pc := 16) fd_5_9 tk_244 dX5_addSale_16 ?_
    refine x_iload_n (pc := 19) 1 dX5_addSale_19 rfl rfl ?_
    refine x_iast (pc := 20) ar_610 dX5_addSale_20 (fun m1 => ?_)
    refine x_nameS (fun s2 => ?_)
    refine x_aload_n (pc := 21) 0 dX5_addSale_21 rfl rfl ?_
    refine x_dup (pc := 22) dX5_addSale_22 rfl ?_
    refine x_getI (pc := 23) fd_5_9 tk_244 dX5_addSale_23 ?_
    refine x_iconst (pc := 26) 1 dX5_addSale_26 rfl ?_
    refine x_iadd (pc := 27) dX5_addSale_27 ?_
    refine x_putI (pc := 28) fd_5_9 pt_5_9 tk_244 dX5_addSale_28 (Or.inl rfl) ?_
    refine x_nameS (fun s3 => ?_)
    refine x_iconst (pc := 31) 1 dX5_addSale_31 rfl ?_
    exact x_zretC (rm := r5_addSale) rfl rfl (by decide) dX5_addSale_32
  ·
    refine x_iconst (pc := 9) 0 dX5_addSale_9 rfl ?_
    exact x_zretC (rm := r5_addSale) rfl rfl (by decide) dX5_addSale_10
theorem c_5_addSale (l : Launch)  (h : Nat) (v1 : Int32) (σ : zSt) : zMet l yX5_addSale cX5_addSale 2 (some .boolean) r5_addSale true eI [aR 5 (some h), aI v1] σ (f5_addSale h v1 σ) :=
  zMet_of [(0, aR 5 (some h)), (1, aI v1)] (by decide +kernel) (fun h => by cases h) (Nat.le_of_ble_eq_true rfl) rfl fun E _ => x5_addSale E  h v1 σ
abbrev r5_salesBy : Room := { frames := 0, cells := 0, slots := 0, locals := 0 }
abbrev m5_salesBy : zMu := (RX5, 4, (some .int), r5_salesBy, false)
set_option maxRecDepth 20000 in
theorem xl5_salesBy_4 (E : zEn)   (h0 : Nat) (h1 : Int32) (σ : zSt)   : ∀ (n : Nat) (v2 : Int32) (v3 : Int32), X E cX5_salesBy m5_salesBy true (zQr E true eI r5_salesBy σ) 0 0 σ [(0, aR 5 (some h0)), (1, aI h1), (2, aI v2), (3, aI v3)] 4 [] (f5_salesBy_L4 h0 h1 σ n v2 v3) := by
  intro n
  induction n with
  | zero => intros; exact x_none
  | succ n ih =>
    intro v2 v3
    rw [f5_salesBy_L4]
    refine x_iload_n (pc := 4) 3 dX5_salesBy_4 rfl rfl ?_
    refine x_aload_n (pc := 5) 0 dX5_salesBy_5 rfl rfl ?_
    refine x_getI (pc := 6) fd_5_9 tk_244 dX5_salesBy_6 ?_
    refine x_icmp_ge (pc := 9) 36 dX5_salesBy_9 (by decide) (fun _ => ?_) (fun _ => ?_)
    ·
      refine x_iload_n (pc := 36) 2 dX5_salesBy_36 rfl rfl ?_
      exact x_iret (rm := r5_salesBy) rfl rfl dX5_salesBy_37
    ·
      refine x_iload_n (pc := 12) 2 dX5_salesBy_12 rfl rfl ?_
      refine x_aload_n (pc := 13) 0 dX5_salesBy_13 rfl rfl ?_
      refine x_getF (pc := 14) (j := h0) fd_5_10 rfl rfl tk_246 dX5_salesBy_14 ?_
      refine x_iload_n (pc := 17) 3 dX5_salesBy_17 rfl rfl ?_
      refine x_iald (pc := 18) ar_610 dX5_salesBy_18 (fun m1 => ?_)
      refine x_iload_n (pc := 19) 1 dX5_salesBy_19 rfl rfl ?_
      refine x_mg (c := h1 < (gI σ 610 h0 m1)) (a := 0) (b := 1) 28 [aI v2] ?_ (fun hm2 => ?_)
      ·
        refine x_iadd (pc := 28) dX5_salesBy_28 ?_
        refine x_nameI (fun x6 => ?_)
        refine x_istore_n (pc := 29) (als' := [(2, aI x6), (0, aR 5 (some h0)), (1, aI h1), (3, aI v3)]) 2 dX5_salesBy_29 rfl (by decide) rfl ?_
        refine x_iinc (pc := 30) (als' := [(3, aI (v3 + 1)), (2, aI x6), (0, aR 5 (some h0)), (1, aI h1)]) 3 3 (c := 1) dX5_salesBy_30 rfl rfl (by decide) rfl ?_
        refine x_nameV (g := fun y8 => [(3, aI y8), (2, aI x6), (0, aR 5 (some h0)), (1, aI h1)]) (fun x7 => ?_) rfl
        refine x_goto (pc := 33) 4 dX5_salesBy_33 (by decide) ?_
        exact x_sub [2, 3, 1, 0] rfl (ih x6 x7)
      ·
        refine x_same (c := h1 < (gI σ 610 h0 m1)) ?_
        refine x_icmp_gt (pc := 20) 27 dX5_salesBy_20 (by decide) (fun hc3 => ?_) (fun hc3 => ?_)
        ·
          have hm4 := x_topT hc3 hm2
          refine x_iconst (pc := 27) 0 dX5_salesBy_27 rfl ?_
          exact hm4
        ·
          have hm5 := x_topF hc3 hm2
          refine x_iconst (pc := 23) 1 dX5_salesBy_23 rfl ?_
          refine x_goto (pc := 24) 28 dX5_salesBy_24 (by decide) ?_
          exact hm5
set_option maxRecDepth 20000 in
theorem x5_salesBy (E : zEn)  (h : Nat) (v1 : Int32) (σ : zSt) : X E cX5_salesBy m5_salesBy true (zQr E true eI r5_salesBy σ) 0 0 σ [(0, aR 5 (some h)), (1, aI v1)] 0 [] (f5_salesBy h v1 σ) := by
  unfold f5_salesBy
  refine x_iconst (pc := 0) 0 dX5_salesBy_0 rfl ?_
  refine x_istore_n (pc := 1) (als' := [(2, aI 0), (0, aR 5 (some h)), (1, aI v1)]) 2 dX5_salesBy_1 rfl (by decide) rfl ?_
  refine x_iconst (pc := 2) 0 dX5_salesBy_2 rfl ?_
  refine x_istore_n (pc := 3) (als' := [(3, aI 0), (2, aI 0), (0, aR 5 (some h)), (1, aI v1)]) 3 dX5_salesBy_3 rfl (by decide) rfl ?_
  refine x_sub [2, 3, 1, 0] rfl (xl5_salesBy_4 E h v1 σ zfuel 0 0)
theorem c_5_salesBy (l : Launch)  (h : Nat) (v1 : Int32) (σ : zSt) : zMet l yX5_salesBy cX5_salesBy 4 (some .int) r5_salesBy true eI [aR 5 (some h), aI v1] σ (zro (f5_salesBy h v1 σ) σ) :=
  zMet_ofR [(0, aR 5 (some h)), (1, aI v1)] (by decide +kernel) (fun h => by cases h) (Nat.le_of_ble_eq_true rfl) rfl fun E _ => x5_salesBy E  h v1 σ
abbrev r6_init : Room := { frames := 1, cells := 1, slots := 9, locals := 12 }
abbrev m6_init : zMu := (RX6, 1, none, r6_init, true)
set_option maxRecDepth 20000 in
theorem x6_init (E : zEn)  (h : Nat) (σ : zSt) : X E cX6_init m6_init false (zQw E false eV r6_init) 0 0 σ [(0, aR 6 (some h))] 0 [] (f6_init h σ) := by
  unfold f6_init
  refine x_aload_n (pc := 0) 0 dX6_init_0 rfl rfl ?_
  refine x_objInit (pc := 1) tk_58 tk_28 tk_29 dX6_init_1 (by decide) ?_
  refine x_aload_n (pc := 4) 0 dX6_init_4 rfl rfl ?_
  refine x_bipush (pc := 5) 9 dX6_init_5 rfl ?_
  refine x_newaI (pc := 7) 700 (n := 9) ar_700 rfl (by decide) tk_52 dX6_init_7 rfl (by decide) ?_
  refine x_nameN (fun i1 => ?_)
  refine x_nameS (fun s2 => ?_)
  refine x_putR (pc := 9) fd_6_0 pt_6_0 (Or.inr ⟨_, rfl⟩) tk_59 dX6_init_9 (Or.inr ⟨rfl, rfl⟩) (Or.inl rfl) ?_
  refine x_nameS (fun s3 => ?_)
  exact x_vret (rm := r6_init) rfl rfl dX6_init_12
theorem c_6_init (l : Launch)  (h : Nat) (σ : zSt) : zMet l yX6_init cX6_init 1 none r6_init false eV [aR 6 (some h)] σ (f6_init h σ) :=
  zMet_of [(0, aR 6 (some h))] (by decide +kernel) (fun _ => rfl) (Nat.le_of_ble_eq_true rfl) rfl fun E _ => x6_init E  h σ
abbrev r6_nextPhaseIf : Room := { frames := 7, cells := 0, slots := 0, locals := 221 }
abbrev m6_nextPhaseIf : zMu := (RX6, 3, (some .int), r6_nextPhaseIf, false)
set_option maxRecDepth 20000 in
theorem x6_nextPhaseIf (E : zEn)  (q : Bool) (h0 : Nat) (v1 : Int32) (v2 : Int32) (σ : zSt) : X E cX6_nextPhaseIf m6_nextPhaseIf q (zQr E q eI r6_nextPhaseIf σ) 0 0 σ [(0, aR 15 (some h0)), (1, aI v1), (2, aI v2)] 0 [] (f6_nextPhaseIf h0 v1 v2 σ) := by
  unfold f6_nextPhaseIf
  refine x_aload_n (pc := 0) 0 dX6_nextPhaseIf_0 rfl rfl ?_
  refine x_iload_n (pc := 1) 1 dX6_nextPhaseIf_1 rfl rfl ?_
  refine x_i2c (pc := 2) dX6_nextPhaseIf_2 ?_
  refine x_z5 (fun hk2 => ?_)
  refine x_callTr (pc := 3) (as := [aI (zi2c v1)]) (rest := []) (fun l => c_J0_indexOf_0f7a4 l q h0 hk2 (zi2c v1) σ) md_J0_indexOf_0f7a4 rfl hk2 rfl tk_841 tk_842 tk_840 dX6_nextPhaseIf_3 rfl ⟨by decide, by decide, by decide, by decide⟩ ⟨fun h => h, fun h => Or.inl h⟩ rfl (Nat.le_of_ble_eq_true rfl) (fun r1 => ?_)
  show X E _ _ _ _ 0 0 _ _ _ [aI r1] _
  refine x_if_lt (pc := 6) 13 dX6_nextPhaseIf_6 (by decide) (fun _ => ?_) (fun _ => ?_)
  ·
    refine x_bipush (pc := 13) 7 dX6_nextPhaseIf_13 rfl ?_
    exact x_iret (rm := r6_nextPhaseIf) rfl rfl dX6_nextPhaseIf_15
  ·
    refine x_iload_n (pc := 9) 2 dX6_nextPhaseIf_9 rfl rfl ?_
    refine x_goto (pc := 10) 15 dX6_nextPhaseIf_10 (by decide) ?_
    exact x_iret (rm := r6_nextPhaseIf) rfl rfl dX6_nextPhaseIf_15
theorem c_6_nextPhaseIf (l : Launch)  (q : Bool) (h0 : Nat) (v1 : Int32) (v2 : Int32) (σ : zSt) : zMet l yX6_nextPhaseIf cX6_nextPhaseIf 3 (some .int) r6_nextPhaseIf q eI [aR 15 (some h0), aI v1, aI v2] σ (zro (f6_nextPhaseIf h0 v1 v2 σ) σ) :=
  zMet_ofR [(0, aR 15 (some h0)), (1, aI v1), (2, aI v2)] (by decide +kernel) (fun h => by cases h) (Nat.le_of_ble_eq_true rfl) rfl fun E _ => x6_nextPhaseIf E  q h0 v1 v2 σ
abbrev r6_nextPhase : Room := { frames := 8, cells := 0, slots := 0, locals := 243 }
abbrev m6_nextPhase : zMu := (RX6, 2, (some .int), r6_nextPhase, false)
set_option maxRecDepth 20000 in
theorem x6_nextPhase (E : zEn)  (q : Bool) (v0 : Int32) (v1 : Int32) (σ : zSt) : X E cX6_nextPhase m6_nextPhase q (zQr E q eI r6_nextPhase σ) 0 0 σ [(0, aI v0), (1, aI v1)] 0 [] (f6_nextPhase v0 v1 σ) := by
  unfold f6_nextPhase
  refine x_iload_n (pc := 0) 0 dX6_nextPhase_0 rfl rfl ?_
  refine x_table (pc := 1) dX6_nextPhase_1 (by decide) (fun tg1 ht2 => ?_) (fun x => ?_)
  ·
    refine x_ite (fun hc3 => ?_) (fun hc3 => ?_)
    ·
      obtain rfl : tg1 = 44 := zsw_at hc3 ht2 (by decide)
      refine x_iload_n (pc := 44) 1 dX6_nextPhase_44 rfl rfl ?_
      refine x_bipush (pc := 45) 62 dX6_nextPhase_45 rfl ?_
      refine x_icmp_ne (pc := 47) 54 dX6_nextPhase_47 (by decide) (fun _ => ?_) (fun _ => ?_)
      ·
        refine x_ldcS (pc := 54) 0 dX6_nextPhase_54 rfl ?_
        refine x_iload_n (pc := 56) 1 dX6_nextPhase_56 rfl rfl ?_
        refine x_iconst (pc := 57) 2 dX6_nextPhase_57 rfl ?_
        refine x_callSr (pc := 58) (as := [aR 15 (some 0), aI v1, aI 2]) (rest := []) (fun l => c_6_nextPhaseIf l q 0 v1 2 σ) md_X6_nextPhaseIf tk_838 tk_837 dX6_nextPhase_58 rfl ⟨by decide, by decide, by decide, by decide⟩ ⟨fun h => h, fun h => Or.inl h⟩ rfl (Nat.le_of_ble_eq_true rfl) (fun r4 => ?_)
        show X E _ _ _ _ 0 0 _ _ _ [aI r4] _
        exact x_iret (rm := r6_nextPhase) rfl rfl dX6_nextPhase_61
      ·
        refine x_iconst (pc := 50) 5 dX6_nextPhase_50 rfl ?_
        refine x_goto (pc := 51) 61 dX6_nextPhase_51 (by decide) ?_
        exact x_iret (rm := r6_nextPhase) rfl rfl dX6_nextPhase_61
    ·
      refine x_ite (fun hc5 => ?_) (fun hc5 => ?_)
      ·
        obtain rfl : tg1 = 62 := zsw_at hc5 ht2 (by decide)
        refine x_ldcS (pc := 62) 0 dX6_nextPhase_62 rfl ?_
        refine x_iload_n (pc := 64) 1 dX6_nextPhase_64 rfl rfl ?_
        refine x_iconst (pc := 65) 2 dX6_nextPhase_65 rfl ?_
        refine x_callSr (pc := 66) (as := [aR 15 (some 0), aI v1, aI 2]) (rest := []) (fun l => c_6_nextPhaseIf l q 0 v1 2 σ) md_X6_nextPhaseIf tk_838 tk_837 dX6_nextPhase_66 rfl ⟨by decide, by decide, by decide, by decide⟩ ⟨fun h => h, fun h => Or.inl h⟩ rfl (Nat.le_of_ble_eq_true rfl) (fun r6 => ?_)
        show X E _ _ _ _ 0 0 _ _ _ [aI r6] _
        exact x_iret (rm := r6_nextPhase) rfl rfl dX6_nextPhase_69
      ·
        refine x_ite (fun hc7 => ?_) (fun hc7 => ?_)
        ·
          obtain rfl : tg1 = 70 := zsw_at hc7 ht2 (by decide)
          refine x_ldcS (pc := 70) 1 dX6_nextPhase_70 rfl ?_
          refine x_iload_n (pc := 72) 1 dX6_nextPhase_72 rfl rfl ?_
          refine x_iconst (pc := 73) 3 dX6_nextPhase_73 rfl ?_
          refine x_callSr (pc := 74) (as := [aR 15 (some 1), aI v1, aI 3]) (rest := []) (fun l => c_6_nextPhaseIf l q 1 v1 3 σ) md_X6_nextPhaseIf tk_838 tk_837 dX6_nextPhase_74 rfl ⟨by decide, by decide, by decide, by decide⟩ ⟨fun h => h, fun h => Or.inl h⟩ rfl (Nat.le_of_ble_eq_true rfl) (fun r8 => ?_)
          show X E _ _ _ _ 0 0 _ _ _ [aI r8] _
          exact x_iret (rm := r6_nextPhase) rfl rfl dX6_nextPhase_77
        ·
          refine x_ite (fun hc9 => ?_) (fun hc9 => ?_)
          ·
            obtain rfl : tg1 = 78 := zsw_at hc9 ht2 (by decide)
            refine x_iload_n (pc := 78) 1 dX6_nextPhase_78 rfl rfl ?_
            refine x_callSNr (pc := 79) (as := [aI v1]) (rest := []) (fun l => c_11_isDigit l q v1 σ) md_X11_isDigit tk_831 (host := RX11) (by decide +kernel) dX6_nextPhase_79 rfl ⟨by decide, by decide, by decide, by decide⟩ ⟨fun h => h, fun h => Or.inl h⟩ rfl (Nat.le_of_ble_eq_true rfl) (fun r10 => ?_)
            show X E _ _ _ _ 0 0 _ _ _ [aI r10] _
            refine x_if_eq (pc := 82) 89 dX6_nextPhase_82 (by decide) (fun _ => ?_) (fun _ => ?_)
            ·
              refine x_bipush (pc := 89) 7 dX6_nextPhase_89 rfl ?_
              exact x_iret (rm := r6_nextPhase) rfl rfl dX6_nextPhase_91
            ·
              refine x_iconst (pc := 85) 4 dX6_nextPhase_85 rfl ?_
              refine x_goto (pc := 86) 91 dX6_nextPhase_86 (by decide) ?_
              exact x_iret (rm := r6_nextPhase) rfl rfl dX6_nextPhase_91
          ·
            refine x_ite (fun hc11 => ?_) (fun hc11 => ?_)
            ·
              obtain rfl : tg1 = 92 := zsw_at hc11 ht2 (by decide)
              refine x_iload_n (pc := 92) 1 dX6_nextPhase_92 rfl rfl ?_
              refine x_bipush (pc := 93) 38 dX6_nextPhase_93 rfl ?_
              refine x_icmp_ne (pc := 95) 100 dX6_nextPhase_95 (by decide) (fun _ => ?_) (fun _ => ?_)
              ·
                refine x_iload_n (pc := 100) 1 dX6_nextPhase_100 rfl rfl ?_
                refine x_bipush (pc := 101) 62 dX6_nextPhase_101 rfl ?_
                refine x_icmp_ne (pc := 103) 108 dX6_nextPhase_103 (by decide) (fun _ => ?_) (fun _ => ?_)
                ·
                  refine x_iload_n (pc := 108) 1 dX6_nextPhase_108 rfl rfl ?_
                  refine x_callSNr (pc := 109) (as := [aI v1]) (rest := []) (fun l => c_11_isDigit l q v1 σ) md_X11_isDigit tk_831 (host := RX11) (by decide +kernel) dX6_nextPhase_109 rfl ⟨by decide, by decide, by decide, by decide⟩ ⟨fun h => h, fun h => Or.inl h⟩ rfl (Nat.le_of_ble_eq_true rfl) (fun r12 => ?_)
                  show X E _ _ _ _ 0 0 _ _ _ [aI r12] _
                  refine x_if_eq (pc := 112) 119 dX6_nextPhase_112 (by decide) (fun _ => ?_) (fun _ => ?_)
                  ·
                    refine x_bipush (pc := 119) 7 dX6_nextPhase_119 rfl ?_
                    exact x_iret (rm := r6_nextPhase) rfl rfl dX6_nextPhase_121
                  ·
                    refine x_iconst (pc := 115) 4 dX6_nextPhase_115 rfl ?_
                    refine x_goto (pc := 116) 121 dX6_nextPhase_116 (by decide) ?_
                    exact x_iret (rm := r6_nextPhase) rfl rfl dX6_nextPhase_121
                ·
                  refine x_iconst (pc := 106) 5 dX6_nextPhase_106 rfl ?_
                  exact x_iret (rm := r6_nextPhase) rfl rfl dX6_nextPhase_107
              ·
                refine x_iconst (pc := 98) 1 dX6_nextPhase_98 rfl ?_
                exact x_iret (rm := r6_nextPhase) rfl rfl dX6_nextPhase_99
            ·
              refine x_ite (fun hc13 => ?_) (fun hc13 => ?_)
              ·
                obtain rfl : tg1 = 122 := zsw_at hc13 ht2 (by decide)
                refine x_ldcS (pc := 122) 2 dX6_nextPhase_122 rfl ?_
                refine x_iload_n (pc := 124) 1 dX6_nextPhase_124 rfl rfl ?_
                refine x_bipush (pc := 125) 6 dX6_nextPhase_125 rfl ?_
                refine x_callSr (pc := 127) (as := [aR 15 (some 2), aI v1, aI 6]) (rest := []) (fun l => c_6_nextPhaseIf l q 2 v1 6 σ) md_X6_nextPhaseIf tk_838 tk_837 dX6_nextPhase_127 rfl ⟨by decide, by decide, by decide, by decide⟩ ⟨fun h => h, fun h => Or.inl h⟩ rfl (Nat.le_of_ble_eq_true rfl) (fun r14 => ?_)
                show X E _ _ _ _ 0 0 _ _ _ [aI r14] _
                exact x_iret (rm := r6_nextPhase) rfl rfl dX6_nextPhase_130
              ·
                refine x_ite (fun hc15 => ?_) (fun hc15 => ?_)
                ·
                  obtain rfl : tg1 = 131 := zsw_at hc15 ht2 (by decide)
                  refine x_iload_n (pc := 131) 1 dX6_nextPhase_131 rfl rfl ?_
                  refine x_bipush (pc := 132) 59 dX6_nextPhase_132 rfl ?_
                  refine x_icmp_ne (pc := 134) 139 dX6_nextPhase_134 (by decide) (fun _ => ?_) (fun _ => ?_)
                  ·
                    refine x_iload_n (pc := 139) 1 dX6_nextPhase_139 rfl rfl ?_
                    refine x_callSNr (pc := 140) (as := [aI v1]) (rest := []) (fun l => c_11_isDigit l q v1 σ) md_X11_isDigit tk_831 (host := RX11) (by decide +kernel) dX6_nextPhase_140 rfl ⟨by decide, by decide, by decide, by decide⟩ ⟨fun h => h, fun h => Or.inl h⟩ rfl (Nat.le_of_ble_eq_true rfl) (fun r16 => ?_)
                    show X E _ _ _ _ 0 0 _ _ _ [aI r16] _
                    refine x_if_eq (pc := 143) 151 dX6_nextPhase_143 (by decide) (fun _ => ?_) (fun _ => ?_)
                    ·
                      refine x_bipush (pc := 151) 7 dX6_nextPhase_151 rfl ?_
                      exact x_iret (rm := r6_nextPhase) rfl rfl dX6_nextPhase_153
                    ·
                      refine x_bipush (pc := 146) 6 dX6_nextPhase_146 rfl ?_
                      refine x_goto (pc := 148) 153 dX6_nextPhase_148 (by decide) ?_
                      exact x_iret (rm := r6_nextPhase) rfl rfl dX6_nextPhase_153
                  ·
                    refine x_iconst (pc := 137) 0 dX6_nextPhase_137 rfl ?_
                    exact x_iret (rm := r6_nextPhase) rfl rfl dX6_nextPhase_138
                ·
                  obtain rfl : tg1 = 154 := zswd_at (cs := [0, 1, 2, 3, 4, 5, 6]) ht2 (by decide) (by simp only [List.mem_cons, List.not_mem_nil, or_false, not_or]; exact ⟨hc3, hc5, hc7, hc9, hc11, hc13, hc15⟩) (by decide)
                  refine x_bipush (pc := 154) 7 dX6_nextPhase_154 rfl ?_
                  exact x_iret (rm := r6_nextPhase) rfl rfl dX6_nextPhase_156
  · exact ztoff_pos (by decide) (by decide) x
theorem c_6_nextPhase (l : Launch)  (q : Bool) (v0 : Int32) (v1 : Int32) (σ : zSt) : zMet l yX6_nextPhase cX6_nextPhase 2 (some .int) r6_nextPhase q eI [aI v0, aI v1] σ (zro (f6_nextPhase v0 v1 σ) σ) :=
  zMet_ofR [(0, aI v0), (1, aI v1)] (by decide +kernel) (fun h => by cases h) (Nat.le_of_ble_eq_true rfl) rfl fun E _ => x6_nextPhase E  q v0 v1 σ
abbrev r6_faultIn : Room := { frames := 9, cells := 0, slots := 0, locals := 264 }
abbrev m6_faultIn : zMu := (RX6, 6, (some .int), r6_faultIn, false)
set_option maxRecDepth 20000 in
theorem xl6_faultIn_7 (E : zEn)  (q : Bool) (h0 : Nat) (h1 : Int32) (σ : zSt) {K79 : Int32 → Option Int32} (hK79 : ∀ (v2 : Int32), X E cX6_faultIn m6_faultIn q (zQr E q eI r6_faultIn σ) 0 0 σ [(1, aI h1), (2, aI v2)] 79 [] (K79 v2)) : ∀ (n : Nat) (v2 : Int32) (v3 : Int32) (v4 : Int32), X E cX6_faultIn m6_faultIn q (zQr E q eI r6_faultIn σ) 0 0 σ [(0, aR 1210 (some h0)), (1, aI h1), (2, aI v2), (3, aI v3), (4, aI v4)] 7 [] (f6_faultIn_L7 h0 h1 σ K79 n v2 v3 v4) := by
  intro n
  induction n with
  | zero => intros; exact x_none
  | succ n ih =>
    intro v2 v3 v4
    rw [f6_faultIn_L7]
    refine x_iload (pc := 7) 4 dX6_faultIn_7 rfl ?_
    refine x_iload_n (pc := 9) 1 dX6_faultIn_9 rfl rfl ?_
    refine x_icmp_ge (pc := 10) 79 dX6_faultIn_10 (by decide) (fun _ => ?_) (fun _ => ?_)
    ·
      exact x_sub [1, 2] rfl (hK79 v2)
    ·
      refine x_iload (pc := 13) 4 dX6_faultIn_13 rfl ?_
      refine x_aload_n (pc := 15) 0 dX6_faultIn_15 rfl rfl ?_
      refine x_alen (pc := 16) ar_1210 (by decide) dX6_faultIn_16 ?_
      refine x_icmp_ge (pc := 17) 79 dX6_faultIn_17 (by decide) (fun _ => ?_) (fun _ => ?_)
      ·
        exact x_sub [1, 2] rfl (hK79 v2)
      ·
        refine x_aload_n (pc := 20) 0 dX6_faultIn_20 rfl rfl ?_
        refine x_iload (pc := 21) 4 dX6_faultIn_21 rfl ?_
        refine x_iald (pc := 23) ar_1210 dX6_faultIn_23 (fun m1 => ?_)
        refine x_callSNr (pc := 24) (as := [aI (gI σ 1210 h0 m1)]) (rest := []) (fun l => c_11_isDigit l q (gI σ 1210 h0 m1) σ) md_X11_isDigit tk_831 (host := RX11) (by decide +kernel) dX6_faultIn_24 rfl ⟨by decide, by decide, by decide, by decide⟩ ⟨fun h => h, fun h => Or.inl h⟩ rfl (Nat.le_of_ble_eq_true rfl) (fun r2 => ?_)
        show X E _ _ _ _ 0 0 _ _ _ [aI r2] _
        refine x_istore (pc := 27) (als' := [(5, aI r2), (0, aR 1210 (some h0)), (1, aI h1), (2, aI v2), (3, aI v3), (4, aI v4)]) 5 dX6_faultIn_27 (by decide) rfl ?_
        refine x_iload (pc := 29) 5 dX6_faultIn_29 rfl ?_
        refine x_join (P := fun (j3 : Option Int32) => X E cX6_faultIn m6_faultIn q (zQr E q eI r6_faultIn σ) 0 0 σ [(0, aR 1210 (some h0)), (1, aI h1), (2, aI v2), (3, aI v3), (4, aI v4), (5, aI r2)] 42 [] j3) ?_ ?_
        ·
          refine x_iload_n (pc := 42) 2 dX6_faultIn_42 rfl rfl ?_
          refine x_aload_n (pc := 43) 0 dX6_faultIn_43 rfl rfl ?_
          refine x_iload (pc := 44) 4 dX6_faultIn_44 rfl ?_
          refine x_iald (pc := 46) ar_1210 dX6_faultIn_46 (fun m5 => ?_)
          refine x_callSr (pc := 47) (as := [aI v2, aI (gI σ 1210 h0 m5)]) (rest := []) (fun l => c_6_nextPhase l q v2 (gI σ 1210 h0 m5) σ) md_X6_nextPhase tk_834 tk_833 dX6_faultIn_47 rfl ⟨by decide, by decide, by decide, by decide⟩ ⟨fun h => h, fun h => Or.inl h⟩ rfl (Nat.le_of_ble_eq_true rfl) (fun r6 => ?_)
          show X E _ _ _ _ 0 0 _ _ _ [aI r6] _
          refine x_istore_n (pc := 50) (als' := [(2, aI r6), (0, aR 1210 (some h0)), (1, aI h1), (3, aI v3), (4, aI v4), (5, aI r2)]) 2 dX6_faultIn_50 rfl (by decide) rfl ?_
          refine x_iload_n (pc := 51) 2 dX6_faultIn_51 rfl rfl ?_
          refine x_bipush (pc := 52) 7 dX6_faultIn_52 rfl ?_
          refine x_icmp_ne (pc := 54) 60 dX6_faultIn_54 (by decide) (fun _ => ?_) (fun _ => ?_)
          ·
            refine x_iload (pc := 60) 5 dX6_faultIn_60 rfl ?_
            refine x_mg (c := r2 = 0) (a := 0) (b := (v3 + 1)) 72 [] ?_ (fun hm7 => ?_)
            ·
              refine x_nameI (fun x11 => ?_)
              refine x_istore_n (pc := 72) (als' := [(3, aI x11), (2, aI r6), (0, aR 1210 (some h0)), (1, aI h1), (4, aI v4), (5, aI r2)]) 3 dX6_faultIn_72 rfl (by decide) rfl ?_
              refine x_iinc (pc := 73) (als' := [(4, aI (v4 + 1)), (3, aI x11), (2, aI r6), (0, aR 1210 (some h0)), (1, aI h1), (5, aI r2)]) 4 4 (c := 1) dX6_faultIn_73 rfl rfl (by decide) rfl ?_
              refine x_nameV (g := fun y13 => [(4, aI y13), (3, aI x11), (2, aI r6), (0, aR 1210 (some h0)), (1, aI h1), (5, aI r2)]) (fun x12 => ?_) rfl
              refine x_goto (pc := 76) 7 dX6_faultIn_76 (by decide) ?_
              exact x_sub [3, 4, 2, 1, 0] rfl (ih r6 x11 x12)
            ·
              refine x_same (c := r2 = 0) ?_
              refine x_if_eq (pc := 62) 71 dX6_faultIn_62 (by decide) (fun hc8 => ?_) (fun hc8 => ?_)
              ·
                have hm9 := x_topT hc8 hm7
                refine x_iconst (pc := 71) 0 dX6_faultIn_71 rfl ?_
                exact hm9
              ·
                have hm10 := x_topF hc8 hm7
                refine x_iload_n (pc := 65) 3 dX6_faultIn_65 rfl rfl ?_
                refine x_iconst (pc := 66) 1 dX6_faultIn_66 rfl ?_
                refine x_iadd (pc := 67) dX6_faultIn_67 ?_
                refine x_goto (pc := 68) 72 dX6_faultIn_68 (by decide) ?_
                exact hm10
          ·
            refine x_iload (pc := 57) 4 dX6_faultIn_57 rfl ?_
            exact x_iret (rm := r6_faultIn) rfl rfl dX6_faultIn_59
        · intro j3 hj4
          refine x_if_eq (pc := 31) 42 dX6_faultIn_31 (by decide) (fun _ => ?_) (fun _ => ?_)
          ·
            exact x_sub [1, 2, 3, 4, 5, 0] rfl (hj4)
          ·
            refine x_iload_n (pc := 34) 3 dX6_faultIn_34 rfl rfl ?_
            refine x_iconst (pc := 35) 4 dX6_faultIn_35 rfl ?_
            refine x_icmp_lt (pc := 36) 42 dX6_faultIn_36 (by decide) (fun _ => ?_) (fun _ => ?_)
            ·
              exact x_sub [1, 2, 3, 4, 5, 0] rfl (hj4)
            ·
              refine x_iload (pc := 39) 4 dX6_faultIn_39 rfl ?_
              exact x_iret (rm := r6_faultIn) rfl rfl dX6_faultIn_41
set_option maxRecDepth 20000 in
theorem x6_faultIn (E : zEn)  (q : Bool) (h0 : Nat) (v1 : Int32) (σ : zSt) : X E cX6_faultIn m6_faultIn q (zQr E q eI r6_faultIn σ) 0 0 σ [(0, aR 1210 (some h0)), (1, aI v1)] 0 [] (f6_faultIn h0 v1 σ) := by
  unfold f6_faultIn
  refine x_iconst (pc := 0) 0 dX6_faultIn_0 rfl ?_
  refine x_istore_n (pc := 1) (als' := [(2, aI 0), (0, aR 1210 (some h0)), (1, aI v1)]) 2 dX6_faultIn_1 rfl (by decide) rfl ?_
  refine x_iconst (pc := 2) 0 dX6_faultIn_2 rfl ?_
  refine x_istore_n (pc := 3) (als' := [(3, aI 0), (2, aI 0), (0, aR 1210 (some h0)), (1, aI v1)]) 3 dX6_faultIn_3 rfl (by decide) rfl ?_
  refine x_iconst (pc := 4) 0 dX6_faultIn_4 rfl ?_
  refine x_istore (pc := 5) (als' := [(4, aI 0), (3, aI 0), (2, aI 0), (0, aR 1210 (some h0)), (1, aI v1)]) 4 dX6_faultIn_5 (by decide) rfl ?_
  refine x_sub [3, 4, 2, 1, 0] rfl (xl6_faultIn_7 E q h0 v1 σ (fun a14 => ?_) zfuel 0 0 0)
  ·
    refine x_iload_n (pc := 79) 1 dX6_faultIn_79 rfl rfl ?_
    refine x_join (P := fun (j15 : Option Int32) => X E cX6_faultIn m6_faultIn q (zQr E q eI r6_faultIn σ) 0 0 σ [(1, aI v1)] 91 [] j15) ?_ ?_
    ·
      refine x_iload_n (pc := 91) 1 dX6_faultIn_91 rfl rfl ?_
      exact x_iret (rm := r6_faultIn) rfl rfl dX6_faultIn_92
    · intro j15 hj16
      refine x_if_le (pc := 80) 91 dX6_faultIn_80 (by decide) (fun _ => ?_) (fun _ => ?_)
      ·
        exact x_sub [0] rfl (hj16)
      ·
        refine x_iload_n (pc := 83) 2 dX6_faultIn_83 rfl rfl ?_
        refine x_if_ne (pc := 84) 91 dX6_faultIn_84 (by decide) (fun _ => ?_) (fun _ => ?_)
        ·
          exact x_sub [0] rfl (hj16)
        ·
          refine x_iconst (pc := 87) (-1) dX6_faultIn_87 rfl ?_
          refine x_goto (pc := 88) 92 dX6_faultIn_88 (by decide) ?_
          exact x_iret (rm := r6_faultIn) rfl rfl dX6_faultIn_92
theorem c_6_faultIn (l : Launch)  (q : Bool) (h0 : Nat) (v1 : Int32) (σ : zSt) : zMet l yX6_faultIn cX6_faultIn 6 (some .int) r6_faultIn q eI [aR 1210 (some h0), aI v1] σ (zro (f6_faultIn h0 v1 σ) σ) :=
  zMet_ofR [(0, aR 1210 (some h0)), (1, aI v1)] (by decide +kernel) (fun h => by cases h) (Nat.le_of_ble_eq_true rfl) rfl fun E _ => x6_faultIn E  q h0 v1 σ
abbrev r6_set : Room := { frames := 0, cells := 0, slots := 0, locals := 0 }
abbrev m6_set : zMu := (RX6, 5, none, r6_set, false)
set_option maxRecDepth 20000 in
theorem x6_set (E : zEn)  (q : Bool) (v1 : Int32) (v2 : Int32) (v3 : Int32) (v4 : Int32) (σ : zSt) : X E cX6_set m6_set q (zQw E q eV r6_set) 0 0 σ [(0, aR 6 (some 0)), (1, aI v1), (2, aI v2), (3, aI v3), (4, aI v4)] 0 [] (f6_set v1 v2 v3 v4 σ) := by
  unfold f6_set
  refine x_aload_n (pc := 0) 0 dX6_set_0 rfl rfl ?_
  refine x_iload_n (pc := 1) 1 dX6_set_1 rfl rfl ?_
  refine x_putI (pc := 2) fd_6_1 pt_6_1 tk_61 dX6_set_2 (Or.inl rfl) ?_
  refine x_nameS (fun s1 => ?_)
  refine x_aload_n (pc := 5) 0 dX6_set_5 rfl rfl ?_
  refine x_iload_n (pc := 6) 2 dX6_set_6 rfl rfl ?_
  refine x_putI (pc := 7) fd_6_2 pt_6_2 tk_63 dX6_set_7 (Or.inl rfl) ?_
  refine x_nameS (fun s2 => ?_)
  refine x_aload_n (pc := 10) 0 dX6_set_10 rfl rfl ?_
  refine x_iload_n (pc := 11) 3 dX6_set_11 rfl rfl ?_
  refine x_putI (pc := 12) fd_6_3 pt_6_3 tk_65 dX6_set_12 (Or.inl rfl) ?_
  refine x_nameS (fun s3 => ?_)
  refine x_aload_n (pc := 15) 0 dX6_set_15 rfl rfl ?_
  refine x_iload (pc := 16) 4 dX6_set_16 rfl ?_
  refine x_putI (pc := 18) fd_6_4 pt_6_4 tk_67 dX6_set_18 (Or.inl rfl) ?_
  refine x_nameS (fun s4 => ?_)
  exact x_vret (rm := r6_set) rfl rfl dX6_set_21
theorem c_6_set (l : Launch)  (q : Bool) (v1 : Int32) (v2 : Int32) (v3 : Int32) (v4 : Int32) (σ : zSt) : zMet l yX6_set cX6_set 5 none r6_set q eV [aR 6 (some 0), aI v1, aI v2, aI v3, aI v4] σ (f6_set v1 v2 v3 v4 σ) :=
  zMet_of [(0, aR 6 (some 0)), (1, aI v1), (2, aI v2), (3, aI v3), (4, aI v4)] (by decide +kernel) (fun h => by cases h) (Nat.le_of_ble_eq_true rfl) rfl fun E _ => x6_set E  q v1 v2 v3 v4 σ
