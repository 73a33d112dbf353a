abbrev r11_isDay : Room := { frames := 1, cells := 0, slots := 0, locals := 21 }
abbrev m11_isDay : zMu := (RX11, 1, (some .boolean), r11_isDay, false)
set_option maxRecDepth 20000 in
theorem x11_isDay (E : zEn)  (q : Bool) (v0 : Int32) (σ : zSt) : X E cX11_isDay m11_isDay q (zQr E q eI r11_isDay σ) 0 0 σ [(0, aI v0)] 0 [] (f11_isDay v0 σ) := by
  unfold f11_isDay
  refine x_iload_n (pc := 0) 0 dX11_isDay_0 rfl rfl ?_
  refine x_sipush (pc := 1) 10000 dX11_isDay_1 rfl ?_
  refine x_callSr (pc := 4) (as := [aI v0, aI 10000]) (rest := []) (fun l => c_11_isIn l q v0 10000 σ) md_X11_isIn tk_219 tk_218 dX11_isDay_4 rfl ⟨by decide, by decide, by decide, by decide⟩ ⟨fun h => h, fun h => Or.inl h⟩ rfl (Nat.le_of_ble_eq_true rfl) (fun r1 => ?_)
  show X E _ _ _ _ 0 0 _ _ _ [aI r1] _
  exact x_zret (rm := r11_isDay) rfl rfl dX11_isDay_7
theorem c_11_isDay (l : Launch)  (q : Bool) (v0 : Int32) (σ : zSt) : zMet l yX11_isDay cX11_isDay 1 (some .boolean) r11_isDay q eI [aI v0] σ (zro (f11_isDay v0 σ) σ) :=
  zMet_ofR [(0, aI v0)] (by decide +kernel) (fun h => by cases h) (Nat.le_of_ble_eq_true rfl) rfl fun E _ => x11_isDay E  q v0 σ
abbrev r11_state : Room := { frames := 2, cells := 0, slots := 0, locals := 42 }
abbrev m11_state : zMu := (RX11, 4, (some .int), r11_state, false)
set_option maxRecDepth 20000 in
theorem x11_state (E : zEn)  (v1 : Int32) (v2 : Int32) (σ : zSt) : X E cX11_state m11_state true (zQr E true eI r11_state σ) 0 0 σ [(0, aR 11 (some 0)), (1, aI v1), (2, aI v2)] 0 [] (f11_state v1 v2 σ) := by
  unfold f11_state
  refine x_aload_n (pc := 0) 0 dX11_state_0 rfl rfl ?_
  refine x_iload_n (pc := 1) 1 dX11_state_1 rfl rfl ?_
  refine x_callVr (pc := 2) (as := [aI v1]) (rest := []) (fun l => c_11_faultAt l v1 σ) md_X11_faultAt ⟨_, _, rfl, by decide⟩ tk_521 tp_8 tk_519 dX11_state_2 rfl ⟨by decide, by decide, by decide, by decide⟩ ⟨fun _ => rfl, fun _ => Or.inl rfl⟩ rfl (Nat.le_of_ble_eq_true rfl) (fun o2 => ?_)
  show X E _ _ _ _ 0 0 _ _ _ [aR 1 o2] _
  refine x_astore_n (pc := 5) (als' := [(3, aR 1 o2), (0, aR 11 (some 0)), (1, aI v1), (2, aI v2)]) 3 dX11_state_5 rfl (by decide) rfl ?_
  refine x_aload_n (pc := 6) 3 dX11_state_6 rfl rfl ?_
  rcases o2 with _ | i3
  ·
    refine x_ifnullN (pc := 7) 17 dX11_state_7 (by decide) ?_
    refine x_iconst (pc := 17) (-1) dX11_state_17 rfl ?_
    exact x_iret (rm := r11_state) rfl rfl dX11_state_18
  ·
    refine x_ifnullS (pc := 7) dX11_state_7 ?_
    refine x_iload_n (pc := 10) 2 dX11_state_10 rfl rfl ?_
    refine x_callSr (pc := 11) (as := [aI v2]) (rest := []) (fun l => c_11_isDay l true v2 σ) md_X11_isDay tk_576 tk_575 dX11_state_11 rfl ⟨by decide, by decide, by decide, by decide⟩ ⟨fun _ => rfl, fun _ => Or.inl rfl⟩ rfl (Nat.le_of_ble_eq_true rfl) (fun r4 => ?_)
    show X E _ _ _ _ 0 0 _ _ _ [aI r4] _
    refine x_if_ne (pc := 14) 19 dX11_state_14 (by decide) (fun _ => ?_) (fun _ => ?_)
    ·
      refine x_aload_n (pc := 19) 3 dX11_state_19 rfl rfl ?_
      refine x_getF (pc := 20) (j := i3) fd_1_7 rfl rfl tk_446 dX11_state_20 ?_
      refine x_iload_n (pc := 23) 2 dX11_state_23 rfl rfl ?_
      refine x_callVr (pc := 24) (as := [aI v2]) (rest := []) (fun l => c_4_onDay l i3 v2 σ) md_X4_onDay ⟨_, _, rfl, by decide⟩ tk_326 tk_327 tk_578 dX11_state_24 rfl ⟨by decide, by decide, by decide, by decide⟩ ⟨fun _ => rfl, fun _ => Or.inl rfl⟩ rfl (Nat.le_of_ble_eq_true rfl) (fun r5 => ?_)
      show X E _ _ _ _ 0 0 _ _ _ [aI r5] _
      exact x_iret (rm := r11_state) rfl rfl dX11_state_27
    ·
      refine x_iconst (pc := 17) (-1) dX11_state_17 rfl ?_
      exact x_iret (rm := r11_state) rfl rfl dX11_state_18
theorem c_11_state (l : Launch)  (v1 : Int32) (v2 : Int32) (σ : zSt) : zMet l yX11_state cX11_state 4 (some .int) r11_state true eI [aR 11 (some 0), aI v1, aI v2] σ (zro (f11_state v1 v2 σ) σ) :=
  zMet_ofR [(0, aR 11 (some 0)), (1, aI v1), (2, aI v2)] (by decide +kernel) (fun h => by cases h) (Nat.le_of_ble_eq_true rfl) rfl fun E _ => x11_state E  v1 v2 σ
abbrev r11_homeNumber : Room := { frames := 0, cells := 0, slots := 0, locals := 0 }
abbrev m11_homeNumber : zMu := (RX11, 3, (some .int), r11_homeNumber, false)
set_option maxRecDepth 20000 in
theorem xl11_homeNumber_2 (E : zEn)   (h1 : Nat) (σ : zSt)   : ∀ (n : Nat) (v2 : Int32), X E cX11_homeNumber m11_homeNumber true (zQr E true eI r11_homeNumber σ) 0 0 σ [(0, aR 11 (some 0)), (1, aR 5 (some h1)), (2, aI v2)] 2 [] (f11_homeNumber_L2 h1 σ n v2) := by
  intro n
  induction n with
  | zero => intros; exact x_none
  | succ n ih =>
    intro v2
    rw [f11_homeNumber_L2]
    refine x_iload_n (pc := 2) 2 dX11_homeNumber_2 rfl rfl ?_
    refine x_aload_n (pc := 3) 0 dX11_homeNumber_3 rfl rfl ?_
    refine x_getI (pc := 4) fd_11_1 tk_153 dX11_homeNumber_4 ?_
    refine x_icmp_ge (pc := 7) 28 dX11_homeNumber_7 (by decide) (fun _ => ?_) (fun _ => ?_)
    ·
      refine x_iconst (pc := 28) (-1) dX11_homeNumber_28 rfl ?_
      exact x_iret (rm := r11_homeNumber) rfl rfl dX11_homeNumber_29
    ·
      refine x_aload_n (pc := 10) 0 dX11_homeNumber_10 rfl rfl ?_
      refine x_getF (pc := 11) (j := 0) fd_11_0 rfl rfl tk_152 dX11_homeNumber_11 ?_
      refine x_iload_n (pc := 14) 2 dX11_homeNumber_14 rfl rfl ?_
      refine x_aald (pc := 15) (g0 := 5) ar_1200 (by decide) rfl dX11_homeNumber_15 (fun m1 => ?_)
      refine x_nameR (fun o2 => ?_)
      refine x_aload_n (pc := 16) 1 dX11_homeNumber_16 rfl rfl ?_
      refine x_acmp_ne (pc := 17) 22 (by decide) dX11_homeNumber_17 (by decide) (fun _ => ?_) (fun _ => ?_)
      ·
        refine x_iinc (pc := 22) (als' := [(2, aI (v2 + 1)), (0, aR 11 (some 0)), (1, aR 5 (some h1))]) 2 2 (c := 1) dX11_homeNumber_22 rfl rfl (by decide) rfl ?_
        refine x_nameV (g := fun y4 => [(2, aI y4), (0, aR 11 (some 0)), (1, aR 5 (some h1))]) (fun x3 => ?_) rfl
        refine x_goto (pc := 25) 2 dX11_homeNumber_25 (by decide) ?_
        exact x_sub [1, 2, 0] rfl (ih x3)
      ·
        refine x_iload_n (pc := 20) 2 dX11_homeNumber_20 rfl rfl ?_
        exact x_iret (rm := r11_homeNumber) rfl rfl dX11_homeNumber_21
set_option maxRecDepth 20000 in
theorem x11_homeNumber (E : zEn)  (h1 : Nat) (σ : zSt) : X E cX11_homeNumber m11_homeNumber true (zQr E true eI r11_homeNumber σ) 0 0 σ [(0, aR 11 (some 0)), (1, aR 5 (some h1))] 0 [] (f11_homeNumber h1 σ) := by
  unfold f11_homeNumber
  refine x_iconst (pc := 0) 0 dX11_homeNumber_0 rfl ?_
  refine x_istore_n (pc := 1) (als' := [(2, aI 0), (0, aR 11 (some 0)), (1, aR 5 (some h1))]) 2 dX11_homeNumber_1 rfl (by decide) rfl ?_
  refine x_sub [1, 2, 0] rfl (xl11_homeNumber_2 E h1 σ zfuel 0)
theorem c_11_homeNumber (l : Launch)  (h1 : Nat) (σ : zSt) : zMet l yX11_homeNumber cX11_homeNumber 3 (some .int) r11_homeNumber true eI [aR 11 (some 0), aR 5 (some h1)] σ (zro (f11_homeNumber h1 σ) σ) :=
  zMet_ofR [(0, aR 11 (some 0)), (1, aR 5 (some h1))] (by decide +kernel) (fun h => by cases h) (Nat.le_of_ble_eq_true rfl) rfl fun E _ => x11_homeNumber E  h1 σ
abbrev r11_ofFault : Room := { frames := 3, cells := 0, slots := 0, locals := 62 }
abbrev m11_ofFault : zMu := (RX11, 4, (some .int), r11_ofFault, false)
set_option maxRecDepth 20000 in
theorem x11_ofFault (E : zEn)  (v1 : Int32) (v2 : Int32) (σ : zSt) : X E cX11_ofFault m11_ofFault true (zQr E true eI r11_ofFault σ) 0 0 σ [(0, aR 11 (some 0)), (1, aI v1), (2, aI v2)] 0 [] (f11_ofFault v1 v2 σ) := by
  unfold f11_ofFault
  refine x_aload_n (pc := 0) 0 dX11_ofFault_0 rfl rfl ?_
  refine x_iload_n (pc := 1) 1 dX11_ofFault_1 rfl rfl ?_
  refine x_callVr (pc := 2) (as := [aI v1]) (rest := []) (fun l => c_11_faultAt l v1 σ) md_X11_faultAt ⟨_, _, rfl, by decide⟩ tk_521 tp_8 tk_519 dX11_ofFault_2 rfl ⟨by decide, by decide, by decide, by decide⟩ ⟨fun _ => rfl, fun _ => Or.inl rfl⟩ rfl (Nat.le_of_ble_eq_true rfl) (fun o2 => ?_)
  show X E _ _ _ _ 0 0 _ _ _ [aR 1 o2] _
  refine x_astore_n (pc := 5) (als' := [(3, aR 1 o2), (0, aR 11 (some 0)), (1, aI v1), (2, aI v2)]) 3 dX11_ofFault_5 rfl (by decide) rfl ?_
  refine x_aload_n (pc := 6) 3 dX11_ofFault_6 rfl rfl ?_
  rcases o2 with _ | i3
  ·
    refine x_ifnonnullN (pc := 7) dX11_ofFault_7 ?_
    refine x_iconst (pc := 10) (-1) dX11_ofFault_10 rfl ?_
    exact x_iret (rm := r11_ofFault) rfl rfl dX11_ofFault_11
  ·
    refine x_ifnonnullS (pc := 7) 12 dX11_ofFault_7 (by decide) ?_
    refine x_iload_n (pc := 12) 2 dX11_ofFault_12 rfl rfl ?_
    refine x_table (pc := 13) dX11_ofFault_13 (by decide) (fun tg4 ht5 => ?_) (fun x => ?_)
    ·
      refine x_ite (fun hc6 => ?_) (fun hc6 => ?_)
      ·
        obtain rfl : tg4 = 84 := zsw_at hc6 ht5 (by decide)
        refine x_aload_n (pc := 84) 0 dX11_ofFault_84 rfl rfl ?_
        refine x_aload_n (pc := 85) 3 dX11_ofFault_85 rfl rfl ?_
        refine x_getR (pc := 86) fd_1_1 tk_432 dX11_ofFault_86 ?_
        refine x_nameR (fun o7 => ?_)
        rcases o7 with _ | i8
        · exact x_none
        ·
          skip
          refine x_zocS ?_
          refine x_callVr (pc := 89) (as := [aR 5 (some i8)]) (rest := []) (fun l => c_11_homeNumber l i8 σ) md_X11_homeNumber ⟨_, _, rfl, by decide⟩ tk_585 tp_9 tk_583 dX11_ofFault_89 rfl ⟨by decide, by decide, by decide, by decide⟩ ⟨fun _ => rfl, fun _ => Or.inl rfl⟩ rfl (Nat.le_of_ble_eq_true rfl) (fun r9 => ?_)
          show X E _ _ _ _ 0 0 _ _ _ [aI r9] _
          exact x_iret (rm := r11_ofFault) rfl rfl dX11_ofFault_92
      ·
        refine x_ite (fun hc10 => ?_) (fun hc10 => ?_)
        ·
          obtain rfl : tg4 = 93 := zsw_at hc10 ht5 (by decide)
          refine x_aload_n (pc := 93) 3 dX11_ofFault_93 rfl rfl ?_
          refine x_getI (pc := 94) fd_1_2 tk_434 dX11_ofFault_94 ?_
          exact x_iret (rm := r11_ofFault) rfl rfl dX11_ofFault_97
        ·
          refine x_ite (fun hc11 => ?_) (fun hc11 => ?_)
          ·
            obtain rfl : tg4 = 98 := zsw_at hc11 ht5 (by decide)
            refine x_aload_n (pc := 98) 3 dX11_ofFault_98 rfl rfl ?_
            refine x_getI (pc := 99) fd_1_3 tk_436 dX11_ofFault_99 ?_
            exact x_iret (rm := r11_ofFault) rfl rfl dX11_ofFault_102
          ·
            refine x_ite (fun hc12 => ?_) (fun hc12 => ?_)
            ·
              obtain rfl : tg4 = 103 := zsw_at hc12 ht5 (by decide)
              refine x_aload_n (pc := 103) 3 dX11_ofFault_103 rfl rfl ?_
              refine x_getI (pc := 104) fd_1_5 tk_442 dX11_ofFault_104 ?_
              exact x_iret (rm := r11_ofFault) rfl rfl dX11_ofFault_107
            ·
              refine x_ite (fun hc13 => ?_) (fun hc13 => ?_)
              ·
                obtain rfl : tg4 = 108 := zsw_at hc13 ht5 (by decide)
                refine x_aload_n (pc := 108) 3 dX11_ofFault_108 rfl rfl ?_
                refine x_getI (pc := 109) fd_1_9 tk_450 dX11_ofFault_109 ?_
                exact x_iret (rm := r11_ofFault) rfl rfl dX11_ofFault_112
              ·
                refine x_ite (fun hc14 => ?_) (fun hc14 => ?_)
                ·
                  obtain rfl : tg4 = 113 := zsw_at hc14 ht5 (by decide)
                  refine x_aload_n (pc := 113) 3 dX11_ofFault_113 rfl rfl ?_
                  refine x_getI (pc := 114) fd_1_6 tk_444 dX11_ofFault_114 ?_
                  exact x_iret (rm := r11_ofFault) rfl rfl dX11_ofFault_117
                ·
                  refine x_ite (fun hc15 => ?_) (fun hc15 => ?_)
                  ·
                    obtain rfl : tg4 = 118 := zsw_at hc15 ht5 (by decide)
                    refine x_aload_n (pc := 118) 3 dX11_ofFault_118 rfl rfl ?_
                    refine x_getI (pc := 119) fd_1_10 tk_452 dX11_ofFault_119 ?_
                    refine x_if_eq (pc := 122) 129 dX11_ofFault_122 (by decide) (fun _ => ?_) (fun _ => ?_)
                    ·
                      refine x_iconst (pc := 129) 0 dX11_ofFault_129 rfl ?_
                      exact x_iret (rm := r11_ofFault) rfl rfl dX11_ofFault_130
                    ·
                      refine x_iconst (pc := 125) 1 dX11_ofFault_125 rfl ?_
                      refine x_goto (pc := 126) 130 dX11_ofFault_126 (by decide) ?_
                      exact x_iret (rm := r11_ofFault) rfl rfl dX11_ofFault_130
                  ·
                    refine x_ite (fun hc16 => ?_) (fun hc16 => ?_)
                    ·
                      obtain rfl : tg4 = 131 := zsw_at hc16 ht5 (by decide)
                      refine x_aload_n (pc := 131) 3 dX11_ofFault_131 rfl rfl ?_
                      refine x_getI (pc := 132) fd_1_11 tk_454 dX11_ofFault_132 ?_
                      refine x_if_eq (pc := 135) 142 dX11_ofFault_135 (by decide) (fun _ => ?_) (fun _ => ?_)
                      ·
                        refine x_iconst (pc := 142) 0 dX11_ofFault_142 rfl ?_
                        exact x_iret (rm := r11_ofFault) rfl rfl dX11_ofFault_143
                      ·
                        refine x_iconst (pc := 138) 1 dX11_ofFault_138 rfl ?_
                        refine x_goto (pc := 139) 143 dX11_ofFault_139 (by decide) ?_
                        exact x_iret (rm := r11_ofFault) rfl rfl dX11_ofFault_143
                    ·
                      refine x_ite (fun hc17 => ?_) (fun hc17 => ?_)
                      ·
                        obtain rfl : tg4 = 144 := zsw_at hc17 ht5 (by decide)
                        refine x_aload_n (pc := 144) 3 dX11_ofFault_144 rfl rfl ?_
                        refine x_callVr (pc := 145) (as := []) (rest := []) (fun l => c_1_price l true i3 σ) md_X1_price ⟨_, _, rfl, by decide⟩ tk_588 tk_589 tk_587 dX11_ofFault_145 rfl ⟨by decide, by decide, by decide, by decide⟩ ⟨fun _ => rfl, fun _ => Or.inl rfl⟩ rfl (Nat.le_of_ble_eq_true rfl) (fun r18 => ?_)
                        show X E _ _ _ _ 0 0 _ _ _ [aI r18] _
                        exact x_iret (rm := r11_ofFault) rfl rfl dX11_ofFault_148
                      ·
                        refine x_ite (fun hc19 => ?_) (fun hc19 => ?_)
                        ·
                          obtain rfl : tg4 = 149 := zsw_at hc19 ht5 (by decide)
                          refine x_aload_n (pc := 149) 3 dX11_ofFault_149 rfl rfl ?_
                          refine x_aload_n (pc := 150) 0 dX11_ofFault_150 rfl rfl ?_
                          refine x_getI (pc := 151) fd_11_6 tk_158 dX11_ofFault_151 ?_
                          refine x_callVr (pc := 154) (as := [aI (gI σ 11 0 6)]) (rest := []) (fun l => c_1_promiseOn l true i3 (gI σ 11 0 6) σ) md_X1_promiseOn ⟨_, _, rfl, by decide⟩ tk_351 tk_352 tk_591 dX11_ofFault_154 rfl ⟨by decide, by decide, by decide, by decide⟩ ⟨fun _ => rfl, fun _ => Or.inl rfl⟩ rfl (Nat.le_of_ble_eq_true rfl) (fun r20 => ?_)
                          show X E _ _ _ _ 0 0 _ _ _ [aI r20] _
                          exact x_iret (rm := r11_ofFault) rfl rfl dX11_ofFault_157
                        ·
                          refine x_ite (fun hc21 => ?_) (fun hc21 => ?_)
                          ·
                            obtain rfl : tg4 = 158 := zsw_at hc21 ht5 (by decide)
                            refine x_aload_n (pc := 158) 3 dX11_ofFault_158 rfl rfl ?_
                            refine x_getI (pc := 159) fd_1_15 tk_460 dX11_ofFault_159 ?_
                            exact x_iret (rm := r11_ofFault) rfl rfl dX11_ofFault_162
                          ·
                            refine x_ite (fun hc22 => ?_) (fun hc22 => ?_)
                            ·
                              obtain rfl : tg4 = 163 := zsw_at hc22 ht5 (by decide)
                              refine x_aload_n (pc := 163) 3 dX11_ofFault_163 rfl rfl ?_
                              refine x_getF (pc := 164) (j := i3) fd_1_7 rfl rfl tk_446 dX11_ofFault_164 ?_
                              refine x_iconst (pc := 167) (-1) dX11_ofFault_167 rfl ?_
                              refine x_callVr (pc := 168) (as := [aI (-1)]) (rest := []) (fun l => c_4_timesSaid l i3 (-1) σ) md_X4_timesSaid ⟨_, _, rfl, by decide⟩ tk_593 tk_594 tk_592 dX11_ofFault_168 rfl ⟨by decide, by decide, by decide, by decide⟩ ⟨fun _ => rfl, fun _ => Or.inl rfl⟩ rfl (Nat.le_of_ble_eq_true rfl) (fun r23 => ?_)
                              show X E _ _ _ _ 0 0 _ _ _ [aI r23] _
                              exact x_iret (rm := r11_ofFault) rfl rfl dX11_ofFault_171
                            ·
                              refine x_ite (fun hc24 => ?_) (fun hc24 => ?_)
                              ·
                                obtain rfl : tg4 = 172 := zsw_at hc24 ht5 (by decide)
                                refine x_aload_n (pc := 172) 3 dX11_ofFault_172 rfl rfl ?_
                                refine x_getF (pc := 173) (j := i3) fd_1_7 rfl rfl tk_446 dX11_ofFault_173 ?_
                                refine x_iconst (pc := 176) (-1) dX11_ofFault_176 rfl ?_
                                refine x_callVr (pc := 177) (as := [aI (-1)]) (rest := []) (fun l => c_4_timesFalse l i3 (-1) σ) md_X4_timesFalse ⟨_, _, rfl, by decide⟩ tk_334 tk_335 tk_333 dX11_ofFault_177 rfl ⟨by decide, by decide, by decide, by decide⟩ ⟨fun _ => rfl, fun _ => Or.inl rfl⟩ rfl (Nat.le_of_ble_eq_true rfl) (fun r25 => ?_)
                                show X E _ _ _ _ 0 0 _ _ _ [aI r25] _
                                exact x_iret (rm := r11_ofFault) rfl rfl dX11_ofFault_180
                              ·
                                refine x_ite (fun hc26 => ?_) (fun hc26 => ?_)
                                ·
                                  obtain rfl : tg4 = 181 := zsw_at hc26 ht5 (by decide)
                                  refine x_aload_n (pc := 181) 3 dX11_ofFault_181 rfl rfl ?_
                                  refine x_callVr (pc := 182) (as := []) (rest := []) (fun l => c_1_lastCrew l i3 σ) md_X1_lastCrew ⟨_, _, rfl, by decide⟩ tk_550 tk_551 tk_549 dX11_ofFault_182 rfl ⟨by decide, by decide, by decide, by decide⟩ ⟨fun _ => rfl, fun _ => Or.inl rfl⟩ rfl (Nat.le_of_ble_eq_true rfl) (fun r27 => ?_)
                                  show X E _ _ _ _ 0 0 _ _ _ [aI r27] _
                                  exact x_iret (rm := r11_ofFault) rfl rfl dX11_ofFault_185
                                ·
                                  obtain rfl : tg4 = 186 := zswd_at (cs := [0, 1, 2, 3, 4, 5, 6, 7, 8, 9, 10, 11, 12, 13]) ht5 (by decide) (by simp only [List.mem_cons, List.not_mem_nil, or_false, not_or]; exact ⟨hc6, hc10, hc11, hc12, hc13, hc14, hc15, hc16, hc17, hc19, hc21, hc22, hc24, hc26⟩) (by decide)
                                  refine x_iconst (pc := 186) (-1) dX11_ofFault_186 rfl ?_
                                  exact x_iret (rm := r11_ofFault) rfl rfl dX11_ofFault_187
    · exact ztoff_pos (by decide) (by decide) x
theorem c_11_ofFault (l : Launch)  (v1 : Int32) (v2 : Int32) (σ : zSt) : zMet l yX11_ofFault cX11_ofFault 4 (some .int) r11_ofFault true eI [aR 11 (some 0), aI v1, aI v2] σ (zro (f11_ofFault v1 v2 σ) σ) :=
  zMet_ofR [(0, aR 11 (some 0)), (1, aI v1), (2, aI v2)] (by decide +kernel) (fun h => by cases h) (Nat.le_of_ble_eq_true rfl) rfl fun E _ => x11_ofFault E  v1 v2 σ
abbrev r11_leakAbove : Room := { frames := 2, cells := 0, slots := 0, locals := 45 }
abbrev m11_leakAbove : zMu := (RX11, 6, (some (.object "SnagBook$Fault")), r11_leakAbove, false)
set_option maxRecDepth 20000 in
theorem xl11_leakAbove_2 (E : zEn)   (h1 : Nat) (h2 : Int32) (σ : zSt)   : ∀ (n : Nat) (v3 : Int32), X E cX11_leakAbove m11_leakAbove true (zQr E true (eR 1) r11_leakAbove σ) 0 0 σ [(0, aR 11 (some 0)), (1, aR 1 (some h1)), (2, aI h2), (3, aI v3)] 2 [] (f11_leakAbove_L2 h1 h2 σ n v3) := by
  intro n
  induction n with
  | zero => intros; exact x_none
  | succ n ih =>
    intro v3
    rw [f11_leakAbove_L2]
    refine x_iload_n (pc := 2) 3 dX11_leakAbove_2 rfl rfl ?_
    refine x_aload_n (pc := 3) 0 dX11_leakAbove_3 rfl rfl ?_
    refine x_getI (pc := 4) fd_11_5 tk_157 dX11_leakAbove_4 ?_
    refine x_icmp_ge (pc := 7) 86 dX11_leakAbove_7 (by decide) (fun _ => ?_) (fun _ => ?_)
    ·
      refine x_null (pc := 86) 1 dX11_leakAbove_86 ?_
      exact x_aret (rm := r11_leakAbove) rfl rfl dX11_leakAbove_87
    ·
      refine x_aload_n (pc := 10) 0 dX11_leakAbove_10 rfl rfl ?_
      refine x_getF (pc := 11) (j := 0) fd_11_4 rfl rfl tk_156 dX11_leakAbove_11 ?_
      refine x_iload_n (pc := 14) 3 dX11_leakAbove_14 rfl rfl ?_
      refine x_aald (pc := 15) (g0 := 1) ar_1204 (by decide) rfl dX11_leakAbove_15 (fun m1 => ?_)
      refine x_nameR (fun o2 => ?_)
      refine x_astore (pc := 16) (als' := [(4, aR 1 o2), (0, aR 11 (some 0)), (1, aR 1 (some h1)), (2, aI h2), (3, aI v3)]) 4 dX11_leakAbove_16 (by decide) rfl ?_
      refine x_aload (pc := 18) 4 dX11_leakAbove_18 rfl ?_
      rcases o2 with _ | i3
      · exact x_none
      ·
        skip
        refine x_zocS ?_
        refine x_getR (pc := 20) fd_1_1 tk_432 dX11_leakAbove_20 ?_
        refine x_nameR (fun o4 => ?_)
        refine x_aload_n (pc := 23) 1 dX11_leakAbove_23 rfl rfl ?_
        refine x_getR (pc := 24) fd_1_1 tk_432 dX11_leakAbove_24 ?_
        refine x_nameR (fun o5 => ?_)
        refine x_mg (c := o4 = o5) (a := (if (gI σ 1 i3 2) = ((gI σ 1 h1 2) + 4) then 1 else 0)) (b := 0) 49 [] ?_ (fun hm6 => ?_)
        ·
          refine x_nameI (fun x13 => ?_)
          refine x_istore (pc := 49) (als' := [(5, aI x13), (4, aR 1 (some i3)), (0, aR 11 (some 0)), (1, aR 1 (some h1)), (2, aI h2), (3, aI v3)]) 5 dX11_leakAbove_49 (by decide) rfl ?_
          refine x_iload (pc := 51) 5 dX11_leakAbove_51 rfl ?_
          refine x_join (P := fun (j14 : Option (Option Nat)) => X E cX11_leakAbove m11_leakAbove true (zQr E true (eR 1) r11_leakAbove σ) 0 0 σ [(0, aR 11 (some 0)), (1, aR 1 (some h1)), (2, aI h2), (3, aI v3)] 80 [] j14) ?_ ?_
          ·
            refine x_iinc (pc := 80) (als' := [(3, aI (v3 + 1)), (0, aR 11 (some 0)), (1, aR 1 (some h1)), (2, aI h2)]) 3 3 (c := 1) dX11_leakAbove_80 rfl rfl (by decide) rfl ?_
            refine x_nameV (g := fun y17 => [(3, aI y17), (0, aR 11 (some 0)), (1, aR 1 (some h1)), (2, aI h2)]) (fun x16 => ?_) rfl
            refine x_goto (pc := 83) 2 dX11_leakAbove_83 (by decide) ?_
            exact x_sub [1, 2, 3, 0] rfl (ih x16)
          · intro j14 hj15
            refine x_if_eq (pc := 53) 80 dX11_leakAbove_53 (by decide) (fun _ => ?_) (fun _ => ?_)
            ·
              exact x_sub [2, 3, 4, 5] rfl (hj15)
            ·
              refine x_aload (pc := 56) 4 dX11_leakAbove_56 rfl ?_
              refine x_getR (pc := 58) fd_1_4 tk_439 dX11_leakAbove_58 ?_
              refine x_nameR (fun o18 => ?_)
              refine x_iconst (pc := 61) 1 dX11_leakAbove_61 rfl ?_
              rcases o18 with _ | i19
              · exact x_none
              ·
                skip
                refine x_zocS ?_
                refine x_callVr (pc := 62) (as := [aI 1]) (rest := []) (fun l => c_7_has l true i19 1 σ) md_X7_has ⟨_, _, rfl, by decide⟩ tk_408 tk_409 tk_600 dX11_leakAbove_62 rfl ⟨by decide, by decide, by decide, by decide⟩ ⟨fun _ => rfl, fun _ => Or.inl rfl⟩ rfl (Nat.le_of_ble_eq_true rfl) (fun r20 => ?_)
                show X E _ _ _ _ 0 0 _ _ _ [aI r20] _
                refine x_if_eq (pc := 65) 80 dX11_leakAbove_65 (by decide) (fun _ => ?_) (fun _ => ?_)
                ·
                  exact x_sub [2, 3, 4, 5] rfl (hj15)
                ·
                  refine x_aload (pc := 68) 4 dX11_leakAbove_68 rfl ?_
                  refine x_iload_n (pc := 70) 2 dX11_leakAbove_70 rfl rfl ?_
                  refine x_callVr (pc := 71) (as := [aI h2]) (rest := []) (fun l => c_1_isLeftOn l i3 h2 σ) md_X1_isLeftOn ⟨_, _, rfl, by decide⟩ tk_322 tk_323 tk_321 dX11_leakAbove_71 rfl ⟨by decide, by decide, by decide, by decide⟩ ⟨fun _ => rfl, fun _ => Or.inl rfl⟩ rfl (Nat.le_of_ble_eq_true rfl) (fun r21 => ?_)
                  show X E _ _ _ _ 0 0 _ _ _ [aI r21] _
                  refine x_if_eq (pc := 74) 80 dX11_leakAbove_74 (by decide) (fun _ => ?_) (fun _ => ?_)
                  ·
                    exact x_sub [2, 3, 4, 5] rfl (hj15)
                  ·
                    refine x_aload (pc := 77) 4 dX11_leakAbove_77 rfl ?_
                    exact x_aret (rm := r11_leakAbove) rfl rfl dX11_leakAbove_79
        ·
          refine x_same (c := o4 = o5) ?_
          refine x_acmp_ne (pc := 27) 48 (by decide) dX11_leakAbove_27 (by decide) (fun hc7 => ?_) (fun hc7 => ?_)
          ·
            have hm9 := x_topF hc7 hm6
            refine x_iconst (pc := 48) 0 dX11_leakAbove_48 rfl ?_
            exact hm9
          ·
            have hm8 := x_topT hc7 hm6
            refine x_aload (pc := 30) 4 dX11_leakAbove_30 rfl ?_
            refine x_getI (pc := 32) fd_1_2 tk_434 dX11_leakAbove_32 ?_
            refine x_aload_n (pc := 35) 1 dX11_leakAbove_35 rfl rfl ?_
            refine x_getI (pc := 36) fd_1_2 tk_434 dX11_leakAbove_36 ?_
            refine x_iconst (pc := 39) 4 dX11_leakAbove_39 rfl ?_
            refine x_iadd (pc := 40) dX11_leakAbove_40 ?_
            refine x_same (c := (gI σ 1 i3 2) = ((gI σ 1 h1 2) + 4)) ?_
            refine x_icmp_ne (pc := 41) 48 dX11_leakAbove_41 (by decide) (fun hc10 => ?_) (fun hc10 => ?_)
            ·
              have hm12 := x_topF hc10 hm8
              refine x_iconst (pc := 48) 0 dX11_leakAbove_48 rfl ?_
              exact hm12
            ·
              have hm11 := x_topT hc10 hm8
              refine x_iconst (pc := 44) 1 dX11_leakAbove_44 rfl ?_
              refine x_goto (pc := 45) 49 dX11_leakAbove_45 (by decide) ?_
              exact hm11
set_option maxRecDepth 20000 in
theorem x11_leakAbove (E : zEn)  (h1 : Nat) (v2 : Int32) (σ : zSt) : X E cX11_leakAbove m11_leakAbove true (zQr E true (eR 1) r11_leakAbove σ) 0 0 σ [(0, aR 11 (some 0)), (1, aR 1 (some h1)), (2, aI v2)] 0 [] (f11_leakAbove h1 v2 σ) := by
  unfold f11_leakAbove
  refine x_iconst (pc := 0) 0 dX11_leakAbove_0 rfl ?_
  refine x_istore_n (pc := 1) (als' := [(3, aI 0), (0, aR 11 (some 0)), (1, aR 1 (some h1)), (2, aI v2)]) 3 dX11_leakAbove_1 rfl (by decide) rfl ?_
  refine x_sub [1, 2, 3, 0] rfl (xl11_leakAbove_2 E h1 v2 σ zfuel 0)
theorem c_11_leakAbove (l : Launch)  (h1 : Nat) (v2 : Int32) (σ : zSt) : zMet l yX11_leakAbove cX11_leakAbove 6 (some (.object "SnagBook$Fault")) r11_leakAbove true (eR 1) [aR 11 (some 0), aR 1 (some h1), aI v2] σ (zro (f11_leakAbove h1 v2 σ) σ) :=
  zMet_ofR [(0, aR 11 (some 0)), (1, aR 1 (some h1)), (2, aI v2)] (by decide +kernel) (fun h => by cases h) (Nat.le_of_ble_eq_true rfl) rfl fun E _ => x11_leakAbove E  h1 v2 σ
abbrev r11_source : Room := { frames := 3, cells := 0, slots := 0, locals := 70 }
abbrev m11_source : zMu := (RX11, 6, (some .int), r11_source, false)
set_option maxRecDepth 20000 in
theorem xl11_source_30 (E : zEn)   (h2 : Int32) (σ : zSt) {K60 : (Option Nat) → Option Int32} {K74 : (Option Nat) → Option Int32} (hK60 : ∀ (v3 : (Option Nat)), X E cX11_source m11_source true (zQr E true eI r11_source σ) 0 0 σ [(3, aR 1 v3)] 60 [] (K60 v3)) (hK74 : ∀ (v3 : (Option Nat)), X E cX11_source m11_source true (zQr E true eI r11_source σ) 0 0 σ [(3, aR 1 v3)] 74 [] (K74 v3)) : ∀ (n : Nat) (v3 : (Option Nat)) (v4 : Int32), X E cX11_source m11_source true (zQr E true eI r11_source σ) 0 0 σ [(0, aR 11 (some 0)), (2, aI h2), (3, aR 1 v3), (4, aI v4)] 30 [] (f11_source_L30 h2 σ K60 K74 n v3 v4) := by
  intro n
  induction n with
  | zero => intros; exact x_none
  | succ n ih =>
    intro v3 v4
    rw [f11_source_L30]
    refine x_iload (pc := 30) 4 dX11_source_30 rfl ?_
    refine x_iconst (pc := 32) 2 dX11_source_32 rfl ?_
    refine x_icmp_gt (pc := 33) 74 dX11_source_33 (by decide) (fun _ => ?_) (fun _ => ?_)
    ·
      exact x_sub [2] rfl (hK74 v3)
    ·
      refine x_aload_n (pc := 36) 3 dX11_source_36 rfl rfl ?_
      rcases v3 with _ | i5
      · exact x_none
      ·
        skip
        refine x_zocS ?_
        refine x_getR (pc := 37) fd_1_4 tk_439 dX11_source_37 ?_
        refine x_nameR (fun o6 => ?_)
        refine x_iconst (pc := 40) 4 dX11_source_40 rfl ?_
        rcases o6 with _ | i7
        · exact x_none
        ·
          skip
          refine x_zocS ?_
          refine x_callVr (pc := 41) (as := [aI 4]) (rest := []) (fun l => c_7_has l true i7 4 σ) md_X7_has ⟨_, _, rfl, by decide⟩ tk_408 tk_409 tk_600 dX11_source_41 rfl ⟨by decide, by decide, by decide, by decide⟩ ⟨fun _ => rfl, fun _ => Or.inl rfl⟩ rfl (Nat.le_of_ble_eq_true rfl) (fun r8 => ?_)
          show X E _ _ _ _ 0 0 _ _ _ [aI r8] _
          refine x_if_eq (pc := 44) 74 dX11_source_44 (by decide) (fun _ => ?_) (fun _ => ?_)
          ·
            exact x_sub [2] rfl (hK74 (some i5))
          ·
            refine x_aload_n (pc := 47) 0 dX11_source_47 rfl rfl ?_
            refine x_aload_n (pc := 48) 3 dX11_source_48 rfl rfl ?_
            refine x_iload_n (pc := 49) 2 dX11_source_49 rfl rfl ?_
            refine x_callVr (pc := 50) (as := [aR 1 (some i5), aI h2]) (rest := []) (fun l => c_11_leakAbove l i5 h2 σ) md_X11_leakAbove ⟨_, _, rfl, by decide⟩ tk_603 tp_10 tk_601 dX11_source_50 rfl ⟨by decide, by decide, by decide, by decide⟩ ⟨fun _ => rfl, fun _ => Or.inl rfl⟩ rfl (Nat.le_of_ble_eq_true rfl) (fun o10 => ?_)
            show X E _ _ _ _ 0 0 _ _ _ [aR 1 o10] _
            refine x_astore (pc := 53) (als' := [(5, aR 1 o10), (0, aR 11 (some 0)), (2, aI h2), (3, aR 1 (some i5)), (4, aI v4)]) 5 dX11_source_53 (by decide) rfl ?_
            refine x_aload (pc := 55) 5 dX11_source_55 rfl ?_
            rcases o10 with _ | i11
            ·
              refine x_ifnonnullN (pc := 57) dX11_source_57 ?_
              exact x_sub [3] rfl (hK60 (some i5))
            ·
              refine x_ifnonnullS (pc := 57) 65 dX11_source_57 (by decide) ?_
              refine x_aload (pc := 65) 5 dX11_source_65 rfl ?_
              refine x_astore_n (pc := 67) (als' := [(3, aR 1 (some i11)), (5, aR 1 (some i11)), (0, aR 11 (some 0)), (2, aI h2), (4, aI v4)]) 3 dX11_source_67 rfl (by decide) rfl ?_
              refine x_iinc (pc := 68) (als' := [(4, aI (v4 + 1)), (3, aR 1 (some i11)), (5, aR 1 (some i11)), (0, aR 11 (some 0)), (2, aI h2)]) 4 4 (c := 1) dX11_source_68 rfl rfl (by decide) rfl ?_
              refine x_nameV (g := fun y13 => [(4, aI y13), (3, aR 1 (some i11)), (5, aR 1 (some i11)), (0, aR 11 (some 0)), (2, aI h2)]) (fun x12 => ?_) rfl
              refine x_goto (pc := 71) 30 dX11_source_71 (by decide) ?_
              exact x_sub [3, 4, 1, 0] rfl (ih (some i11) x12)
set_option maxRecDepth 20000 in
theorem x11_source (E : zEn)  (v1 : Int32) (v2 : Int32) (σ : zSt) : X E cX11_source m11_source true (zQr E true eI r11_source σ) 0 0 σ [(0, aR 11 (some 0)), (1, aI v1), (2, aI v2)] 0 [] (f11_source v1 v2 σ) := by
  unfold f11_source
  refine x_aload_n (pc := 0) 0 dX11_source_0 rfl rfl ?_
  refine x_iload_n (pc := 1) 1 dX11_source_1 rfl rfl ?_
  refine x_callVr (pc := 2) (as := [aI v1]) (rest := []) (fun l => c_11_faultAt l v1 σ) md_X11_faultAt ⟨_, _, rfl, by decide⟩ tk_521 tp_8 tk_519 dX11_source_2 rfl ⟨by decide, by decide, by decide, by decide⟩ ⟨fun _ => rfl, fun _ => Or.inl rfl⟩ rfl (Nat.le_of_ble_eq_true rfl) (fun o2 => ?_)
  show X E _ _ _ _ 0 0 _ _ _ [aR 1 o2] _
  refine x_astore_n (pc := 5) (als' := [(3, aR 1 o2), (0, aR 11 (some 0)), (1, aI v1), (2, aI v2)]) 3 dX11_source_5 rfl (by decide) rfl ?_
  refine x_aload_n (pc := 6) 3 dX11_source_6 rfl rfl ?_
  rcases o2 with _ | i3
  ·
    refine x_ifnullN (pc := 7) 25 dX11_source_7 (by decide) ?_
    refine x_iconst (pc := 25) (-1) dX11_source_25 rfl ?_
    exact x_iret (rm := r11_source) rfl rfl dX11_source_26
  ·
    refine x_ifnullS (pc := 7) dX11_source_7 ?_
    refine x_iload_n (pc := 10) 2 dX11_source_10 rfl rfl ?_
    refine x_callSr (pc := 11) (as := [aI v2]) (rest := []) (fun l => c_11_isDay l true v2 σ) md_X11_isDay tk_576 tk_575 dX11_source_11 rfl ⟨by decide, by decide, by decide, by decide⟩ ⟨fun _ => rfl, fun _ => Or.inl rfl⟩ rfl (Nat.le_of_ble_eq_true rfl) (fun r4 => ?_)
    show X E _ _ _ _ 0 0 _ _ _ [aI r4] _
    refine x_if_eq (pc := 14) 25 dX11_source_14 (by decide) (fun _ => ?_) (fun _ => ?_)
    ·
      refine x_iconst (pc := 25) (-1) dX11_source_25 rfl ?_
      exact x_iret (rm := r11_source) rfl rfl dX11_source_26
    ·
      refine x_aload_n (pc := 17) 3 dX11_source_17 rfl rfl ?_
      refine x_getI (pc := 18) fd_1_9 tk_450 dX11_source_18 ?_
      refine x_iload_n (pc := 21) 2 dX11_source_21 rfl rfl ?_
      refine x_icmp_le (pc := 22) 27 dX11_source_22 (by decide) (fun _ => ?_) (fun _ => ?_)
      ·
        refine x_iconst (pc := 27) 0 dX11_source_27 rfl ?_
        refine x_istore (pc := 28) (als' := [(4, aI 0), (3, aR 1 (some i3)), (0, aR 11 (some 0)), (1, aI v1), (2, aI v2)]) 4 dX11_source_28 (by decide) rfl ?_
        refine x_sub [2, 4, 1, 0] rfl (xl11_source_30 E v2 σ (fun a14 => ?_) (fun a16 => ?_) zfuel (some i3) 0)
        ·
          refine x_aload_n (pc := 60) 3 dX11_source_60 rfl rfl ?_
          rcases a14 with _ | i15
          · exact x_none
          ·
            skip
            refine x_zocS ?_
            refine x_getI (pc := 61) fd_1_0 tk_429 dX11_source_61 ?_
            exact x_iret (rm := r11_source) rfl rfl dX11_source_64
        ·
          refine x_aload_n (pc := 74) 3 dX11_source_74 rfl rfl ?_
          rcases a16 with _ | i17
          · exact x_none
          ·
            skip
            refine x_zocS ?_
            refine x_getI (pc := 75) fd_1_0 tk_429 dX11_source_75 ?_
            exact x_iret (rm := r11_source) rfl rfl dX11_source_78
      ·
        refine x_iconst (pc := 25) (-1) dX11_source_25 rfl ?_
        exact x_iret (rm := r11_source) rfl rfl dX11_source_26
theorem c_11_source (l : Launch)  (v1 : Int32) (v2 : Int32) (σ : zSt) : zMet l yX11_source cX11_source 6 (some .int) r11_source true eI [aR 11 (some 0), aI v1, aI v2] σ (zro (f11_source v1 v2 σ) σ) :=
  zMet_ofR [(0, aR 11 (some 0)), (1, aI v1), (2, aI v2)] (by decide +kernel) (fun h => by cases h) (Nat.le_of_ble_eq_true rfl) rfl fun E _ => x11_source E  v1 v2 σ
abbrev r11_saidAheadOf : Room := { frames := 1, cells := 0, slots := 0, locals := 23 }
abbrev m11_saidAheadOf : zMu := (RX11, 3, (some .int), r11_saidAheadOf, false)
set_option maxRecDepth 20000 in
theorem x11_saidAheadOf (E : zEn)  (h1 : Nat) (h2 : Nat) (σ : zSt) : X E cX11_saidAheadOf m11_saidAheadOf true (zQr E true eI r11_saidAheadOf σ) 0 0 σ [(0, aR 11 (some 0)), (1, aR 1 (some h1)), (2, aR 1 (some h2))] 0 [] (f11_saidAheadOf h1 h2 σ) := by
  unfold f11_saidAheadOf
  refine x_aload_n (pc := 0) 2 dX11_saidAheadOf_0 rfl rfl ?_
  refine x_getF (pc := 1) (j := h2) fd_1_7 rfl rfl tk_446 dX11_saidAheadOf_1 ?_
  refine x_aload_n (pc := 4) 1 dX11_saidAheadOf_4 rfl rfl ?_
  refine x_getI (pc := 5) fd_1_9 tk_450 dX11_saidAheadOf_5 ?_
  refine x_aload_n (pc := 8) 0 dX11_saidAheadOf_8 rfl rfl ?_
  refine x_getI (pc := 9) fd_11_7 tk_159 dX11_saidAheadOf_9 ?_
  refine x_isub (pc := 12) dX11_saidAheadOf_12 ?_
  refine x_aload_n (pc := 13) 1 dX11_saidAheadOf_13 rfl rfl ?_
  refine x_getI (pc := 14) fd_1_9 tk_450 dX11_saidAheadOf_14 ?_
  refine x_iconst (pc := 17) 1 dX11_saidAheadOf_17 rfl ?_
  refine x_isub (pc := 18) dX11_saidAheadOf_18 ?_
  refine x_callVr (pc := 19) (as := [aI ((gI σ 1 h1 9) - (gI σ 11 0 7)), aI ((gI σ 1 h1 9) - 1)]) (rest := []) (fun l => c_4_lastSaid l h2 ((gI σ 1 h1 9) - (gI σ 11 0 7)) ((gI σ 1 h1 9) - 1) σ) md_X4_lastSaid ⟨_, _, rfl, by decide⟩ tk_554 tk_555 tk_617 dX11_saidAheadOf_19 rfl ⟨by decide, by decide, by decide, by decide⟩ ⟨fun _ => rfl, fun _ => Or.inl rfl⟩ rfl (Nat.le_of_ble_eq_true rfl) (fun r1 => ?_)
  show X E _ _ _ _ 0 0 _ _ _ [aI r1] _
  exact x_iret (rm := r11_saidAheadOf) rfl rfl dX11_saidAheadOf_22
theorem c_11_saidAheadOf (l : Launch)  (h1 : Nat) (h2 : Nat) (σ : zSt) : zMet l yX11_saidAheadOf cX11_saidAheadOf 3 (some .int) r11_saidAheadOf true eI [aR 11 (some 0), aR 1 (some h1), aR 1 (some h2)] σ (zro (f11_saidAheadOf h1 h2 σ) σ) :=
  zMet_ofR [(0, aR 11 (some 0)), (1, aR 1 (some h1)), (2, aR 1 (some h2))] (by decide +kernel) (fun h => by cases h) (Nat.le_of_ble_eq_true rfl) rfl fun E _ => x11_saidAheadOf E  h1 h2 σ
abbrev r11_damager : Room := { frames := 2, cells := 0, slots := 0, locals := 45 }
abbrev m11_damager : zMu := (RX11, 7, (some (.object "SnagBook$Fault")), r11_damager, false)
set_option maxRecDepth 20000 in
theorem xl11_damager_7 (E : zEn)   (h1 : Nat) (σ : zSt)   : ∀ (n : Nat) (v2 : (Option Nat)) (v3 : Int32) (v4 : Int32), X E cX11_damager m11_damager true (zQr E true (eR 1) r11_damager σ) 0 0 σ [(0, aR 11 (some 0)), (1, aR 1 (some h1)), (2, aR 1 v2), (3, aI v3), (4, aI v4)] 7 [] (f11_damager_L7 h1 σ n v2 v3 v4) := by
  intro n
  induction n with
  | zero => intros; exact x_none
  | succ n ih =>
    intro v2 v3 v4
    rw [f11_damager_L7]
    refine x_iload (pc := 7) 4 dX11_damager_7 rfl ?_
    refine x_aload_n (pc := 9) 0 dX11_damager_9 rfl rfl ?_
    refine x_getI (pc := 10) fd_11_5 tk_157 dX11_damager_10 ?_
    refine x_icmp_ge (pc := 13) 102 dX11_damager_13 (by decide) (fun _ => ?_) (fun _ => ?_)
    ·
      refine x_aload_n (pc := 102) 2 dX11_damager_102 rfl rfl ?_
      exact x_aret (rm := r11_damager) rfl rfl dX11_damager_103
    ·
      refine x_aload_n (pc := 16) 0 dX11_damager_16 rfl rfl ?_
      refine x_getF (pc := 17) (j := 0) fd_11_4 rfl rfl tk_156 dX11_damager_17 ?_
      refine x_iload (pc := 20) 4 dX11_damager_20 rfl ?_
      refine x_aald (pc := 22) (g0 := 1) ar_1204 (by decide) rfl dX11_damager_22 (fun m1 => ?_)
      refine x_nameR (fun o2 => ?_)
      refine x_astore (pc := 23) (als' := [(5, aR 1 o2), (0, aR 11 (some 0)), (1, aR 1 (some h1)), (2, aR 1 v2), (3, aI v3), (4, aI v4)]) 5 dX11_damager_23 (by decide) rfl ?_
      refine x_aload (pc := 25) 5 dX11_damager_25 rfl ?_
      rcases o2 with _ | i3
      · exact x_none
      ·
        skip
        refine x_zocS ?_
        refine x_getR (pc := 27) fd_1_1 tk_432 dX11_damager_27 ?_
        refine x_nameR (fun o4 => ?_)
        refine x_aload_n (pc := 30) 1 dX11_damager_30 rfl rfl ?_
        refine x_getR (pc := 31) fd_1_1 tk_432 dX11_damager_31 ?_
        refine x_nameR (fun o5 => ?_)
        refine x_join (P := fun (j8 : (Option Nat) → Int32 → Option (Option Nat)) => ∀ (a6 : (Option Nat)) (a7 : Int32), X E cX11_damager m11_damager true (zQr E true (eR 1) r11_damager σ) 0 0 σ [(0, aR 11 (some 0)), (1, aR 1 (some h1)), (2, aR 1 a6), (3, aI a7), (4, aI v4)] 96 [] (j8 a6 a7)) ?_ ?_
        · intro a6 a7
          refine x_iinc (pc := 96) (als' := [(4, aI (v4 + 1)), (0, aR 11 (some 0)), (1, aR 1 (some h1)), (2, aR 1 a6), (3, aI a7)]) 4 4 (c := 1) dX11_damager_96 rfl rfl (by decide) rfl ?_
          refine x_nameV (g := fun y11 => [(4, aI y11), (0, aR 11 (some 0)), (1, aR 1 (some h1)), (2, aR 1 a6), (3, aI a7)]) (fun x10 => ?_) rfl
          refine x_goto (pc := 99) 7 dX11_damager_99 (by decide) ?_
          exact x_sub [1, 2, 3, 4, 0] rfl (ih a6 a7 x10)
        · intro j8 hj9
          refine x_acmp_ne (pc := 34) 96 (by decide) dX11_damager_34 (by decide) (fun _ => ?_) (fun _ => ?_)
          ·
            exact x_sub [1, 2, 3, 4, 5] rfl (hj9 v2 v3)
          ·
            refine x_aload (pc := 37) 5 dX11_damager_37 rfl ?_
            refine x_getI (pc := 39) fd_1_2 tk_434 dX11_damager_39 ?_
            refine x_aload_n (pc := 42) 1 dX11_damager_42 rfl rfl ?_
            refine x_getI (pc := 43) fd_1_2 tk_434 dX11_damager_43 ?_
            refine x_icmp_ne (pc := 46) 96 dX11_damager_46 (by decide) (fun _ => ?_) (fun _ => ?_)
            ·
              exact x_sub [1, 2, 3, 4, 5] rfl (hj9 v2 v3)
            ·
              refine x_aload (pc := 49) 5 dX11_damager_49 rfl ?_
              refine x_getI (pc := 51) fd_1_3 tk_436 dX11_damager_51 ?_
              refine x_aload_n (pc := 54) 1 dX11_damager_54 rfl rfl ?_
              refine x_getI (pc := 55) fd_1_3 tk_436 dX11_damager_55 ?_
              refine x_icmp_eq (pc := 58) 96 dX11_damager_58 (by decide) (fun _ => ?_) (fun _ => ?_)
              ·
                exact x_sub [1, 2, 3, 4, 5] rfl (hj9 v2 v3)
              ·
                refine x_aload (pc := 61) 5 dX11_damager_61 rfl ?_
                refine x_getF (pc := 63) (j := i3) fd_1_7 rfl rfl tk_446 dX11_damager_63 ?_
                refine x_aload_n (pc := 66) 0 dX11_damager_66 rfl rfl ?_
                refine x_aload_n (pc := 67) 1 dX11_damager_67 rfl rfl ?_
                refine x_aload (pc := 68) 5 dX11_damager_68 rfl ?_
                refine x_callVr (pc := 70) (as := [aR 1 (some h1), aR 1 (some i3)]) (rest := [aR 4 (some i3)]) (fun l => c_11_saidAheadOf l h1 i3 σ) md_X11_saidAheadOf ⟨_, _, rfl, by decide⟩ tk_615 tp_12 tk_613 dX11_damager_70 rfl ⟨by decide, by decide, by decide, by decide⟩ ⟨fun _ => rfl, fun _ => Or.inl rfl⟩ rfl (Nat.le_of_ble_eq_true rfl) (fun r12 => ?_)
                show X E _ _ _ _ 0 0 _ _ _ [aI r12, aR 4 (some i3)] _
                refine x_callVr (pc := 73) (as := [aI r12]) (rest := []) (fun l => c_4_dayAt l i3 r12 σ) md_X4_dayAt ⟨_, _, rfl, by decide⟩ tk_619 tk_620 tk_618 dX11_damager_73 rfl ⟨by decide, by decide, by decide, by decide⟩ ⟨fun _ => rfl, fun _ => Or.inl rfl⟩ rfl (Nat.le_of_ble_eq_true rfl) (fun r13 => ?_)
                show X E _ _ _ _ 0 0 _ _ _ [aI r13] _
                refine x_istore (pc := 76) (als' := [(6, aI r13), (5, aR 1 (some i3)), (0, aR 11 (some 0)), (1, aR 1 (some h1)), (2, aR 1 v2), (3, aI v3), (4, aI v4)]) 6 dX11_damager_76 (by decide) rfl ?_
                refine x_iload (pc := 78) 6 dX11_damager_78 rfl ?_
                refine x_iconst (pc := 80) (-1) dX11_damager_80 rfl ?_
                refine x_icmp_eq (pc := 81) 96 dX11_damager_81 (by decide) (fun _ => ?_) (fun _ => ?_)
                ·
                  exact x_sub [2, 3, 4, 5, 6] rfl (hj9 v2 v3)
                ·
                  refine x_iload (pc := 84) 6 dX11_damager_84 rfl ?_
                  refine x_iload_n (pc := 86) 3 dX11_damager_86 rfl rfl ?_
                  refine x_icmp_lt (pc := 87) 96 dX11_damager_87 (by decide) (fun _ => ?_) (fun _ => ?_)
                  ·
                    exact x_sub [2, 3, 4, 5, 6] rfl (hj9 v2 v3)
                  ·
                    refine x_iload (pc := 90) 6 dX11_damager_90 rfl ?_
                    refine x_istore_n (pc := 92) (als' := [(3, aI r13), (6, aI r13), (5, aR 1 (some i3)), (0, aR 11 (some 0)), (1, aR 1 (some h1)), (2, aR 1 v2), (4, aI v4)]) 3 dX11_damager_92 rfl (by decide) rfl ?_
                    refine x_aload (pc := 93) 5 dX11_damager_93 rfl ?_
                    refine x_astore_n (pc := 95) (als' := [(2, aR 1 (some i3)), (3, aI r13), (6, aI r13), (5, aR 1 (some i3)), (0, aR 11 (some 0)), (1, aR 1 (some h1)), (4, aI v4)]) 2 dX11_damager_95 rfl (by decide) rfl ?_
                    exact x_sub [4, 5, 0, 1, 6] rfl (hj9 (some i3) r13)
set_option maxRecDepth 20000 in
theorem x11_damager (E : zEn)  (h1 : Nat) (σ : zSt) : X E cX11_damager m11_damager true (zQr E true (eR 1) r11_damager σ) 0 0 σ [(0, aR 11 (some 0)), (1, aR 1 (some h1))] 0 [] (f11_damager h1 σ) := by
  unfold f11_damager
  refine x_null (pc := 0) 1 dX11_damager_0 ?_
  refine x_astore_n (pc := 1) (als' := [(2, aR 1 none), (0, aR 11 (some 0)), (1, aR 1 (some h1))]) 2 dX11_damager_1 rfl (by decide) rfl ?_
  refine x_iconst (pc := 2) (-1) dX11_damager_2 rfl ?_
  refine x_istore_n (pc := 3) (als' := [(3, aI (-1)), (2, aR 1 none), (0, aR 11 (some 0)), (1, aR 1 (some h1))]) 3 dX11_damager_3 rfl (by decide) rfl ?_
  refine x_iconst (pc := 4) 0 dX11_damager_4 rfl ?_
  refine x_istore (pc := 5) (als' := [(4, aI 0), (3, aI (-1)), (2, aR 1 none), (0, aR 11 (some 0)), (1, aR 1 (some h1))]) 4 dX11_damager_5 (by decide) rfl ?_
  refine x_sub [3, 4, 2, 1, 0] rfl (xl11_damager_7 E h1 σ zfuel none (-1) 0)
theorem c_11_damager (l : Launch)  (h1 : Nat) (σ : zSt) : zMet l yX11_damager cX11_damager 7 (some (.object "SnagBook$Fault")) r11_damager true (eR 1) [aR 11 (some 0), aR 1 (some h1)] σ (zro (f11_damager h1 σ) σ) :=
  zMet_ofR [(0, aR 11 (some 0)), (1, aR 1 (some h1))] (by decide +kernel) (fun h => by cases h) (Nat.le_of_ble_eq_true rfl) rfl fun E _ => x11_damager E  h1 σ
abbrev r11_damage : Room := { frames := 3, cells := 0, slots := 0, locals := 71 }
abbrev m11_damage : zMu := (RX11, 4, (some .int), r11_damage, false)
set_option maxRecDepth 20000 in
theorem x11_damage (E : zEn)  (v1 : Int32) (σ : zSt) : X E cX11_damage m11_damage true (zQr E true eI r11_damage σ) 0 0 σ [(0, aR 11 (some 0)), (1, aI v1)] 0 [] (f11_damage v1 σ) := by
  unfold f11_damage
  refine x_aload_n (pc := 0) 0 dX11_damage_0 rfl rfl ?_
  refine x_iload_n (pc := 1) 1 dX11_damage_1 rfl rfl ?_
  refine x_callVr (pc := 2) (as := [aI v1]) (rest := []) (fun l => c_11_faultAt l v1 σ) md_X11_faultAt ⟨_, _, rfl, by decide⟩ tk_521 tp_8 tk_519 dX11_damage_2 rfl ⟨by decide, by decide, by decide, by decide⟩ ⟨fun _ => rfl, fun _ => Or.inl rfl⟩ rfl (Nat.le_of_ble_eq_true rfl) (fun o2 => ?_)
  show X E _ _ _ _ 0 0 _ _ _ [aR 1 o2] _
  refine x_astore_n (pc := 5) (als' := [(2, aR 1 o2), (0, aR 11 (some 0)), (1, aI v1)]) 2 dX11_damage_5 rfl (by decide) rfl ?_
  refine x_aload_n (pc := 6) 2 dX11_damage_6 rfl rfl ?_
  rcases o2 with _ | i3
  ·
    refine x_ifnonnullN (pc := 7) dX11_damage_7 ?_
    refine x_iconst (pc := 10) (-1) dX11_damage_10 rfl ?_
    exact x_iret (rm := r11_damage) rfl rfl dX11_damage_11
  ·
    refine x_ifnonnullS (pc := 7) 12 dX11_damage_7 (by decide) ?_
    refine x_aload_n (pc := 12) 0 dX11_damage_12 rfl rfl ?_
    refine x_aload_n (pc := 13) 2 dX11_damage_13 rfl rfl ?_
    refine x_callVr (pc := 14) (as := [aR 1 (some i3)]) (rest := []) (fun l => c_11_damager l i3 σ) md_X11_damager ⟨_, _, rfl, by decide⟩ tk_611 tp_11 tk_609 dX11_damage_14 rfl ⟨by decide, by decide, by decide, by decide⟩ ⟨fun _ => rfl, fun _ => Or.inl rfl⟩ rfl (Nat.le_of_ble_eq_true rfl) (fun o5 => ?_)
    show X E _ _ _ _ 0 0 _ _ _ [aR 1 o5] _
    refine x_astore_n (pc := 17) (als' := [(3, aR 1 o5), (2, aR 1 (some i3)), (0, aR 11 (some 0)), (1, aI v1)]) 3 dX11_damage_17 rfl (by decide) rfl ?_
    refine x_aload_n (pc := 18) 3 dX11_damage_18 rfl rfl ?_
    rcases o5 with _ | i6
    ·
      refine x_ifnonnullN (pc := 19) dX11_damage_19 ?_
      refine x_bipush (pc := 22) (-4) dX11_damage_22 rfl ?_
      refine x_goto (pc := 24) 31 dX11_damage_24 (by decide) ?_
      exact x_iret (rm := r11_damage) rfl rfl dX11_damage_31
    ·
      refine x_ifnonnullS (pc := 19) 27 dX11_damage_19 (by decide) ?_
      refine x_aload_n (pc := 27) 3 dX11_damage_27 rfl rfl ?_
      refine x_getI (pc := 28) fd_1_0 tk_429 dX11_damage_28 ?_
      exact x_iret (rm := r11_damage) rfl rfl dX11_damage_31
theorem c_11_damage (l : Launch)  (v1 : Int32) (σ : zSt) : zMet l yX11_damage cX11_damage 4 (some .int) r11_damage true eI [aR 11 (some 0), aI v1] σ (zro (f11_damage v1 σ) σ) :=
  zMet_ofR [(0, aR 11 (some 0)), (1, aI v1)] (by decide +kernel) (fun h => by cases h) (Nat.le_of_ble_eq_true rfl) rfl fun E _ => x11_damage E  v1 σ
abbrev r11_rule : Room := { frames := 1, cells := 0, slots := 0, locals := 21 }
abbrev m11_rule : zMu := (RX11, 4, (some .int), r11_rule, false)
set_option maxRecDepth 20000 in
theorem x11_rule (E : zEn)  (q : Bool) (v1 : Int32) (v2 : Int32) (σ : zSt) : X E cX11_rule m11_rule q (zQw E q eI r11_rule) 0 0 σ [(0, aR 11 (some 0)), (1, aI v1), (2, aI v2)] 0 [] (f11_rule v1 v2 σ) := by
  unfold f11_rule
  refine x_iconst (pc := 0) (-1) dX11_rule_0 rfl ?_
  refine x_istore_n (pc := 1) (als' := [(3, aI (-1)), (0, aR 11 (some 0)), (1, aI v1), (2, aI v2)]) 3 dX11_rule_1 rfl (by decide) rfl ?_
  refine x_iload_n (pc := 2) 1 dX11_rule_2 rfl rfl ?_
  refine x_join (P := fun (j1 : Option (Int32 × zSt)) => X E cX11_rule m11_rule q (zQw E q eI r11_rule) 0 0 σ [(0, aR 11 (some 0)), (1, aI v1), (2, aI v2), (3, aI (-1))] 28 [] j1) ?_ ?_
  ·
    refine x_iload_n (pc := 28) 1 dX11_rule_28 rfl rfl ?_
    refine x_iconst (pc := 29) 1 dX11_rule_29 rfl ?_
    refine x_icmp_ne (pc := 30) 53 dX11_rule_30 (by decide) (fun _ => ?_) (fun _ => ?_)
    ·
      refine x_iload_n (pc := 53) 3 dX11_rule_53 rfl rfl ?_
      exact x_iret (rm := r11_rule) rfl rfl dX11_rule_54
    ·
      refine x_iload_n (pc := 33) 2 dX11_rule_33 rfl rfl ?_
      refine x_sipush (pc := 34) 1000 dX11_rule_34 rfl ?_
      refine x_callSr (pc := 37) (as := [aI v2, aI 1000]) (rest := []) (fun l => c_11_isIn l q v2 1000 σ) md_X11_isIn tk_219 tk_218 dX11_rule_37 rfl ⟨by decide, by decide, by decide, by decide⟩ ⟨fun h => h, fun h => Or.inl h⟩ rfl (Nat.le_of_ble_eq_true rfl) (fun r3 => ?_)
      show X E _ _ _ _ 0 0 _ _ _ [aI r3] _
      refine x_if_eq (pc := 40) 53 dX11_rule_40 (by decide) (fun _ => ?_) (fun _ => ?_)
      ·
        refine x_iload_n (pc := 53) 3 dX11_rule_53 rfl rfl ?_
        exact x_iret (rm := r11_rule) rfl rfl dX11_rule_54
      ·
        refine x_aload_n (pc := 43) 0 dX11_rule_43 rfl rfl ?_
        refine x_getI (pc := 44) fd_11_8 tk_160 dX11_rule_44 ?_
        refine x_nameI (fun x4 => ?_)
        refine x_istore_n (pc := 47) (als' := [(3, aI x4), (0, aR 11 (some 0)), (1, aI v1), (2, aI v2)]) 3 dX11_rule_47 rfl (by decide) rfl ?_
        refine x_aload_n (pc := 48) 0 dX11_rule_48 rfl rfl ?_
        refine x_iload_n (pc := 49) 2 dX11_rule_49 rfl rfl ?_
        refine x_putI (pc := 50) fd_11_8 pt_11_8 tk_160 dX11_rule_50 (Or.inl rfl) ?_
        refine x_nameS (fun s5 => ?_)
        refine x_iload_n (pc := 53) 3 dX11_rule_53 rfl rfl ?_
        exact x_iret (rm := r11_rule) rfl rfl dX11_rule_54
  · intro j1 hj2
    refine x_if_ne (pc := 3) 28 dX11_rule_3 (by decide) (fun _ => ?_) (fun _ => ?_)
    ·
      exact x_sub [1, 2, 3, 0] rfl (hj2)
    ·
      refine x_iload_n (pc := 6) 2 dX11_rule_6 rfl rfl ?_
      refine x_bipush (pc := 7) 61 dX11_rule_7 rfl ?_
      refine x_callSr (pc := 9) (as := [aI v2, aI 61]) (rest := []) (fun l => c_11_isIn l q v2 61 σ) md_X11_isIn tk_219 tk_218 dX11_rule_9 rfl ⟨by decide, by decide, by decide, by decide⟩ ⟨fun h => h, fun h => Or.inl h⟩ rfl (Nat.le_of_ble_eq_true rfl) (fun r6 => ?_)
      show X E _ _ _ _ 0 0 _ _ _ [aI r6] _
      refine x_if_eq (pc := 12) 28 dX11_rule_12 (by decide) (fun _ => ?_) (fun _ => ?_)
      ·
        exact x_sub [1, 2, 3, 0] rfl (hj2)
      ·
        refine x_aload_n (pc := 15) 0 dX11_rule_15 rfl rfl ?_
        refine x_getI (pc := 16) fd_11_7 tk_159 dX11_rule_16 ?_
        refine x_nameI (fun x7 => ?_)
        refine x_istore_n (pc := 19) (als' := [(3, aI x7), (0, aR 11 (some 0)), (1, aI v1), (2, aI v2)]) 3 dX11_rule_19 rfl (by decide) rfl ?_
        refine x_aload_n (pc := 20) 0 dX11_rule_20 rfl rfl ?_
        refine x_iload_n (pc := 21) 2 dX11_rule_21 rfl rfl ?_
        refine x_putI (pc := 22) fd_11_7 pt_11_7 tk_159 dX11_rule_22 (Or.inl rfl) ?_
        refine x_nameS (fun s8 => ?_)
        refine x_goto (pc := 25) 53 dX11_rule_25 (by decide) ?_
        refine x_iload_n (pc := 53) 3 dX11_rule_53 rfl rfl ?_
        exact x_iret (rm := r11_rule) rfl rfl dX11_rule_54
theorem c_11_rule (l : Launch)  (q : Bool) (v1 : Int32) (v2 : Int32) (σ : zSt) : zMet l yX11_rule cX11_rule 4 (some .int) r11_rule q eI [aR 11 (some 0), aI v1, aI v2] σ (f11_rule v1 v2 σ) :=
  zMet_of [(0, aR 11 (some 0)), (1, aI v1), (2, aI v2)] (by decide +kernel) (fun h => by cases h) (Nat.le_of_ble_eq_true rfl) rfl fun E _ => x11_rule E  q v1 v2 σ
abbrev r11_isGroup : Room := { frames := 1, cells := 0, slots := 0, locals := 21 }
abbrev m11_isGroup : zMu := (RX11, 1, (some .boolean), r11_isGroup, false)
set_option maxRecDepth 20000 in
theorem x11_isGroup (E : zEn)  (q : Bool) (v0 : Int32) (σ : zSt) : X E cX11_isGroup m11_isGroup q (zQr E q eI r11_isGroup σ) 0 0 σ [(0, aI v0)] 0 [] (f11_isGroup v0 σ) := by
  unfold f11_isGroup
  refine x_iload_n (pc := 0) 0 dX11_isGroup_0 rfl rfl ?_
  refine x_bipush (pc := 1) 8 dX11_isGroup_1 rfl ?_
  refine x_callSr (pc := 3) (as := [aI v0, aI 8]) (rest := []) (fun l => c_11_isIn l q v0 8 σ) md_X11_isIn tk_219 tk_218 dX11_isGroup_3 rfl ⟨by decide, by decide, by decide, by decide⟩ ⟨fun h => h, fun h => Or.inl h⟩ rfl (Nat.le_of_ble_eq_true rfl) (fun r1 => ?_)
  show X E _ _ _ _ 0 0 _ _ _ [aI r1] _
  refine x_join (P := fun (j2 : Option Int32) => X E cX11_isGroup m11_isGroup q (zQr E q eI r11_isGroup σ) 0 0 σ [] 21 [] j2) ?_ ?_
  ·
    refine x_iconst (pc := 21) 1 dX11_isGroup_21 rfl ?_
    refine x_goto (pc := 22) 26 dX11_isGroup_22 (by decide) ?_
    exact x_zretC (rm := r11_isGroup) rfl rfl (by decide) dX11_isGroup_26
  · intro j2 hj3
    refine x_if_ne (pc := 6) 21 dX11_isGroup_6 (by decide) (fun _ => ?_) (fun _ => ?_)
    ·
      exact x_sub [] rfl (hj3)
    ·
      refine x_iload_n (pc := 9) 0 dX11_isGroup_9 rfl rfl ?_
      refine x_bipush (pc := 10) 10 dX11_isGroup_10 rfl ?_
      refine x_join (P := fun (j4 : Option Int32) => X E cX11_isGroup m11_isGroup q (zQr E q eI r11_isGroup σ) 0 0 σ [] 25 [] j4) ?_ ?_
      ·
        refine x_iconst (pc := 25) 0 dX11_isGroup_25 rfl ?_
        exact x_zretC (rm := r11_isGroup) rfl rfl (by decide) dX11_isGroup_26
      · intro j4 hj5
        refine x_icmp_lt (pc := 12) 25 dX11_isGroup_12 (by decide) (fun _ => ?_) (fun _ => ?_)
        ·
          exact x_sub [] rfl (hj5)
        ·
          refine x_iload_n (pc := 15) 0 dX11_isGroup_15 rfl rfl ?_
          refine x_bipush (pc := 16) 30 dX11_isGroup_16 rfl ?_
          refine x_icmp_gt (pc := 18) 25 dX11_isGroup_18 (by decide) (fun _ => ?_) (fun _ => ?_)
          ·
            exact x_sub [] rfl (hj5)
          ·
            exact x_sub [] rfl (hj3)
theorem c_11_isGroup (l : Launch)  (q : Bool) (v0 : Int32) (σ : zSt) : zMet l yX11_isGroup cX11_isGroup 1 (some .boolean) r11_isGroup q eI [aI v0] σ (zro (f11_isGroup v0 σ) σ) :=
  zMet_ofR [(0, aI v0)] (by decide +kernel) (fun h => by cases h) (Nat.le_of_ble_eq_true rfl) rfl fun E _ => x11_isGroup E  q v0 σ
abbrev r11_hasKind : Room := { frames := 1, cells := 0, slots := 0, locals := 23 }
abbrev m11_hasKind : zMu := (RX11, 7, (some .boolean), r11_hasKind, false)
set_option maxRecDepth 20000 in
theorem xl11_hasKind_3 (E : zEn)   (h1 : Nat) (h2 : Nat) (h3 : Int32) (σ : zSt)   : ∀ (n : Nat) (v4 : Int32), X E cX11_hasKind m11_hasKind true (zQr E true eI r11_hasKind σ) 0 0 σ [(0, aR 11 (some 0)), (1, aR 5 (some h1)), (2, aR 7 (some h2)), (3, aI h3), (4, aI v4)] 3 [] (f11_hasKind_L3 h1 h2 h3 σ n v4) := by
  intro n
  induction n with
  | zero => intros; exact x_none
  | succ n ih =>
    intro v4
    rw [f11_hasKind_L3]
    refine x_iload (pc := 3) 4 dX11_hasKind_3 rfl ?_
    refine x_aload_n (pc := 5) 0 dX11_hasKind_5 rfl rfl ?_
    refine x_getI (pc := 6) fd_11_5 tk_157 dX11_hasKind_6 ?_
    refine x_icmp_ge (pc := 9) 71 dX11_hasKind_9 (by decide) (fun _ => ?_) (fun _ => ?_)
    ·
      refine x_iconst (pc := 71) 0 dX11_hasKind_71 rfl ?_
      exact x_zretC (rm := r11_hasKind) rfl rfl (by decide) dX11_hasKind_72
    ·
      refine x_aload_n (pc := 12) 0 dX11_hasKind_12 rfl rfl ?_
      refine x_getF (pc := 13) (j := 0) fd_11_4 rfl rfl tk_156 dX11_hasKind_13 ?_
      refine x_iload (pc := 16) 4 dX11_hasKind_16 rfl ?_
      refine x_aald (pc := 18) (g0 := 1) ar_1204 (by decide) rfl dX11_hasKind_18 (fun m1 => ?_)
      refine x_nameR (fun o2 => ?_)
      refine x_astore (pc := 19) (als' := [(5, aR 1 o2), (0, aR 11 (some 0)), (1, aR 5 (some h1)), (2, aR 7 (some h2)), (3, aI h3), (4, aI v4)]) 5 dX11_hasKind_19 (by decide) rfl ?_
      refine x_aload (pc := 21) 5 dX11_hasKind_21 rfl ?_
      rcases o2 with _ | i3
      · exact x_none
      ·
        skip
        refine x_zocS ?_
        refine x_getR (pc := 23) fd_1_1 tk_432 dX11_hasKind_23 ?_
        refine x_nameR (fun o4 => ?_)
        refine x_aload_n (pc := 26) 1 dX11_hasKind_26 rfl rfl ?_
        refine x_join (P := fun (j5 : Option Int32) => X E cX11_hasKind m11_hasKind true (zQr E true eI r11_hasKind σ) 0 0 σ [(0, aR 11 (some 0)), (1, aR 5 (some h1)), (2, aR 7 (some h2)), (3, aI h3), (4, aI v4)] 65 [] j5) ?_ ?_
        ·
          refine x_iinc (pc := 65) (als' := [(4, aI (v4 + 1)), (0, aR 11 (some 0)), (1, aR 5 (some h1)), (2, aR 7 (some h2)), (3, aI h3)]) 4 4 (c := 1) dX11_hasKind_65 rfl rfl (by decide) rfl ?_
          refine x_nameV (g := fun y8 => [(4, aI y8), (0, aR 11 (some 0)), (1, aR 5 (some h1)), (2, aR 7 (some h2)), (3, aI h3)]) (fun x7 => ?_) rfl
          refine x_goto (pc := 68) 3 dX11_hasKind_68 (by decide) ?_
          exact x_sub [1, 2, 3, 4, 0] rfl (ih x7)
        · intro j5 hj6
          refine x_acmp_ne (pc := 27) 65 (by decide) dX11_hasKind_27 (by decide) (fun _ => ?_) (fun _ => ?_)
          ·
            exact x_sub [1, 2, 3, 4, 5] rfl (hj6)
          ·
            refine x_aload (pc := 30) 5 dX11_hasKind_30 rfl ?_
            refine x_getR (pc := 32) fd_1_4 tk_439 dX11_hasKind_32 ?_
            refine x_nameR (fun o9 => ?_)
            refine x_aload_n (pc := 35) 2 dX11_hasKind_35 rfl rfl ?_
            refine x_acmp_ne (pc := 36) 65 (by decide) dX11_hasKind_36 (by decide) (fun _ => ?_) (fun _ => ?_)
            ·
              exact x_sub [1, 2, 3, 4, 5] rfl (hj6)
            ·
              refine x_aload (pc := 39) 5 dX11_hasKind_39 rfl ?_
              refine x_getF (pc := 41) (j := i3) fd_1_7 rfl rfl tk_446 dX11_hasKind_41 ?_
              refine x_iload_n (pc := 44) 3 dX11_hasKind_44 rfl rfl ?_
              refine x_callVr (pc := 45) (as := [aI h3]) (rest := []) (fun l => c_4_onDay l i3 h3 σ) md_X4_onDay ⟨_, _, rfl, by decide⟩ tk_326 tk_327 tk_578 dX11_hasKind_45 rfl ⟨by decide, by decide, by decide, by decide⟩ ⟨fun _ => rfl, fun _ => Or.inl rfl⟩ rfl (Nat.le_of_ble_eq_true rfl) (fun r10 => ?_)
              show X E _ _ _ _ 0 0 _ _ _ [aI r10] _
              refine x_istore (pc := 48) (als' := [(6, aI r10), (5, aR 1 (some i3)), (0, aR 11 (some 0)), (1, aR 5 (some h1)), (2, aR 7 (some h2)), (3, aI h3), (4, aI v4)]) 6 dX11_hasKind_48 (by decide) rfl ?_
              refine x_iload (pc := 50) 6 dX11_hasKind_50 rfl ?_
              refine x_bipush (pc := 52) (-4) dX11_hasKind_52 rfl ?_
              refine x_icmp_eq (pc := 54) 65 dX11_hasKind_54 (by decide) (fun _ => ?_) (fun _ => ?_)
              ·
                exact x_sub [2, 3, 4, 5, 6] rfl (hj6)
              ·
                refine x_iload (pc := 57) 6 dX11_hasKind_57 rfl ?_
                refine x_iconst (pc := 59) 4 dX11_hasKind_59 rfl ?_
                refine x_icmp_eq (pc := 60) 65 dX11_hasKind_60 (by decide) (fun _ => ?_) (fun _ => ?_)
                ·
                  exact x_sub [2, 3, 4, 5, 6] rfl (hj6)
                ·
                  refine x_iconst (pc := 63) 1 dX11_hasKind_63 rfl ?_
                  exact x_zretC (rm := r11_hasKind) rfl rfl (by decide) dX11_hasKind_64
set_option maxRecDepth 20000 in
theorem x11_hasKind (E : zEn)  (h1 : Nat) (h2 : Nat) (v3 : Int32) (σ : zSt) : X E cX11_hasKind m11_hasKind true (zQr E true eI r11_hasKind σ) 0 0 σ [(0, aR 11 (some 0)), (1, aR 5 (some h1)), (2, aR 7 (some h2)), (3, aI v3)] 0 [] (f11_hasKind h1 h2 v3 σ) := by
  unfold f11_hasKind
  refine x_iconst (pc := 0) 0 dX11_hasKind_0 rfl ?_
  refine x_istore (pc := 1) (als' := [(4, aI 0), (0, aR 11 (some 0)), (1, aR 5 (some h1)), (2, aR 7 (some h2)), (3, aI v3)]) 4 dX11_hasKind_1 (by decide) rfl ?_
  refine x_sub [1, 2, 3, 4, 0] rfl (xl11_hasKind_3 E h1 h2 v3 σ zfuel 0)
theorem c_11_hasKind (l : Launch)  (h1 : Nat) (h2 : Nat) (v3 : Int32) (σ : zSt) : zMet l yX11_hasKind cX11_hasKind 7 (some .boolean) r11_hasKind true eI [aR 11 (some 0), aR 5 (some h1), aR 7 (some h2), aI v3] σ (zro (f11_hasKind h1 h2 v3 σ) σ) :=
  zMet_ofR [(0, aR 11 (some 0)), (1, aR 5 (some h1)), (2, aR 7 (some h2)), (3, aI v3)] (by decide +kernel) (fun h => by cases h) (Nat.le_of_ble_eq_true rfl) rfl fun E _ => x11_hasKind E  h1 h2 v3 σ
abbrev r11_markHomesWith : Room := { frames := 2, cells := 0, slots := 0, locals := 49 }
abbrev m11_markHomesWith : zMu := (RX11, 5, (some .int), r11_markHomesWith, false)
set_option maxRecDepth 20000 in
theorem xl11_markHomesWith_5 (E : zEn)   (h1 : Nat) (h2 : Int32)   : ∀ (n : Nat) (v3 : Int32) (v4 : Int32) (σ : zSt), X E cX11_markHomesWith m11_markHomesWith true (zQw E true eI r11_markHomesWith) 0 0 σ [(0, aR 11 (some 0)), (1, aR 7 (some h1)), (2, aI h2), (3, aI v3), (4, aI v4)] 5 [] (f11_markHomesWith_L5 h1 h2 n v3 v4 σ) := by
  intro n
  induction n with
  | zero => intros; exact x_none
  | succ n ih =>
    intro v3 v4 σ
    rw [f11_markHomesWith_L5]
    refine x_iload (pc := 5) 4 dX11_markHomesWith_5 rfl ?_
    refine x_aload_n (pc := 7) 0 dX11_markHomesWith_7 rfl rfl ?_
    refine x_getI (pc := 8) fd_11_1 tk_153 dX11_markHomesWith_8 ?_
    refine x_icmp_ge (pc := 11) 58 dX11_markHomesWith_11 (by decide) (fun _ => ?_) (fun _ => ?_)
    ·
      refine x_iload_n (pc := 58) 3 dX11_markHomesWith_58 rfl rfl ?_
      exact x_iret (rm := r11_markHomesWith) rfl rfl dX11_markHomesWith_59
    ·
      refine x_aload_n (pc := 14) 0 dX11_markHomesWith_14 rfl rfl ?_
      refine x_getF (pc := 15) (j := 0) fd_11_18 rfl rfl tk_170 dX11_markHomesWith_15 ?_
      refine x_iload (pc := 18) 4 dX11_markHomesWith_18 rfl ?_
      refine x_aload_n (pc := 20) 0 dX11_markHomesWith_20 rfl rfl ?_
      refine x_aload_n (pc := 21) 0 dX11_markHomesWith_21 rfl rfl ?_
      refine x_getF (pc := 22) (j := 0) fd_11_0 rfl rfl tk_152 dX11_markHomesWith_22 ?_
      refine x_iload (pc := 25) 4 dX11_markHomesWith_25 rfl ?_
      refine x_aald (pc := 27) (g0 := 5) ar_1200 (by decide) rfl dX11_markHomesWith_27 (fun m1 => ?_)
      refine x_nameR (fun o2 => ?_)
      refine x_aload_n (pc := 28) 1 dX11_markHomesWith_28 rfl rfl ?_
      refine x_iload_n (pc := 29) 2 dX11_markHomesWith_29 rfl rfl ?_
      rcases o2 with _ | i3
      · exact x_none
      ·
        skip
        refine x_zocS ?_
        refine x_callVr (pc := 30) (as := [aR 5 (some i3), aR 7 (some h1), aI h2]) (rest := [aI v4, aR 1218 (some 0)]) (fun l => c_11_hasKind l i3 h1 h2 σ) md_X11_hasKind ⟨_, _, rfl, by decide⟩ tk_639 tp_14 tk_637 dX11_markHomesWith_30 rfl ⟨by decide, by decide, by decide, by decide⟩ ⟨fun _ => rfl, fun _ => Or.inl rfl⟩ rfl (Nat.le_of_ble_eq_true rfl) (fun r4 => ?_)
        show X E _ _ _ _ 0 0 _ _ _ [aI r4, aI v4, aR 1218 (some 0)] _
        refine x_zast (pc := 33) ar_1218 dX11_markHomesWith_33 (fun m5 => ?_)
        refine x_nameS (fun s6 => ?_)
        refine x_iload_n (pc := 34) 3 dX11_markHomesWith_34 rfl rfl ?_
        refine x_aload_n (pc := 35) 0 dX11_markHomesWith_35 rfl rfl ?_
        refine x_getF (pc := 36) (j := 0) fd_11_18 rfl rfl tk_170 dX11_markHomesWith_36 ?_
        refine x_iload (pc := 39) 4 dX11_markHomesWith_39 rfl ?_
        refine x_zald (pc := 41) ar_1218 dX11_markHomesWith_41 (fun m7 => ?_)
        refine x_mg (c := (gI s6 1218 0 m7) = 0) (a := 0) (b := 1) 50 [aI v3] ?_ (fun hm8 => ?_)
        ·
          refine x_iadd (pc := 50) dX11_markHomesWith_50 ?_
          refine x_nameI (fun x12 => ?_)
          refine x_istore_n (pc := 51) (als' := [(3, aI x12), (0, aR 11 (some 0)), (1, aR 7 (some h1)), (2, aI h2), (4, aI v4)]) 3 dX11_markHomesWith_51 rfl (by decide) rfl ?_
          refine x_iinc (pc := 52) (als' := [(4, aI (v4 + 1)), (3, aI x12), (0, aR 11 (some 0)), (1, aR 7 (some h1)), (2, aI h2)]) 4 4 (c := 1) dX11_markHomesWith_52 rfl rfl (by decide) rfl ?_
          refine x_nameV (g := fun y14 => [(4, aI y14), (3, aI x12), (0, aR 11 (some 0)), (1, aR 7 (some h1)), (2, aI h2)]) (fun x13 => ?_) rfl
          refine x_goto (pc := 55) 5 dX11_markHomesWith_55 (by decide) ?_
          exact x_sub [2, 3, 4, 1, 0] rfl (ih x12 x13 s6)
        ·
          refine x_same (c := (gI s6 1218 0 m7) = 0) ?_
          refine x_if_eq (pc := 42) 49 dX11_markHomesWith_42 (by decide) (fun hc9 => ?_) (fun hc9 => ?_)
          ·
            have hm10 := x_topT hc9 hm8
            refine x_iconst (pc := 49) 0 dX11_markHomesWith_49 rfl ?_
            exact hm10
          ·
            have hm11 := x_topF hc9 hm8
            refine x_iconst (pc := 45) 1 dX11_markHomesWith_45 rfl ?_
            refine x_goto (pc := 46) 50 dX11_markHomesWith_46 (by decide) ?_
            exact hm11
set_option maxRecDepth 20000 in
theorem x11_markHomesWith (E : zEn)  (h1 : Nat) (v2 : Int32) (σ : zSt) : X E cX11_markHomesWith m11_markHomesWith true (zQw E true eI r11_markHomesWith) 0 0 σ [(0, aR 11 (some 0)), (1, aR 7 (some h1)), (2, aI v2)] 0 [] (f11_markHomesWith h1 v2 σ) := by
  unfold f11_markHomesWith
  refine x_iconst (pc := 0) 0 dX11_markHomesWith_0 rfl ?_
  refine x_istore_n (pc := 1) (als' := [(3, aI 0), (0, aR 11 (some 0)), (1, aR 7 (some h1)), (2, aI v2)]) 3 dX11_markHomesWith_1 rfl (by decide) rfl ?_
  refine x_iconst (pc := 2) 0 dX11_markHomesWith_2 rfl ?_
  refine x_istore (pc := 3) (als' := [(4, aI 0), (3, aI 0), (0, aR 11 (some 0)), (1, aR 7 (some h1)), (2, aI v2)]) 4 dX11_markHomesWith_3 (by decide) rfl ?_
  refine x_sub [2, 3, 4, 1, 0] rfl (xl11_markHomesWith_5 E h1 v2 zfuel 0 0 σ)
theorem c_11_markHomesWith (l : Launch)  (h1 : Nat) (v2 : Int32) (σ : zSt) : zMet l yX11_markHomesWith cX11_markHomesWith 5 (some .int) r11_markHomesWith true eI [aR 11 (some 0), aR 7 (some h1), aI v2] σ (f11_markHomesWith h1 v2 σ) :=
  zMet_of [(0, aR 11 (some 0)), (1, aR 7 (some h1)), (2, aI v2)] (by decide +kernel) (fun h => by cases h) (Nat.le_of_ble_eq_true rfl) rfl fun E _ => x11_markHomesWith E  h1 v2 σ
abbrev r11_isOfGroup : Room := { frames := 2, cells := 0, slots := 0, locals := 42 }
abbrev m11_isOfGroup : zMu := (RX11, 5, (some .boolean), r11_isOfGroup, false)
set_option maxRecDepth 20000 in
theorem x11_isOfGroup (E : zEn)  (h1 : Nat) (h2 : Nat) (v3 : Int32) (σ : zSt) : X E cX11_isOfGroup m11_isOfGroup true (zQr E true eI r11_isOfGroup σ) 0 0 σ [(0, aR 11 (some 0)), (1, aR 5 (some h1)), (2, aR 7 (some h2)), (3, aI v3)] 0 [] (f11_isOfGroup h1 h2 v3 σ) := by
  unfold f11_isOfGroup
  refine x_iload_n (pc := 0) 3 dX11_isOfGroup_0 rfl rfl ?_
  refine x_bipush (pc := 1) 10 dX11_isOfGroup_1 rfl ?_
  refine x_iremC (pc := 3) dX11_isOfGroup_3 (by decide) ?_
  refine x_nameI (fun x1 => ?_)
  refine x_istore (pc := 4) (als' := [(4, aI x1), (0, aR 11 (some 0)), (1, aR 5 (some h1)), (2, aR 7 (some h2)), (3, aI v3)]) 4 dX11_isOfGroup_4 (by decide) rfl ?_
  refine x_iload_n (pc := 6) 3 dX11_isOfGroup_6 rfl rfl ?_
  refine x_bipush (pc := 7) 10 dX11_isOfGroup_7 rfl ?_
  refine x_idivC (pc := 9) dX11_isOfGroup_9 (by decide) ?_
  refine x_nameI (fun x2 => ?_)
  refine x_table (pc := 10) dX11_isOfGroup_10 (by decide) (fun tg3 ht4 => ?_) (fun x => ?_)
  ·
    refine x_ite (fun hc5 => ?_) (fun hc5 => ?_)
    ·
      obtain rfl : tg3 = 36 := zsw_at hc5 ht4 (by decide)
      refine x_aload_n (pc := 36) 1 dX11_isOfGroup_36 rfl rfl ?_
      refine x_getI (pc := 37) fd_5_0 tk_228 dX11_isOfGroup_37 ?_
      refine x_iload (pc := 40) 4 dX11_isOfGroup_40 rfl ?_
      refine x_icmp_ne (pc := 42) 49 dX11_isOfGroup_42 (by decide) (fun _ => ?_) (fun _ => ?_)
      ·
        refine x_iconst (pc := 49) 0 dX11_isOfGroup_49 rfl ?_
        exact x_zretC (rm := r11_isOfGroup) rfl rfl (by decide) dX11_isOfGroup_50
      ·
        refine x_iconst (pc := 45) 1 dX11_isOfGroup_45 rfl ?_
        refine x_goto (pc := 46) 50 dX11_isOfGroup_46 (by decide) ?_
        exact x_zretC (rm := r11_isOfGroup) rfl rfl (by decide) dX11_isOfGroup_50
    ·
      refine x_ite (fun hc6 => ?_) (fun hc6 => ?_)
      ·
        obtain rfl : tg3 = 51 := zsw_at hc6 ht4 (by decide)
        refine x_aload_n (pc := 51) 1 dX11_isOfGroup_51 rfl rfl ?_
        refine x_aload_n (pc := 52) 2 dX11_isOfGroup_52 rfl rfl ?_
        refine x_getI (pc := 53) fd_7_0 tk_365 dX11_isOfGroup_53 ?_
        refine x_callVr (pc := 56) (as := [aI (gI σ 7 h2 0)]) (rest := []) (fun l => c_5_crewOf l h1 (gI σ 7 h2 0) σ) md_X5_crewOf ⟨_, _, rfl, by decide⟩ tk_305 tk_306 tk_304 dX11_isOfGroup_56 rfl ⟨by decide, by decide, by decide, by decide⟩ ⟨fun _ => rfl, fun _ => Or.inl rfl⟩ rfl (Nat.le_of_ble_eq_true rfl) (fun r7 => ?_)
        show X E _ _ _ _ 0 0 _ _ _ [aI r7] _
        refine x_iload (pc := 59) 4 dX11_isOfGroup_59 rfl ?_
        refine x_icmp_ne (pc := 61) 68 dX11_isOfGroup_61 (by decide) (fun _ => ?_) (fun _ => ?_)
        ·
          refine x_iconst (pc := 68) 0 dX11_isOfGroup_68 rfl ?_
          exact x_zretC (rm := r11_isOfGroup) rfl rfl (by decide) dX11_isOfGroup_69
        ·
          refine x_iconst (pc := 64) 1 dX11_isOfGroup_64 rfl ?_
          refine x_goto (pc := 65) 69 dX11_isOfGroup_65 (by decide) ?_
          exact x_zretC (rm := r11_isOfGroup) rfl rfl (by decide) dX11_isOfGroup_69
      ·
        refine x_ite (fun hc8 => ?_) (fun hc8 => ?_)
        ·
          obtain rfl : tg3 = 70 := zsw_at hc8 ht4 (by decide)
          refine x_aload_n (pc := 70) 1 dX11_isOfGroup_70 rfl rfl ?_
          refine x_getI (pc := 71) fd_5_3 tk_234 dX11_isOfGroup_71 ?_
          refine x_iload (pc := 74) 4 dX11_isOfGroup_74 rfl ?_
          refine x_icmp_ne (pc := 76) 83 dX11_isOfGroup_76 (by decide) (fun _ => ?_) (fun _ => ?_)
          ·
            refine x_iconst (pc := 83) 0 dX11_isOfGroup_83 rfl ?_
            exact x_zretC (rm := r11_isOfGroup) rfl rfl (by decide) dX11_isOfGroup_84
          ·
            refine x_iconst (pc := 79) 1 dX11_isOfGroup_79 rfl ?_
            refine x_goto (pc := 80) 84 dX11_isOfGroup_80 (by decide) ?_
            exact x_zretC (rm := r11_isOfGroup) rfl rfl (by decide) dX11_isOfGroup_84
        ·
          obtain rfl : tg3 = 85 := zswd_at (cs := [0, 1, 2]) ht4 (by decide) (by simp only [List.mem_cons, List.not_mem_nil, or_false, not_or]; exact ⟨hc5, hc6, hc8⟩) (by decide)
          refine x_aload_n (pc := 85) 1 dX11_isOfGroup_85 rfl rfl ?_
          refine x_getI (pc := 86) fd_5_2 tk_232 dX11_isOfGroup_86 ?_
          refine x_aload_n (pc := 89) 0 dX11_isOfGroup_89 rfl rfl ?_
          refine x_getI (pc := 90) fd_11_8 tk_160 dX11_isOfGroup_90 ?_
          refine x_icmp_ge (pc := 93) 100 dX11_isOfGroup_93 (by decide) (fun _ => ?_) (fun _ => ?_)
          ·
            refine x_iconst (pc := 100) 0 dX11_isOfGroup_100 rfl ?_
            exact x_zretC (rm := r11_isOfGroup) rfl rfl (by decide) dX11_isOfGroup_101
          ·
            refine x_iconst (pc := 96) 1 dX11_isOfGroup_96 rfl ?_
            refine x_goto (pc := 97) 101 dX11_isOfGroup_97 (by decide) ?_
            exact x_zretC (rm := r11_isOfGroup) rfl rfl (by decide) dX11_isOfGroup_101
  · exact ztoff_pos (by decide) (by decide) x
theorem c_11_isOfGroup (l : Launch)  (h1 : Nat) (h2 : Nat) (v3 : Int32) (σ : zSt) : zMet l yX11_isOfGroup cX11_isOfGroup 5 (some .boolean) r11_isOfGroup true eI [aR 11 (some 0), aR 5 (some h1), aR 7 (some h2), aI v3] σ (zro (f11_isOfGroup h1 h2 v3 σ) σ) :=
  zMet_ofR [(0, aR 11 (some 0)), (1, aR 5 (some h1)), (2, aR 7 (some h2)), (3, aI v3)] (by decide +kernel) (fun h => by cases h) (Nat.le_of_ble_eq_true rfl) rfl fun E _ => x11_isOfGroup E  h1 h2 v3 σ
abbrev r11_sizeOfGroup : Room := { frames := 3, cells := 0, slots := 0, locals := 66 }
abbrev m11_sizeOfGroup : zMu := (RX11, 6, (some .int), r11_sizeOfGroup, false)
set_option maxRecDepth 20000 in
theorem xl11_sizeOfGroup_6 (E : zEn)   (h1 : Nat) (h2 : Int32) (h3 : Int32) (σ : zSt)   : ∀ (n : Nat) (v4 : Int32) (v5 : Int32), X E cX11_sizeOfGroup m11_sizeOfGroup true (zQr E true eI r11_sizeOfGroup σ) 0 0 σ [(0, aR 11 (some 0)), (1, aR 7 (some h1)), (2, aI h2), (3, aI h3), (4, aI v4), (5, aI v5)] 6 [] (f11_sizeOfGroup_L6 h1 h2 h3 σ n v4 v5) := by
  intro n
  induction n with
  | zero => intros; exact x_none
  | succ n ih =>
    intro v4 v5
    rw [f11_sizeOfGroup_L6]
    refine x_iload (pc := 6) 5 dX11_sizeOfGroup_6 rfl ?_
    refine x_aload_n (pc := 8) 0 dX11_sizeOfGroup_8 rfl rfl ?_
    refine x_getI (pc := 9) fd_11_1 tk_153 dX11_sizeOfGroup_9 ?_
    refine x_icmp_ge (pc := 12) 54 dX11_sizeOfGroup_12 (by decide) (fun _ => ?_) (fun _ => ?_)
    ·
      refine x_iload (pc := 54) 4 dX11_sizeOfGroup_54 rfl ?_
      exact x_iret (rm := r11_sizeOfGroup) rfl rfl dX11_sizeOfGroup_56
    ·
      refine x_aload_n (pc := 15) 0 dX11_sizeOfGroup_15 rfl rfl ?_
      refine x_aload_n (pc := 16) 0 dX11_sizeOfGroup_16 rfl rfl ?_
      refine x_getF (pc := 17) (j := 0) fd_11_0 rfl rfl tk_152 dX11_sizeOfGroup_17 ?_
      refine x_iload (pc := 20) 5 dX11_sizeOfGroup_20 rfl ?_
      refine x_aald (pc := 22) (g0 := 5) ar_1200 (by decide) rfl dX11_sizeOfGroup_22 (fun m1 => ?_)
      refine x_nameR (fun o2 => ?_)
      refine x_aload_n (pc := 23) 1 dX11_sizeOfGroup_23 rfl rfl ?_
      refine x_iload_n (pc := 24) 2 dX11_sizeOfGroup_24 rfl rfl ?_
      rcases o2 with _ | i3
      · exact x_none
      ·
        skip
        refine x_zocS ?_
        refine x_callVr (pc := 25) (as := [aR 5 (some i3), aR 7 (some h1), aI h2]) (rest := []) (fun l => c_11_isOfGroup l i3 h1 h2 σ) md_X11_isOfGroup ⟨_, _, rfl, by decide⟩ tk_647 tp_16 tk_645 dX11_sizeOfGroup_25 rfl ⟨by decide, by decide, by decide, by decide⟩ ⟨fun _ => rfl, fun _ => Or.inl rfl⟩ rfl (Nat.le_of_ble_eq_true rfl) (fun r4 => ?_)
        show X E _ _ _ _ 0 0 _ _ _ [aI r4] _
        refine x_join (P := fun (j6 : Int32 → Option Int32) => ∀ (a5 : Int32), X E cX11_sizeOfGroup m11_sizeOfGroup true (zQr E true eI r11_sizeOfGroup σ) 0 0 σ [(0, aR 11 (some 0)), (1, aR 7 (some h1)), (2, aI h2), (3, aI h3), (4, aI a5), (5, aI v5)] 48 [] (j6 a5)) ?_ ?_
        · intro a5
          refine x_iinc (pc := 48) (als' := [(5, aI (v5 + 1)), (0, aR 11 (some 0)), (1, aR 7 (some h1)), (2, aI h2), (3, aI h3), (4, aI a5)]) 5 5 (c := 1) dX11_sizeOfGroup_48 rfl rfl (by decide) rfl ?_
          refine x_nameV (g := fun y9 => [(5, aI y9), (0, aR 11 (some 0)), (1, aR 7 (some h1)), (2, aI h2), (3, aI h3), (4, aI a5)]) (fun x8 => ?_) rfl
          refine x_goto (pc := 51) 6 dX11_sizeOfGroup_51 (by decide) ?_
          exact x_sub [1, 2, 3, 4, 5, 0] rfl (ih a5 x8)
        · intro j6 hj7
          refine x_if_eq (pc := 28) 48 dX11_sizeOfGroup_28 (by decide) (fun _ => ?_) (fun _ => ?_)
          ·
            exact hj7 v4
          ·
            refine x_aload_n (pc := 31) 0 dX11_sizeOfGroup_31 rfl rfl ?_
            refine x_getF (pc := 32) (j := 0) fd_11_18 rfl rfl tk_170 dX11_sizeOfGroup_32 ?_
            refine x_iload (pc := 35) 5 dX11_sizeOfGroup_35 rfl ?_
            refine x_zald (pc := 37) ar_1218 dX11_sizeOfGroup_37 (fun m10 => ?_)
            refine x_join (P := fun (j11 : Option Int32) => X E cX11_sizeOfGroup m11_sizeOfGroup true (zQr E true eI r11_sizeOfGroup σ) 0 0 σ [(0, aR 11 (some 0)), (1, aR 7 (some h1)), (2, aI h2), (3, aI h3), (4, aI v4), (5, aI v5)] 45 [] j11) ?_ ?_
            ·
              refine x_iinc (pc := 45) (als' := [(4, aI (v4 + 1)), (0, aR 11 (some 0)), (1, aR 7 (some h1)), (2, aI h2), (3, aI h3), (5, aI v5)]) 4 4 (c := 1) dX11_sizeOfGroup_45 rfl rfl (by decide) rfl ?_
              refine x_nameV (g := fun y14 => [(4, aI y14), (0, aR 11 (some 0)), (1, aR 7 (some h1)), (2, aI h2), (3, aI h3), (5, aI v5)]) (fun x13 => ?_) rfl
              exact x_sub [1, 2, 3, 4, 0, 5] rfl (hj7 x13)
            · intro j11 hj12
              refine x_if_ne (pc := 38) 45 dX11_sizeOfGroup_38 (by decide) (fun _ => ?_) (fun _ => ?_)
              ·
                exact hj12
              ·
                refine x_iload_n (pc := 41) 3 dX11_sizeOfGroup_41 rfl rfl ?_
                refine x_if_ne (pc := 42) 48 dX11_sizeOfGroup_42 (by decide) (fun _ => ?_) (fun _ => ?_)
                ·
                  exact hj7 v4
                ·
                  exact hj12
set_option maxRecDepth 20000 in
theorem x11_sizeOfGroup (E : zEn)  (h1 : Nat) (v2 : Int32) (v3 : Int32) (σ : zSt) : X E cX11_sizeOfGroup m11_sizeOfGroup true (zQr E true eI r11_sizeOfGroup σ) 0 0 σ [(0, aR 11 (some 0)), (1, aR 7 (some h1)), (2, aI v2), (3, aI v3)] 0 [] (f11_sizeOfGroup h1 v2 v3 σ) := by
  unfold f11_sizeOfGroup
  refine x_iconst (pc := 0) 0 dX11_sizeOfGroup_0 rfl ?_
  refine x_istore (pc := 1) (als' := [(4, aI 0), (0, aR 11 (some 0)), (1, aR 7 (some h1)), (2, aI v2), (3, aI v3)]) 4 dX11_sizeOfGroup_1 (by decide) rfl ?_
  refine x_iconst (pc := 3) 0 dX11_sizeOfGroup_3 rfl ?_
  refine x_istore (pc := 4) (als' := [(5, aI 0), (4, aI 0), (0, aR 11 (some 0)), (1, aR 7 (some h1)), (2, aI v2), (3, aI v3)]) 5 dX11_sizeOfGroup_4 (by decide) rfl ?_
  refine x_sub [2, 3, 4, 5, 1, 0] rfl (xl11_sizeOfGroup_6 E h1 v2 v3 σ zfuel 0 0)
theorem c_11_sizeOfGroup (l : Launch)  (h1 : Nat) (v2 : Int32) (v3 : Int32) (σ : zSt) : zMet l yX11_sizeOfGroup cX11_sizeOfGroup 6 (some .int) r11_sizeOfGroup true eI [aR 11 (some 0), aR 7 (some h1), aI v2, aI v3] σ (zro (f11_sizeOfGroup h1 v2 v3 σ) σ) :=
  zMet_ofR [(0, aR 11 (some 0)), (1, aR 7 (some h1)), (2, aI v2), (3, aI v3)] (by decide +kernel) (fun h => by cases h) (Nat.le_of_ble_eq_true rfl) rfl fun E _ => x11_sizeOfGroup E  h1 v2 v3 σ
abbrev r11_joined : Room := { frames := 4, cells := 0, slots := 0, locals := 91 }
abbrev m11_joined : zMu := (RX11, 7, (some .int), r11_joined, false)
set_option maxRecDepth 20000 in
theorem x11_joined (E : zEn)  (v1 : Int32) (v2 : Int32) (v3 : Int32) (v4 : Int32) (σ : zSt) : X E cX11_joined m11_joined true (zQw E true eI r11_joined) 0 0 σ [(0, aR 11 (some 0)), (1, aI v1), (2, aI v2), (3, aI v3), (4, aI v4)] 0 [] (f11_joined v1 v2 v3 v4 σ) := by
  unfold f11_joined
  refine x_aload_n (pc := 0) 0 dX11_joined_0 rfl rfl ?_
  refine x_iload_n (pc := 1) 1 dX11_joined_1 rfl rfl ?_
  refine x_callVr (pc := 2) (as := [aI v1]) (rest := []) (fun l => c_11_kindAt l v1 σ) md_X11_kindAt ⟨_, _, rfl, by decide⟩ tk_382 tp_6 tk_380 dX11_joined_2 rfl ⟨by decide, by decide, by decide, by decide⟩ ⟨fun _ => rfl, fun _ => Or.inl rfl⟩ rfl (Nat.le_of_ble_eq_true rfl) (fun o2 => ?_)
  show X E _ _ _ _ 0 0 _ _ _ [aR 7 o2] _
  refine x_astore (pc := 5) (als' := [(5, aR 7 o2), (0, aR 11 (some 0)), (1, aI v1), (2, aI v2), (3, aI v3), (4, aI v4)]) 5 dX11_joined_5 (by decide) rfl ?_
  refine x_aload (pc := 7) 5 dX11_joined_7 rfl ?_
  rcases o2 with _ | i3
  ·
    refine x_ifnullN (pc := 9) 35 dX11_joined_9 (by decide) ?_
    refine x_iconst (pc := 35) (-1) dX11_joined_35 rfl ?_
    exact x_iret (rm := r11_joined) rfl rfl dX11_joined_36
  ·
    refine x_ifnullS (pc := 9) dX11_joined_9 ?_
    refine x_iload_n (pc := 12) 2 dX11_joined_12 rfl rfl ?_
    refine x_callSr (pc := 13) (as := [aI v2]) (rest := []) (fun l => c_11_isGroup l true v2 σ) md_X11_isGroup tk_631 tk_630 dX11_joined_13 rfl ⟨by decide, by decide, by decide, by decide⟩ ⟨fun _ => rfl, fun _ => Or.inl rfl⟩ rfl (Nat.le_of_ble_eq_true rfl) (fun r4 => ?_)
    show X E _ _ _ _ 0 0 _ _ _ [aI r4] _
    refine x_if_eq (pc := 16) 35 dX11_joined_16 (by decide) (fun _ => ?_) (fun _ => ?_)
    ·
      refine x_iconst (pc := 35) (-1) dX11_joined_35 rfl ?_
      exact x_iret (rm := r11_joined) rfl rfl dX11_joined_36
    ·
      refine x_iload_n (pc := 19) 3 dX11_joined_19 rfl rfl ?_
      refine x_callSr (pc := 20) (as := [aI v3]) (rest := []) (fun l => c_11_isDay l true v3 σ) md_X11_isDay tk_576 tk_575 dX11_joined_20 rfl ⟨by decide, by decide, by decide, by decide⟩ ⟨fun _ => rfl, fun _ => Or.inl rfl⟩ rfl (Nat.le_of_ble_eq_true rfl) (fun r5 => ?_)
      show X E _ _ _ _ 0 0 _ _ _ [aI r5] _
      refine x_if_eq (pc := 23) 35 dX11_joined_23 (by decide) (fun _ => ?_) (fun _ => ?_)
      ·
        refine x_iconst (pc := 35) (-1) dX11_joined_35 rfl ?_
        exact x_iret (rm := r11_joined) rfl rfl dX11_joined_36
      ·
        refine x_iload (pc := 26) 4 dX11_joined_26 rfl ?_
        refine x_iconst (pc := 28) 3 dX11_joined_28 rfl ?_
        refine x_callSr (pc := 29) (as := [aI v4, aI 3]) (rest := []) (fun l => c_11_isIn l true v4 3 σ) md_X11_isIn tk_219 tk_218 dX11_joined_29 rfl ⟨by decide, by decide, by decide, by decide⟩ ⟨fun _ => rfl, fun _ => Or.inl rfl⟩ rfl (Nat.le_of_ble_eq_true rfl) (fun r6 => ?_)
        show X E _ _ _ _ 0 0 _ _ _ [aI r6] _
        refine x_if_ne (pc := 32) 37 dX11_joined_32 (by decide) (fun _ => ?_) (fun _ => ?_)
        ·
          refine x_aload_n (pc := 37) 0 dX11_joined_37 rfl rfl ?_
          refine x_aload (pc := 38) 5 dX11_joined_38 rfl ?_
          refine x_iload_n (pc := 40) 3 dX11_joined_40 rfl rfl ?_
          refine x_callV (pc := 41) (as := [aR 7 (some i3), aI v3]) (rest := []) (fun l => c_11_markHomesWith l i3 v3 σ) md_X11_markHomesWith ⟨_, _, rfl, by decide⟩ tk_635 tp_13 tk_633 dX11_joined_41 rfl ⟨by decide, by decide, by decide, by decide⟩ ⟨fun _ => rfl, fun _ => Or.inl rfl⟩ rfl (Nat.le_of_ble_eq_true rfl) (fun r7 s8 => ?_)
          show X E _ _ _ _ 0 0 _ _ _ [aI r7] _
          refine x_istore (pc := 44) (als' := [(6, aI r7), (5, aR 7 (some i3)), (0, aR 11 (some 0)), (1, aI v1), (2, aI v2), (3, aI v3), (4, aI v4)]) 6 dX11_joined_44 (by decide) rfl ?_
          refine x_iload (pc := 46) 4 dX11_joined_46 rfl ?_
          refine x_if_ne (pc := 48) 54 dX11_joined_48 (by decide) (fun _ => ?_) (fun _ => ?_)
          ·
            refine x_iload (pc := 54) 4 dX11_joined_54 rfl ?_
            refine x_iconst (pc := 56) 1 dX11_joined_56 rfl ?_
            refine x_icmp_ne (pc := 57) 71 dX11_joined_57 (by decide) (fun _ => ?_) (fun _ => ?_)
            ·
              refine x_aload_n (pc := 71) 0 dX11_joined_71 rfl rfl ?_
              refine x_aload (pc := 72) 5 dX11_joined_72 rfl ?_
              refine x_iload_n (pc := 74) 2 dX11_joined_74 rfl rfl ?_
              refine x_iconst (pc := 75) 0 dX11_joined_75 rfl ?_
              refine x_callVr (pc := 76) (as := [aR 7 (some i3), aI v2, aI 0]) (rest := []) (fun l => c_11_sizeOfGroup l i3 v2 0 s8) md_X11_sizeOfGroup ⟨_, _, rfl, by decide⟩ tk_643 tp_15 tk_641 dX11_joined_76 rfl ⟨by decide, by decide, by decide, by decide⟩ ⟨fun _ => rfl, fun _ => Or.inl rfl⟩ rfl (Nat.le_of_ble_eq_true rfl) (fun r10 => ?_)
              show X E _ _ _ _ 0 0 _ _ _ [aI r10] _
              exact x_iret (rm := r11_joined) rfl rfl dX11_joined_79
            ·
              refine x_aload_n (pc := 60) 0 dX11_joined_60 rfl rfl ?_
              refine x_aload (pc := 61) 5 dX11_joined_61 rfl ?_
              refine x_iload_n (pc := 63) 2 dX11_joined_63 rfl rfl ?_
              refine x_iconst (pc := 64) 1 dX11_joined_64 rfl ?_
              refine x_callVr (pc := 65) (as := [aR 7 (some i3), aI v2, aI 1]) (rest := []) (fun l => c_11_sizeOfGroup l i3 v2 1 s8) md_X11_sizeOfGroup ⟨_, _, rfl, by decide⟩ tk_643 tp_15 tk_641 dX11_joined_65 rfl ⟨by decide, by decide, by decide, by decide⟩ ⟨fun _ => rfl, fun _ => Or.inl rfl⟩ rfl (Nat.le_of_ble_eq_true rfl) (fun r9 => ?_)
              show X E _ _ _ _ 0 0 _ _ _ [aI r9] _
              refine x_goto (pc := 68) 79 dX11_joined_68 (by decide) ?_
              exact x_iret (rm := r11_joined) rfl rfl dX11_joined_79
          ·
            refine x_iload (pc := 51) 6 dX11_joined_51 rfl ?_
            exact x_iret (rm := r11_joined) rfl rfl dX11_joined_53
        ·
          refine x_iconst (pc := 35) (-1) dX11_joined_35 rfl ?_
          exact x_iret (rm := r11_joined) rfl rfl dX11_joined_36
theorem c_11_joined (l : Launch)  (v1 : Int32) (v2 : Int32) (v3 : Int32) (v4 : Int32) (σ : zSt) : zMet l yX11_joined cX11_joined 7 (some .int) r11_joined true eI [aR 11 (some 0), aI v1, aI v2, aI v3, aI v4] σ (f11_joined v1 v2 v3 v4 σ) :=
  zMet_of [(0, aR 11 (some 0)), (1, aI v1), (2, aI v2), (3, aI v3), (4, aI v4)] (by decide +kernel) (fun h => by cases h) (Nat.le_of_ble_eq_true rfl) rfl fun E _ => x11_joined E  v1 v2 v3 v4 σ
abbrev r11_chanceOf : Room := { frames := 4, cells := 0, slots := 0, locals := 91 }
abbrev m11_chanceOf : zMu := (RX11, 6, (some .int), r11_chanceOf, false)
set_option maxRecDepth 20000 in
theorem x11_chanceOf (E : zEn)  (h1 : Nat) (v2 : Int32) (v3 : Int32) (σ : zSt) : X E cX11_chanceOf m11_chanceOf true (zQr E true eI r11_chanceOf σ) 0 0 σ [(0, aR 11 (some 0)), (1, aR 7 (some h1)), (2, aI v2), (3, aI v3)] 0 [] (f11_chanceOf h1 v2 v3 σ) := by
  unfold f11_chanceOf
  refine x_aload_n (pc := 0) 0 dX11_chanceOf_0 rfl rfl ?_
  refine x_aload_n (pc := 1) 1 dX11_chanceOf_1 rfl rfl ?_
  refine x_iload_n (pc := 2) 2 dX11_chanceOf_2 rfl rfl ?_
  refine x_iconst (pc := 3) 0 dX11_chanceOf_3 rfl ?_
  refine x_callVr (pc := 4) (as := [aR 7 (some h1), aI v2, aI 0]) (rest := []) (fun l => c_11_sizeOfGroup l h1 v2 0 σ) md_X11_sizeOfGroup ⟨_, _, rfl, by decide⟩ tk_643 tp_15 tk_641 dX11_chanceOf_4 rfl ⟨by decide, by decide, by decide, by decide⟩ ⟨fun _ => rfl, fun _ => Or.inl rfl⟩ rfl (Nat.le_of_ble_eq_true rfl) (fun r1 => ?_)
  show X E _ _ _ _ 0 0 _ _ _ [aI r1] _
  refine x_istore (pc := 7) (als' := [(4, aI r1), (0, aR 11 (some 0)), (1, aR 7 (some h1)), (2, aI v2), (3, aI v3)]) 4 dX11_chanceOf_7 (by decide) rfl ?_
  refine x_aload_n (pc := 9) 0 dX11_chanceOf_9 rfl rfl ?_
  refine x_aload_n (pc := 10) 1 dX11_chanceOf_10 rfl rfl ?_
  refine x_iload_n (pc := 11) 2 dX11_chanceOf_11 rfl rfl ?_
  refine x_iconst (pc := 12) 1 dX11_chanceOf_12 rfl ?_
  refine x_callVr (pc := 13) (as := [aR 7 (some h1), aI v2, aI 1]) (rest := []) (fun l => c_11_sizeOfGroup l h1 v2 1 σ) md_X11_sizeOfGroup ⟨_, _, rfl, by decide⟩ tk_643 tp_15 tk_641 dX11_chanceOf_13 rfl ⟨by decide, by decide, by decide, by decide⟩ ⟨fun _ => rfl, fun _ => Or.inl rfl⟩ rfl (Nat.le_of_ble_eq_true rfl) (fun r2 => ?_)
  show X E _ _ _ _ 0 0 _ _ _ [aI r2] _
  refine x_istore (pc := 16) (als' := [(5, aI r2), (4, aI r1), (0, aR 11 (some 0)), (1, aR 7 (some h1)), (2, aI v2), (3, aI v3)]) 5 dX11_chanceOf_16 (by decide) rfl ?_
  refine x_aload_n (pc := 18) 0 dX11_chanceOf_18 rfl rfl ?_
  refine x_getI (pc := 19) fd_11_1 tk_153 dX11_chanceOf_19 ?_
  refine x_iload_n (pc := 22) 3 dX11_chanceOf_22 rfl rfl ?_
  refine x_iload (pc := 23) 4 dX11_chanceOf_23 rfl ?_
  refine x_iload (pc := 25) 5 dX11_chanceOf_25 rfl ?_
  refine x_callSr (pc := 27) (as := [aI (gI σ 11 0 1), aI v3, aI r1, aI r2]) (rest := []) (fun l => c_8_chanceOfMany l true (gI σ 11 0 1) v3 r1 r2 σ) md_X8_chanceOfMany tk_658 tk_657 dX11_chanceOf_27 rfl ⟨by decide, by decide, by decide, by decide⟩ ⟨fun _ => rfl, fun _ => Or.inl rfl⟩ rfl (Nat.le_of_ble_eq_true rfl) (fun r3 => ?_)
  show X E _ _ _ _ 0 0 _ _ _ [aI r3] _
  exact x_iret (rm := r11_chanceOf) rfl rfl dX11_chanceOf_30
theorem c_11_chanceOf (l : Launch)  (h1 : Nat) (v2 : Int32) (v3 : Int32) (σ : zSt) : zMet l yX11_chanceOf cX11_chanceOf 6 (some .int) r11_chanceOf true eI [aR 11 (some 0), aR 7 (some h1), aI v2, aI v3] σ (zro (f11_chanceOf h1 v2 v3 σ) σ) :=
  zMet_ofR [(0, aR 11 (some 0)), (1, aR 7 (some h1)), (2, aI v2), (3, aI v3)] (by decide +kernel) (fun h => by cases h) (Nat.le_of_ble_eq_true rfl) rfl fun E _ => x11_chanceOf E  h1 v2 v3 σ
abbrev r11_chance : Room := { frames := 5, cells := 0, slots := 0, locals := 116 }
abbrev m11_chance : zMu := (RX11, 6, (some .int), r11_chance, false)
set_option maxRecDepth 20000 in
theorem x11_chance (E : zEn)  (v1 : Int32) (v2 : Int32) (v3 : Int32) (σ : zSt) : X E cX11_chance m11_chance true (zQw E true eI r11_chance) 0 0 σ [(0, aR 11 (some 0)), (1, aI v1), (2, aI v2), (3, aI v3)] 0 [] (f11_chance v1 v2 v3 σ) := by
  unfold f11_chance
  refine x_aload_n (pc := 0) 0 dX11_chance_0 rfl rfl ?_
  refine x_iload_n (pc := 1) 1 dX11_chance_1 rfl rfl ?_
  refine x_callVr (pc := 2) (as := [aI v1]) (rest := []) (fun l => c_11_kindAt l v1 σ) md_X11_kindAt ⟨_, _, rfl, by decide⟩ tk_382 tp_6 tk_380 dX11_chance_2 rfl ⟨by decide, by decide, by decide, by decide⟩ ⟨fun _ => rfl, fun _ => Or.inl rfl⟩ rfl (Nat.le_of_ble_eq_true rfl) (fun o2 => ?_)
  show X E _ _ _ _ 0 0 _ _ _ [aR 7 o2] _
  refine x_astore (pc := 5) (als' := [(4, aR 7 o2), (0, aR 11 (some 0)), (1, aI v1), (2, aI v2), (3, aI v3)]) 4 dX11_chance_5 (by decide) rfl ?_
  refine x_aload (pc := 7) 4 dX11_chance_7 rfl ?_
  rcases o2 with _ | i3
  ·
    refine x_ifnullN (pc := 9) 26 dX11_chance_9 (by decide) ?_
    refine x_iconst (pc := 26) (-1) dX11_chance_26 rfl ?_
    exact x_iret (rm := r11_chance) rfl rfl dX11_chance_27
  ·
    refine x_ifnullS (pc := 9) dX11_chance_9 ?_
    refine x_iload_n (pc := 12) 2 dX11_chance_12 rfl rfl ?_
    refine x_callSr (pc := 13) (as := [aI v2]) (rest := []) (fun l => c_11_isGroup l true v2 σ) md_X11_isGroup tk_631 tk_630 dX11_chance_13 rfl ⟨by decide, by decide, by decide, by decide⟩ ⟨fun _ => rfl, fun _ => Or.inl rfl⟩ rfl (Nat.le_of_ble_eq_true rfl) (fun r4 => ?_)
    show X E _ _ _ _ 0 0 _ _ _ [aI r4] _
    refine x_if_eq (pc := 16) 26 dX11_chance_16 (by decide) (fun _ => ?_) (fun _ => ?_)
    ·
      refine x_iconst (pc := 26) (-1) dX11_chance_26 rfl ?_
      exact x_iret (rm := r11_chance) rfl rfl dX11_chance_27
    ·
      refine x_iload_n (pc := 19) 3 dX11_chance_19 rfl rfl ?_
      refine x_callSr (pc := 20) (as := [aI v3]) (rest := []) (fun l => c_11_isDay l true v3 σ) md_X11_isDay tk_576 tk_575 dX11_chance_20 rfl ⟨by decide, by decide, by decide, by decide⟩ ⟨fun _ => rfl, fun _ => Or.inl rfl⟩ rfl (Nat.le_of_ble_eq_true rfl) (fun r5 => ?_)
      show X E _ _ _ _ 0 0 _ _ _ [aI r5] _
      refine x_if_ne (pc := 23) 28 dX11_chance_23 (by decide) (fun _ => ?_) (fun _ => ?_)
      ·
        refine x_aload_n (pc := 28) 0 dX11_chance_28 rfl rfl ?_
        refine x_aload (pc := 29) 4 dX11_chance_29 rfl ?_
        refine x_iload_n (pc := 31) 3 dX11_chance_31 rfl rfl ?_
        refine x_callV (pc := 32) (as := [aR 7 (some i3), aI v3]) (rest := []) (fun l => c_11_markHomesWith l i3 v3 σ) md_X11_markHomesWith ⟨_, _, rfl, by decide⟩ tk_635 tp_13 tk_633 dX11_chance_32 rfl ⟨by decide, by decide, by decide, by decide⟩ ⟨fun _ => rfl, fun _ => Or.inl rfl⟩ rfl (Nat.le_of_ble_eq_true rfl) (fun r6 s7 => ?_)
        show X E _ _ _ _ 0 0 _ _ _ [aI r6] _
        refine x_istore (pc := 35) (als' := [(5, aI r6), (4, aR 7 (some i3)), (0, aR 11 (some 0)), (1, aI v1), (2, aI v2), (3, aI v3)]) 5 dX11_chance_35 (by decide) rfl ?_
        refine x_aload_n (pc := 37) 0 dX11_chance_37 rfl rfl ?_
        refine x_aload (pc := 38) 4 dX11_chance_38 rfl ?_
        refine x_iload_n (pc := 40) 2 dX11_chance_40 rfl rfl ?_
        refine x_iload (pc := 41) 5 dX11_chance_41 rfl ?_
        refine x_callVr (pc := 43) (as := [aR 7 (some i3), aI v2, aI r6]) (rest := []) (fun l => c_11_chanceOf l i3 v2 r6 s7) md_X11_chanceOf ⟨_, _, rfl, by decide⟩ tk_655 tp_17 tk_653 dX11_chance_43 rfl ⟨by decide, by decide, by decide, by decide⟩ ⟨fun _ => rfl, fun _ => Or.inl rfl⟩ rfl (Nat.le_of_ble_eq_true rfl) (fun r8 => ?_)
        show X E _ _ _ _ 0 0 _ _ _ [aI r8] _
        exact x_iret (rm := r11_chance) rfl rfl dX11_chance_46
      ·
        refine x_iconst (pc := 26) (-1) dX11_chance_26 rfl ?_
        exact x_iret (rm := r11_chance) rfl rfl dX11_chance_27
theorem c_11_chance (l : Launch)  (v1 : Int32) (v2 : Int32) (v3 : Int32) (σ : zSt) : zMet l yX11_chance cX11_chance 6 (some .int) r11_chance true eI [aR 11 (some 0), aI v1, aI v2, aI v3] σ (f11_chance v1 v2 v3 σ) :=
  zMet_of [(0, aR 11 (some 0)), (1, aI v1), (2, aI v2), (3, aI v3)] (by decide +kernel) (fun h => by cases h) (Nat.le_of_ble_eq_true rfl) rfl fun E _ => x11_chance E  v1 v2 v3 σ
