abbrev r11_judge : Room := { frames := 11, cells := 0, slots := 0, locals := 315 }
abbrev m11_judge : zMu := (RX11, 4, (some .int), r11_judge, false)
set_option maxRecDepth 20000 in
theorem x11_judge (E : zEn)  (v1 : Int32) (v2 : Int32) (σ : zSt) : X E cX11_judge m11_judge true (zQw E true eI r11_judge) 0 0 σ [(0, aR 11 (some 0)), (1, aI v1), (2, aI v2)] 0 [] (f11_judge v1 v2 σ) := by
  unfold f11_judge
  refine x_aload_n (pc := 0) 0 dX11_judge_0 rfl rfl ?_
  refine x_iload_n (pc := 1) 1 dX11_judge_1 rfl rfl ?_
  refine x_callVr (pc := 2) (as := [aI v1]) (rest := []) (fun l => c_11_faultAt l v1 σ) md_X11_faultAt ⟨_, _, rfl, by decide⟩ tk_521 tp_8 tk_519 dX11_judge_2 rfl ⟨by decide, by decide, by decide, by decide⟩ ⟨fun _ => rfl, fun _ => Or.inl rfl⟩ rfl (Nat.le_of_ble_eq_true rfl) (fun o2 => ?_)
  show X E _ _ _ _ 0 0 _ _ _ [aR 1 o2] _
  refine x_astore_n (pc := 5) (als' := [(3, aR 1 o2), (0, aR 11 (some 0)), (1, aI v1), (2, aI v2)]) 3 dX11_judge_5 rfl (by decide) rfl ?_
  refine x_aload_n (pc := 6) 3 dX11_judge_6 rfl rfl ?_
  rcases o2 with _ | i3
  ·
    refine x_ifnullN (pc := 7) 18 dX11_judge_7 (by decide) ?_
    refine x_iconst (pc := 18) (-1) dX11_judge_18 rfl ?_
    exact x_iret (rm := r11_judge) rfl rfl dX11_judge_19
  ·
    refine x_ifnullS (pc := 7) dX11_judge_7 ?_
    refine x_iload_n (pc := 10) 2 dX11_judge_10 rfl rfl ?_
    refine x_iconst (pc := 11) 4 dX11_judge_11 rfl ?_
    refine x_callSr (pc := 12) (as := [aI v2, aI 4]) (rest := []) (fun l => c_11_isIn l true v2 4 σ) md_X11_isIn tk_219 tk_218 dX11_judge_12 rfl ⟨by decide, by decide, by decide, by decide⟩ ⟨fun _ => rfl, fun _ => Or.inl rfl⟩ rfl (Nat.le_of_ble_eq_true rfl) (fun r4 => ?_)
    show X E _ _ _ _ 0 0 _ _ _ [aI r4] _
    refine x_if_ne (pc := 15) 20 dX11_judge_15 (by decide) (fun _ => ?_) (fun _ => ?_)
    ·
      refine x_aload_n (pc := 20) 0 dX11_judge_20 rfl rfl ?_
      refine x_aload_n (pc := 21) 3 dX11_judge_21 rfl rfl ?_
      refine x_callV (pc := 22) (as := [aR 1 (some i3)]) (rest := []) (fun l => c_11_decide l i3 σ) md_X11_decide ⟨_, _, rfl, by decide⟩ tk_988 tp_30 tk_986 dX11_judge_22 rfl ⟨by decide, by decide, by decide, by decide⟩ ⟨fun _ => rfl, fun _ => Or.inl rfl⟩ rfl (Nat.le_of_ble_eq_true rfl) (fun _ s6 => ?_)
      show X E _ _ _ _ 0 0 _ _ _ [] _
      refine x_iload_n (pc := 25) 2 dX11_judge_25 rfl rfl ?_
      refine x_table (pc := 26) dX11_judge_26 (by decide) (fun tg7 ht8 => ?_) (fun x => ?_)
      ·
        refine x_ite (fun hc9 => ?_) (fun hc9 => ?_)
        ·
          obtain rfl : tg7 = 52 := zsw_at hc9 ht8 (by decide)
          refine x_aload_n (pc := 52) 0 dX11_judge_52 rfl rfl ?_
          refine x_getF (pc := 53) (j := 0) fd_11_14 rfl rfl tk_166 dX11_judge_53 ?_
          refine x_getI (pc := 56) fd_6_1 tk_62 dX11_judge_56 ?_
          exact x_iret (rm := r11_judge) rfl rfl dX11_judge_59
        ·
          refine x_ite (fun hc10 => ?_) (fun hc10 => ?_)
          ·
            obtain rfl : tg7 = 60 := zsw_at hc10 ht8 (by decide)
            refine x_aload_n (pc := 60) 0 dX11_judge_60 rfl rfl ?_
            refine x_getF (pc := 61) (j := 0) fd_11_14 rfl rfl tk_166 dX11_judge_61 ?_
            refine x_getI (pc := 64) fd_6_2 tk_64 dX11_judge_64 ?_
            exact x_iret (rm := r11_judge) rfl rfl dX11_judge_67
          ·
            refine x_ite (fun hc11 => ?_) (fun hc11 => ?_)
            ·
              obtain rfl : tg7 = 68 := zsw_at hc11 ht8 (by decide)
              refine x_aload_n (pc := 68) 0 dX11_judge_68 rfl rfl ?_
              refine x_getF (pc := 69) (j := 0) fd_11_14 rfl rfl tk_166 dX11_judge_69 ?_
              refine x_getI (pc := 72) fd_6_3 tk_66 dX11_judge_72 ?_
              exact x_iret (rm := r11_judge) rfl rfl dX11_judge_75
            ·
              obtain rfl : tg7 = 76 := zswd_at (cs := [0, 1, 2]) ht8 (by decide) (by simp only [List.mem_cons, List.not_mem_nil, or_false, not_or]; exact ⟨hc9, hc10, hc11⟩) (by decide)
              refine x_aload_n (pc := 76) 0 dX11_judge_76 rfl rfl ?_
              refine x_getF (pc := 77) (j := 0) fd_11_14 rfl rfl tk_166 dX11_judge_77 ?_
              refine x_getI (pc := 80) fd_6_4 tk_68 dX11_judge_80 ?_
              exact x_iret (rm := r11_judge) rfl rfl dX11_judge_83
      · exact ztoff_pos (by decide) (by decide) x
    ·
      refine x_iconst (pc := 18) (-1) dX11_judge_18 rfl ?_
      exact x_iret (rm := r11_judge) rfl rfl dX11_judge_19
theorem c_11_judge (l : Launch)  (v1 : Int32) (v2 : Int32) (σ : zSt) : zMet l yX11_judge cX11_judge 4 (some .int) r11_judge true eI [aR 11 (some 0), aI v1, aI v2] σ (f11_judge v1 v2 σ) :=
  zMet_of [(0, aR 11 (some 0)), (1, aI v1), (2, aI v2)] (by decide +kernel) (fun h => by cases h) (Nat.le_of_ble_eq_true rfl) rfl fun E _ => x11_judge E  v1 v2 σ
abbrev r11_free : Room := { frames := 9, cells := 0, slots := 0, locals := 268 }
abbrev m11_free : zMu := (RX11, 6, (some .int), r11_free, false)
set_option maxRecDepth 20000 in
theorem x11_free (E : zEn)  (v1 : Int32) (σ : zSt) : X E cX11_free m11_free true (zQw E true eI r11_free) 0 0 σ [(0, aR 11 (some 0)), (1, aI v1)] 0 [] (f11_free v1 σ) := by
  unfold f11_free
  refine x_aload_n (pc := 0) 0 dX11_free_0 rfl rfl ?_
  refine x_iload_n (pc := 1) 1 dX11_free_1 rfl rfl ?_
  refine x_callVr (pc := 2) (as := [aI v1]) (rest := []) (fun l => c_11_homeAt l v1 σ) md_X11_homeAt ⟨_, _, rfl, by decide⟩ tk_280 tp_0 tk_278 dX11_free_2 rfl ⟨by decide, by decide, by decide, by decide⟩ ⟨fun _ => rfl, fun _ => Or.inl rfl⟩ rfl (Nat.le_of_ble_eq_true rfl) (fun o2 => ?_)
  show X E _ _ _ _ 0 0 _ _ _ [aR 5 o2] _
  refine x_astore_n (pc := 5) (als' := [(2, aR 5 o2), (0, aR 11 (some 0)), (1, aI v1)]) 2 dX11_free_5 rfl (by decide) rfl ?_
  refine x_aload_n (pc := 6) 2 dX11_free_6 rfl rfl ?_
  rcases o2 with _ | i3
  ·
    refine x_ifnonnullN (pc := 7) dX11_free_7 ?_
    refine x_iconst (pc := 10) (-1) dX11_free_10 rfl ?_
    exact x_iret (rm := r11_free) rfl rfl dX11_free_11
  ·
    refine x_ifnonnullS (pc := 7) 12 dX11_free_7 (by decide) ?_
    refine x_aload_n (pc := 12) 2 dX11_free_12 rfl rfl ?_
    refine x_callVr (pc := 13) (as := []) (rest := []) (fun l => c_5_hasKey l true i3 σ) md_X5_hasKey ⟨_, _, rfl, by decide⟩ tk_284 tk_285 tk_283 dX11_free_13 rfl ⟨by decide, by decide, by decide, by decide⟩ ⟨fun _ => rfl, fun _ => Or.inl rfl⟩ rfl (Nat.le_of_ble_eq_true rfl) (fun r4 => ?_)
    show X E _ _ _ _ 0 0 _ _ _ [aI r4] _
    refine x_if_ne (pc := 16) 22 dX11_free_16 (by decide) (fun _ => ?_) (fun _ => ?_)
    ·
      refine x_aload_n (pc := 22) 0 dX11_free_22 rfl rfl ?_
      refine x_getF (pc := 23) (j := 1) fd_11_13 rfl rfl tk_165 dX11_free_23 ?_
      refine x_aload_n (pc := 26) 0 dX11_free_26 rfl rfl ?_
      refine x_getF (pc := 27) (j := 1) fd_11_13 rfl rfl tk_165 dX11_free_27 ?_
      refine x_aload_n (pc := 30) 2 dX11_free_30 rfl rfl ?_
      refine x_aload_n (pc := 31) 0 dX11_free_31 rfl rfl ?_
      refine x_getI (pc := 32) fd_11_6 tk_158 dX11_free_32 ?_
      refine x_callVr (pc := 35) (as := [aR 5 (some i3), aI (gI σ 11 0 6)]) (rest := [aR 9 (some 1)]) (fun l => c_9_holding l 1 i3 (gI σ 11 0 6) σ) md_X9_holding ⟨_, _, rfl, by decide⟩ tk_979 tk_980 tk_978 dX11_free_35 rfl ⟨by decide, by decide, by decide, by decide⟩ ⟨fun _ => rfl, fun _ => Or.inl rfl⟩ rfl (Nat.le_of_ble_eq_true rfl) (fun r5 => ?_)
      show X E _ _ _ _ 0 0 _ _ _ [aI r5, aR 9 (some 1)] _
      refine x_callVr (pc := 38) (as := [aI r5]) (rest := []) (fun l => c_9_at l 1 r5 σ) md_X9_at ⟨_, _, rfl, by decide⟩ tk_1003 tk_1004 tk_1002 dX11_free_38 rfl ⟨by decide, by decide, by decide, by decide⟩ ⟨fun _ => rfl, fun _ => Or.inl rfl⟩ rfl (Nat.le_of_ble_eq_true rfl) (fun o7 => ?_)
      show X E _ _ _ _ 0 0 _ _ _ [aR 10 o7] _
      refine x_astore_n (pc := 41) (als' := [(3, aR 10 o7), (2, aR 5 (some i3)), (0, aR 11 (some 0)), (1, aI v1)]) 3 dX11_free_41 rfl (by decide) rfl ?_
      refine x_iconst (pc := 42) 0 dX11_free_42 rfl ?_
      refine x_istore (pc := 43) (als' := [(4, aI 0), (3, aR 10 o7), (2, aR 5 (some i3)), (0, aR 11 (some 0)), (1, aI v1)]) 4 dX11_free_43 (by decide) rfl ?_
      refine x_aload_n (pc := 45) 3 dX11_free_45 rfl rfl ?_
      refine x_join (P := fun (j10 : Int32 → zSt → Option (Int32 × zSt)) => ∀ (a8 : Int32) (s9 : zSt), X E cX11_free m11_free true (zQw E true eI r11_free) 0 0 s9 [(2, aR 5 (some i3)), (4, aI a8)] 94 [] (j10 a8 s9)) ?_ ?_
      · intro a8 s9
        refine x_iconst (pc := 94) 0 dX11_free_94 rfl ?_
        refine x_iload (pc := 95) 4 dX11_free_95 rfl ?_
        refine x_aload_n (pc := 97) 2 dX11_free_97 rfl rfl ?_
        refine x_getI (pc := 98) fd_5_6 tk_241 dX11_free_98 ?_
        refine x_zmin (pc := 101) (rest := [aI 0]) tk_740 tk_741 tk_14 tk_742 dX11_free_101 ⟨by decide, by decide, by decide, by decide⟩ (Nat.le_of_ble_eq_true rfl) ?_
        refine x_zmax (pc := 104) (rest := []) tk_743 tk_744 tk_14 tk_745 dX11_free_104 ⟨by decide, by decide, by decide, by decide⟩ (Nat.le_of_ble_eq_true rfl) ?_
        refine x_nameI (fun x12 => ?_)
        refine x_istore (pc := 107) (als' := [(5, aI x12), (2, aR 5 (some i3)), (4, aI a8)]) 5 dX11_free_107 (by decide) rfl ?_
        refine x_aload_n (pc := 109) 2 dX11_free_109 rfl rfl ?_
        refine x_dup (pc := 110) dX11_free_110 rfl ?_
        refine x_getI (pc := 111) fd_5_6 tk_241 dX11_free_111 ?_
        refine x_iload (pc := 114) 5 dX11_free_114 rfl ?_
        refine x_isub (pc := 116) dX11_free_116 ?_
        refine x_putI (pc := 117) fd_5_6 pt_5_6 tk_241 dX11_free_117 (Or.inl rfl) ?_
        refine x_nameS (fun s13 => ?_)
        refine x_aload_n (pc := 120) 2 dX11_free_120 rfl rfl ?_
        refine x_dup (pc := 121) dX11_free_121 rfl ?_
        refine x_getI (pc := 122) fd_5_7 tk_242 dX11_free_122 ?_
        refine x_iload (pc := 125) 5 dX11_free_125 rfl ?_
        refine x_iadd (pc := 127) dX11_free_127 ?_
        refine x_putI (pc := 128) fd_5_7 pt_5_7 tk_242 dX11_free_128 (Or.inl rfl) ?_
        refine x_nameS (fun s14 => ?_)
        refine x_iload (pc := 131) 5 dX11_free_131 rfl ?_
        exact x_iret (rm := r11_free) rfl rfl dX11_free_133
      · intro j10 hj11
        rcases o7 with _ | i15
        ·
          refine x_ifnullN (pc := 46) 94 dX11_free_46 (by decide) ?_
          exact x_sub [2, 0] rfl (hj11 0 σ)
        ·
          refine x_ifnullS (pc := 46) dX11_free_46 ?_
          refine x_aload_n (pc := 49) 0 dX11_free_49 rfl rfl ?_
          refine x_getF (pc := 50) (j := 0) fd_11_15 rfl rfl tk_167 dX11_free_50 ?_
          refine x_aload_n (pc := 53) 0 dX11_free_53 rfl rfl ?_
          refine x_aload_n (pc := 54) 2 dX11_free_54 rfl rfl ?_
          refine x_callVr (pc := 55) (as := [aR 5 (some i3)]) (rest := [aR 2 (some 0)]) (fun l => c_11_leftIn l i3 σ) md_X11_leftIn ⟨_, _, rfl, by decide⟩ tk_319 tp_2 tk_317 dX11_free_55 rfl ⟨by decide, by decide, by decide, by decide⟩ ⟨fun _ => rfl, fun _ => Or.inl rfl⟩ rfl (Nat.le_of_ble_eq_true rfl) (fun r16 => ?_)
          show X E _ _ _ _ 0 0 _ _ _ [aI r16, aR 2 (some 0)] _
          refine x_aload_n (pc := 58) 0 dX11_free_58 rfl rfl ?_
          refine x_getI (pc := 59) fd_11_6 tk_158 dX11_free_59 ?_
          refine x_aload_n (pc := 62) 2 dX11_free_62 rfl rfl ?_
          refine x_getI (pc := 63) fd_5_4 tk_237 dX11_free_63 ?_
          refine x_isub (pc := 66) dX11_free_66 ?_
          refine x_aload_n (pc := 67) 0 dX11_free_67 rfl rfl ?_
          refine x_aload_n (pc := 68) 2 dX11_free_68 rfl rfl ?_
          refine x_callVr (pc := 69) (as := [aR 5 (some i3)]) (rest := [aI ((gI σ 11 0 6) - (gI σ 5 i3 4)), aI r16, aR 2 (some 0)]) (fun l => c_11_falseIn l i3 σ) md_X11_falseIn ⟨_, _, rfl, by decide⟩ tk_331 tp_3 tk_329 dX11_free_69 rfl ⟨by decide, by decide, by decide, by decide⟩ ⟨fun _ => rfl, fun _ => Or.inl rfl⟩ rfl (Nat.le_of_ble_eq_true rfl) (fun r17 => ?_)
          show X E _ _ _ _ 0 0 _ _ _ [aI r17, aI ((gI σ 11 0 6) - (gI σ 5 i3 4)), aI r16, aR 2 (some 0)] _
          refine x_aload_n (pc := 72) 0 dX11_free_72 rfl rfl ?_
          refine x_aload_n (pc := 73) 2 dX11_free_73 rfl rfl ?_
          refine x_callVr (pc := 74) (as := [aR 5 (some i3)]) (rest := [aI r17, aI ((gI σ 11 0 6) - (gI σ 5 i3 4)), aI r16, aR 2 (some 0)]) (fun l => c_11_brokenIn l i3 σ) md_X11_brokenIn ⟨_, _, rfl, by decide⟩ tk_344 tp_5 tk_342 dX11_free_74 rfl ⟨by decide, by decide, by decide, by decide⟩ ⟨fun _ => rfl, fun _ => Or.inl rfl⟩ rfl (Nat.le_of_ble_eq_true rfl) (fun r18 => ?_)
          show X E _ _ _ _ 0 0 _ _ _ [aI r18, aI r17, aI ((gI σ 11 0 6) - (gI σ 5 i3 4)), aI r16, aR 2 (some 0)] _
          refine x_aload_n (pc := 77) 2 dX11_free_77 rfl rfl ?_
          refine x_getI (pc := 78) fd_5_6 tk_241 dX11_free_78 ?_
          refine x_callV (pc := 81) (as := [aI r16, aI ((gI σ 11 0 6) - (gI σ 5 i3 4)), aI r17, aI r18, aI (gI σ 5 i3 6)]) (rest := []) (fun l => c_2_setFacts l r16 ((gI σ 11 0 6) - (gI σ 5 i3 4)) r17 r18 (gI σ 5 i3 6) σ) md_X2_setFacts ⟨_, _, rfl, by decide⟩ tk_1055 tk_1056 tk_1054 dX11_free_81 rfl ⟨by decide, by decide, by decide, by decide⟩ ⟨fun _ => rfl, fun _ => Or.inl rfl⟩ rfl (Nat.le_of_ble_eq_true rfl) (fun _ s20 => ?_)
          show X E _ _ _ _ 0 0 _ _ _ [] _
          refine x_aload_n (pc := 84) 0 dX11_free_84 rfl rfl ?_
          refine x_getF (pc := 85) (j := 0) fd_11_15 rfl rfl tk_167 dX11_free_85 ?_
          refine x_aload_n (pc := 88) 3 dX11_free_88 rfl rfl ?_
          refine x_callV (pc := 89) (as := [aR 10 (some i15)]) (rest := []) (fun l => c_2_gives l i15 s20) md_X2_gives ⟨_, _, rfl, by decide⟩ tk_1059 tk_1060 tk_1058 dX11_free_89 rfl ⟨by decide, by decide, by decide, by decide⟩ ⟨fun _ => rfl, fun _ => Or.inl rfl⟩ rfl (Nat.le_of_ble_eq_true rfl) (fun r21 s22 => ?_)
          show X E _ _ _ _ 0 0 _ _ _ [aI r21] _
          refine x_istore (pc := 92) (als' := [(4, aI r21), (3, aR 10 (some i15)), (2, aR 5 (some i3)), (0, aR 11 (some 0)), (1, aI v1)]) 4 dX11_free_92 (by decide) rfl ?_
          exact x_sub [2, 0] rfl (hj11 r21 s22)
    ·
      refine x_bipush (pc := 19) (-3) dX11_free_19 rfl ?_
      exact x_iret (rm := r11_free) rfl rfl dX11_free_21
theorem c_11_free (l : Launch)  (v1 : Int32) (σ : zSt) : zMet l yX11_free cX11_free 6 (some .int) r11_free true eI [aR 11 (some 0), aI v1] σ (f11_free v1 σ) :=
  zMet_of [(0, aR 11 (some 0)), (1, aI v1)] (by decide +kernel) (fun h => by cases h) (Nat.le_of_ble_eq_true rfl) rfl fun E _ => x11_free E  v1 σ
abbrev r11_take : Room := { frames := 11, cells := 0, slots := 0, locals := 315 }
abbrev m11_take : zMu := (RX11, 4, (some .int), r11_take, false)
set_option maxRecDepth 20000 in
theorem x11_take (E : zEn)  (v1 : Int32) (σ : zSt) : X E cX11_take m11_take true (zQw E true eI r11_take) 0 0 σ [(0, aR 11 (some 0)), (1, aI v1)] 0 [] (f11_take v1 σ) := by
  unfold f11_take
  refine x_aload_n (pc := 0) 0 dX11_take_0 rfl rfl ?_
  refine x_iload_n (pc := 1) 1 dX11_take_1 rfl rfl ?_
  refine x_callVr (pc := 2) (as := [aI v1]) (rest := []) (fun l => c_11_faultAt l v1 σ) md_X11_faultAt ⟨_, _, rfl, by decide⟩ tk_521 tp_8 tk_519 dX11_take_2 rfl ⟨by decide, by decide, by decide, by decide⟩ ⟨fun _ => rfl, fun _ => Or.inl rfl⟩ rfl (Nat.le_of_ble_eq_true rfl) (fun o2 => ?_)
  show X E _ _ _ _ 0 0 _ _ _ [aR 1 o2] _
  refine x_astore_n (pc := 5) (als' := [(2, aR 1 o2), (0, aR 11 (some 0)), (1, aI v1)]) 2 dX11_take_5 rfl (by decide) rfl ?_
  refine x_aload_n (pc := 6) 2 dX11_take_6 rfl rfl ?_
  rcases o2 with _ | i3
  ·
    refine x_ifnonnullN (pc := 7) dX11_take_7 ?_
    refine x_iconst (pc := 10) (-1) dX11_take_10 rfl ?_
    exact x_iret (rm := r11_take) rfl rfl dX11_take_11
  ·
    refine x_ifnonnullS (pc := 7) 12 dX11_take_7 (by decide) ?_
    refine x_aload_n (pc := 12) 2 dX11_take_12 rfl rfl ?_
    refine x_callVr (pc := 13) (as := []) (rest := []) (fun l => c_1_isWaiting l i3 σ) md_X1_isWaiting ⟨_, _, rfl, by decide⟩ tk_524 tk_525 tk_523 dX11_take_13 rfl ⟨by decide, by decide, by decide, by decide⟩ ⟨fun _ => rfl, fun _ => Or.inl rfl⟩ rfl (Nat.le_of_ble_eq_true rfl) (fun r4 => ?_)
    show X E _ _ _ _ 0 0 _ _ _ [aI r4] _
    refine x_if_eq (pc := 16) 29 dX11_take_16 (by decide) (fun _ => ?_) (fun _ => ?_)
    ·
      refine x_bipush (pc := 29) (-3) dX11_take_29 rfl ?_
      exact x_iret (rm := r11_take) rfl rfl dX11_take_31
    ·
      refine x_aload_n (pc := 19) 2 dX11_take_19 rfl rfl ?_
      refine x_getF (pc := 20) (j := i3) fd_1_7 rfl rfl tk_446 dX11_take_20 ?_
      refine x_callVr (pc := 23) (as := []) (rest := []) (fun l => c_4_isFull l true i3 σ) md_X4_isFull ⟨_, _, rfl, by decide⟩ tk_529 tk_530 tk_528 dX11_take_23 rfl ⟨by decide, by decide, by decide, by decide⟩ ⟨fun _ => rfl, fun _ => Or.inl rfl⟩ rfl (Nat.le_of_ble_eq_true rfl) (fun r5 => ?_)
      show X E _ _ _ _ 0 0 _ _ _ [aI r5] _
      refine x_if_eq (pc := 26) 32 dX11_take_26 (by decide) (fun _ => ?_) (fun _ => ?_)
      ·
        refine x_aload_n (pc := 32) 0 dX11_take_32 rfl rfl ?_
        refine x_aload_n (pc := 33) 2 dX11_take_33 rfl rfl ?_
        refine x_callV (pc := 34) (as := [aR 1 (some i3)]) (rest := []) (fun l => c_11_decide l i3 σ) md_X11_decide ⟨_, _, rfl, by decide⟩ tk_988 tp_30 tk_986 dX11_take_34 rfl ⟨by decide, by decide, by decide, by decide⟩ ⟨fun _ => rfl, fun _ => Or.inl rfl⟩ rfl (Nat.le_of_ble_eq_true rfl) (fun _ s7 => ?_)
        show X E _ _ _ _ 0 0 _ _ _ [] _
        refine x_aload_n (pc := 37) 0 dX11_take_37 rfl rfl ?_
        refine x_getF (pc := 38) (j := 0) fd_11_14 rfl rfl tk_166 dX11_take_38 ?_
        refine x_getI (pc := 41) fd_6_3 tk_66 dX11_take_41 ?_
        refine x_nameI (fun x8 => ?_)
        refine x_istore_n (pc := 44) (als' := [(3, aI x8), (2, aR 1 (some i3)), (0, aR 11 (some 0)), (1, aI v1)]) 3 dX11_take_44 rfl (by decide) rfl ?_
        refine x_aload_n (pc := 45) 0 dX11_take_45 rfl rfl ?_
        refine x_getF (pc := 46) (j := 0) fd_11_14 rfl rfl tk_166 dX11_take_46 ?_
        refine x_getI (pc := 49) fd_6_1 tk_62 dX11_take_49 ?_
        refine x_if_ne (pc := 52) 66 dX11_take_52 (by decide) (fun _ => ?_) (fun _ => ?_)
        ·
          refine x_bipush (pc := 66) (-3) dX11_take_66 rfl ?_
          exact x_iret (rm := r11_take) rfl rfl dX11_take_68
        ·
          refine x_iload_n (pc := 55) 3 dX11_take_55 rfl rfl ?_
          refine x_aload_n (pc := 56) 2 dX11_take_56 rfl rfl ?_
          refine x_getR (pc := 57) fd_1_1 tk_432 dX11_take_57 ?_
          refine x_nameR (fun o9 => ?_)
          rcases o9 with _ | i10
          · exact x_none
          ·
            skip
            refine x_zocS ?_
            refine x_getI (pc := 60) fd_5_6 tk_241 dX11_take_60 ?_
            refine x_icmp_le (pc := 63) 69 dX11_take_63 (by decide) (fun _ => ?_) (fun _ => ?_)
            ·
              refine x_aload_n (pc := 69) 2 dX11_take_69 rfl rfl ?_
              refine x_getR (pc := 70) fd_1_1 tk_432 dX11_take_70 ?_
              refine x_nameR (fun o11 => ?_)
              refine x_dup (pc := 73) dX11_take_73 rfl ?_
              rcases o11 with _ | i12
              · exact x_none
              ·
                skip
                refine x_zocS ?_
                refine x_getI (pc := 74) fd_5_6 tk_241 dX11_take_74 ?_
                refine x_iload_n (pc := 77) 3 dX11_take_77 rfl rfl ?_
                refine x_isub (pc := 78) dX11_take_78 ?_
                refine x_putI (pc := 79) fd_5_6 pt_5_6 tk_241 dX11_take_79 (Or.inl rfl) ?_
                refine x_nameS (fun s13 => ?_)
                refine x_aload_n (pc := 82) 2 dX11_take_82 rfl rfl ?_
                refine x_getR (pc := 83) fd_1_1 tk_432 dX11_take_83 ?_
                refine x_nameR (fun o14 => ?_)
                refine x_dup (pc := 86) dX11_take_86 rfl ?_
                rcases o14 with _ | i15
                · exact x_none
                ·
                  skip
                  refine x_zocS ?_
                  refine x_getI (pc := 87) fd_5_8 tk_243 dX11_take_87 ?_
                  refine x_iload_n (pc := 90) 3 dX11_take_90 rfl rfl ?_
                  refine x_iadd (pc := 91) dX11_take_91 ?_
                  refine x_putI (pc := 92) fd_5_8 pt_5_8 tk_243 dX11_take_92 (Or.inl rfl) ?_
                  refine x_nameS (fun s16 => ?_)
                  refine x_aload_n (pc := 95) 2 dX11_take_95 rfl rfl ?_
                  refine x_iconst (pc := 96) 3 dX11_take_96 rfl ?_
                  refine x_aload_n (pc := 97) 0 dX11_take_97 rfl rfl ?_
                  refine x_getI (pc := 98) fd_11_6 tk_158 dX11_take_98 ?_
                  refine x_callV (pc := 101) (as := [aI 3, aI (gI s16 11 0 6)]) (rest := []) (fun l => c_1_endWith l i3 3 (gI s16 11 0 6) s16) md_X1_endWith ⟨_, _, rfl, by decide⟩ tk_568 tk_569 tk_567 dX11_take_101 rfl ⟨by decide, by decide, by decide, by decide⟩ ⟨fun _ => rfl, fun _ => Or.inl rfl⟩ rfl (Nat.le_of_ble_eq_true rfl) (fun _ s18 => ?_)
                  show X E _ _ _ _ 0 0 _ _ _ [] _
                  refine x_iload_n (pc := 104) 3 dX11_take_104 rfl rfl ?_
                  exact x_iret (rm := r11_take) rfl rfl dX11_take_105
            ·
              refine x_bipush (pc := 66) (-3) dX11_take_66 rfl ?_
              exact x_iret (rm := r11_take) rfl rfl dX11_take_68
      ·
        refine x_bipush (pc := 29) (-3) dX11_take_29 rfl ?_
        exact x_iret (rm := r11_take) rfl rfl dX11_take_31
theorem c_11_take (l : Launch)  (v1 : Int32) (σ : zSt) : zMet l yX11_take cX11_take 4 (some .int) r11_take true eI [aR 11 (some 0), aI v1] σ (f11_take v1 σ) :=
  zMet_of [(0, aR 11 (some 0)), (1, aI v1)] (by decide +kernel) (fun h => by cases h) (Nat.le_of_ble_eq_true rfl) rfl fun E _ => x11_take E  v1 σ
abbrev r11_hasListed : Room := { frames := 1, cells := 0, slots := 0, locals := 21 }
abbrev m11_hasListed : zMu := (RX11, 4, (some .boolean), r11_hasListed, false)
set_option maxRecDepth 20000 in
theorem xl11_hasListed_2 (E : zEn)   (h1 : Nat) (h2 : Int32) (σ : zSt)   : ∀ (n : Nat) (v3 : Int32), X E cX11_hasListed m11_hasListed true (zQr E true eI r11_hasListed σ) 0 0 σ [(0, aR 11 (some 0)), (1, aR 5 (some h1)), (2, aI h2), (3, aI v3)] 2 [] (f11_hasListed_L2 h1 h2 σ n v3) := by
  intro n
  induction n with
  | zero => intros; exact x_none
  | succ n ih =>
    intro v3
    rw [f11_hasListed_L2]
    refine x_iload_n (pc := 2) 3 dX11_hasListed_2 rfl rfl ?_
    refine x_aload_n (pc := 3) 0 dX11_hasListed_3 rfl rfl ?_
    refine x_getI (pc := 4) fd_11_5 tk_157 dX11_hasListed_4 ?_
    refine x_icmp_ge (pc := 7) 44 dX11_hasListed_7 (by decide) (fun _ => ?_) (fun _ => ?_)
    ·
      refine x_iconst (pc := 44) 0 dX11_hasListed_44 rfl ?_
      exact x_zretC (rm := r11_hasListed) rfl rfl (by decide) dX11_hasListed_45
    ·
      refine x_aload_n (pc := 10) 0 dX11_hasListed_10 rfl rfl ?_
      refine x_getF (pc := 11) (j := 0) fd_11_4 rfl rfl tk_156 dX11_hasListed_11 ?_
      refine x_iload_n (pc := 14) 3 dX11_hasListed_14 rfl rfl ?_
      refine x_aald (pc := 15) (g0 := 1) ar_1204 (by decide) rfl dX11_hasListed_15 (fun m1 => ?_)
      refine x_nameR (fun o2 => ?_)
      rcases o2 with _ | i3
      · exact x_none
      ·
        skip
        refine x_zocS ?_
        refine x_getR (pc := 16) fd_1_1 tk_432 dX11_hasListed_16 ?_
        refine x_nameR (fun o4 => ?_)
        refine x_aload_n (pc := 19) 1 dX11_hasListed_19 rfl rfl ?_
        refine x_join (P := fun (j5 : Option Int32) => X E cX11_hasListed m11_hasListed true (zQr E true eI r11_hasListed σ) 0 0 σ [(0, aR 11 (some 0)), (1, aR 5 (some h1)), (2, aI h2), (3, aI v3)] 38 [] j5) ?_ ?_
        ·
          refine x_iinc (pc := 38) (als' := [(3, aI (v3 + 1)), (0, aR 11 (some 0)), (1, aR 5 (some h1)), (2, aI h2)]) 3 3 (c := 1) dX11_hasListed_38 rfl rfl (by decide) rfl ?_
          refine x_nameV (g := fun y8 => [(3, aI y8), (0, aR 11 (some 0)), (1, aR 5 (some h1)), (2, aI h2)]) (fun x7 => ?_) rfl
          refine x_goto (pc := 41) 2 dX11_hasListed_41 (by decide) ?_
          exact x_sub [1, 2, 3, 0] rfl (ih x7)
        · intro j5 hj6
          refine x_acmp_ne (pc := 20) 38 (by decide) dX11_hasListed_20 (by decide) (fun _ => ?_) (fun _ => ?_)
          ·
            exact hj6
          ·
            refine x_aload_n (pc := 23) 0 dX11_hasListed_23 rfl rfl ?_
            refine x_getF (pc := 24) (j := 0) fd_11_4 rfl rfl tk_156 dX11_hasListed_24 ?_
            refine x_iload_n (pc := 27) 3 dX11_hasListed_27 rfl rfl ?_
            refine x_aald (pc := 28) (g0 := 1) ar_1204 (by decide) rfl dX11_hasListed_28 (fun m9 => ?_)
            refine x_nameR (fun o10 => ?_)
            refine x_iload_n (pc := 29) 2 dX11_hasListed_29 rfl rfl ?_
            rcases o10 with _ | i11
            · exact x_none
            ·
              skip
              refine x_zocS ?_
              refine x_callVr (pc := 30) (as := [aI h2]) (rest := []) (fun l => c_1_isListedBy l true i11 h2 σ) md_X1_isListedBy ⟨_, _, rfl, by decide⟩ tk_1105 tk_1106 tk_1104 dX11_hasListed_30 rfl ⟨by decide, by decide, by decide, by decide⟩ ⟨fun _ => rfl, fun _ => Or.inl rfl⟩ rfl (Nat.le_of_ble_eq_true rfl) (fun r12 => ?_)
              show X E _ _ _ _ 0 0 _ _ _ [aI r12] _
              refine x_if_eq (pc := 33) 38 dX11_hasListed_33 (by decide) (fun _ => ?_) (fun _ => ?_)
              ·
                exact hj6
              ·
                refine x_iconst (pc := 36) 1 dX11_hasListed_36 rfl ?_
                exact x_zretC (rm := r11_hasListed) rfl rfl (by decide) dX11_hasListed_37
set_option maxRecDepth 20000 in
theorem x11_hasListed (E : zEn)  (h1 : Nat) (v2 : Int32) (σ : zSt) : X E cX11_hasListed m11_hasListed true (zQr E true eI r11_hasListed σ) 0 0 σ [(0, aR 11 (some 0)), (1, aR 5 (some h1)), (2, aI v2)] 0 [] (f11_hasListed h1 v2 σ) := by
  unfold f11_hasListed
  refine x_iconst (pc := 0) 0 dX11_hasListed_0 rfl ?_
  refine x_istore_n (pc := 1) (als' := [(3, aI 0), (0, aR 11 (some 0)), (1, aR 5 (some h1)), (2, aI v2)]) 3 dX11_hasListed_1 rfl (by decide) rfl ?_
  refine x_sub [1, 2, 3, 0] rfl (xl11_hasListed_2 E h1 v2 σ zfuel 0)
theorem c_11_hasListed (l : Launch)  (h1 : Nat) (v2 : Int32) (σ : zSt) : zMet l yX11_hasListed cX11_hasListed 4 (some .boolean) r11_hasListed true eI [aR 11 (some 0), aR 5 (some h1), aI v2] σ (zro (f11_hasListed h1 v2 σ) σ) :=
  zMet_ofR [(0, aR 11 (some 0)), (1, aR 5 (some h1)), (2, aI v2)] (by decide +kernel) (fun h => by cases h) (Nat.le_of_ble_eq_true rfl) rfl fun E _ => x11_hasListed E  h1 v2 σ
abbrev r11_areDoubles : Room := { frames := 2, cells := 0, slots := 0, locals := 44 }
abbrev m11_areDoubles : zMu := (RX11, 4, (some .boolean), r11_areDoubles, false)
set_option maxRecDepth 20000 in
theorem x11_areDoubles (E : zEn)  (h1 : Nat) (v2 : Int32) (v3 : Int32) (σ : zSt) : X E cX11_areDoubles m11_areDoubles true (zQr E true eI r11_areDoubles σ) 0 0 σ [(0, aR 11 (some 0)), (1, aR 5 (some h1)), (2, aI v2), (3, aI v3)] 0 [] (f11_areDoubles h1 v2 v3 σ) := by
  unfold f11_areDoubles
  refine x_aload_n (pc := 0) 0 dX11_areDoubles_0 rfl rfl ?_
  refine x_aload_n (pc := 1) 1 dX11_areDoubles_1 rfl rfl ?_
  refine x_iload_n (pc := 2) 2 dX11_areDoubles_2 rfl rfl ?_
  refine x_callVr (pc := 3) (as := [aR 5 (some h1), aI v2]) (rest := []) (fun l => c_11_hasListed l h1 v2 σ) md_X11_hasListed ⟨_, _, rfl, by decide⟩ tk_1102 tp_42 tk_1100 dX11_areDoubles_3 rfl ⟨by decide, by decide, by decide, by decide⟩ ⟨fun _ => rfl, fun _ => Or.inl rfl⟩ rfl (Nat.le_of_ble_eq_true rfl) (fun r1 => ?_)
  show X E _ _ _ _ 0 0 _ _ _ [aI r1] _
  refine x_join (P := fun (j2 : Option Int32) => X E cX11_areDoubles m11_areDoubles true (zQr E true eI r11_areDoubles σ) 0 0 σ [] 22 [] j2) ?_ ?_
  ·
    refine x_iconst (pc := 22) 0 dX11_areDoubles_22 rfl ?_
    exact x_zretC (rm := r11_areDoubles) rfl rfl (by decide) dX11_areDoubles_23
  · intro j2 hj3
    refine x_if_eq (pc := 6) 22 dX11_areDoubles_6 (by decide) (fun _ => ?_) (fun _ => ?_)
    ·
      exact x_sub [] rfl (hj3)
    ·
      refine x_aload_n (pc := 9) 0 dX11_areDoubles_9 rfl rfl ?_
      refine x_aload_n (pc := 10) 1 dX11_areDoubles_10 rfl rfl ?_
      refine x_iload_n (pc := 11) 3 dX11_areDoubles_11 rfl rfl ?_
      refine x_callVr (pc := 12) (as := [aR 5 (some h1), aI v3]) (rest := []) (fun l => c_11_hasListed l h1 v3 σ) md_X11_hasListed ⟨_, _, rfl, by decide⟩ tk_1102 tp_42 tk_1100 dX11_areDoubles_12 rfl ⟨by decide, by decide, by decide, by decide⟩ ⟨fun _ => rfl, fun _ => Or.inl rfl⟩ rfl (Nat.le_of_ble_eq_true rfl) (fun r4 => ?_)
      show X E _ _ _ _ 0 0 _ _ _ [aI r4] _
      refine x_if_eq (pc := 15) 22 dX11_areDoubles_15 (by decide) (fun _ => ?_) (fun _ => ?_)
      ·
        exact x_sub [] rfl (hj3)
      ·
        refine x_iconst (pc := 18) 1 dX11_areDoubles_18 rfl ?_
        refine x_goto (pc := 19) 23 dX11_areDoubles_19 (by decide) ?_
        exact x_zretC (rm := r11_areDoubles) rfl rfl (by decide) dX11_areDoubles_23
theorem c_11_areDoubles (l : Launch)  (h1 : Nat) (v2 : Int32) (v3 : Int32) (σ : zSt) : zMet l yX11_areDoubles cX11_areDoubles 4 (some .boolean) r11_areDoubles true eI [aR 11 (some 0), aR 5 (some h1), aI v2, aI v3] σ (zro (f11_areDoubles h1 v2 v3 σ) σ) :=
  zMet_ofR [(0, aR 11 (some 0)), (1, aR 5 (some h1)), (2, aI v2), (3, aI v3)] (by decide +kernel) (fun h => by cases h) (Nat.le_of_ble_eq_true rfl) rfl fun E _ => x11_areDoubles E  h1 v2 v3 σ
abbrev r11_doubleHomes : Room := { frames := 3, cells := 0, slots := 0, locals := 67 }
abbrev m11_doubleHomes : zMu := (RX11, 5, (some .int), r11_doubleHomes, false)
set_option maxRecDepth 20000 in
theorem xl11_doubleHomes_5 (E : zEn)   (h1 : Int32) (h2 : Int32) (σ : zSt)   : ∀ (n : Nat) (v3 : Int32) (v4 : Int32), X E cX11_doubleHomes m11_doubleHomes true (zQr E true eI r11_doubleHomes σ) 0 0 σ [(0, aR 11 (some 0)), (1, aI h1), (2, aI h2), (3, aI v3), (4, aI v4)] 5 [] (f11_doubleHomes_L5 h1 h2 σ n v3 v4) := by
  intro n
  induction n with
  | zero => intros; exact x_none
  | succ n ih =>
    intro v3 v4
    rw [f11_doubleHomes_L5]
    refine x_iload (pc := 5) 4 dX11_doubleHomes_5 rfl ?_
    refine x_aload_n (pc := 7) 0 dX11_doubleHomes_7 rfl rfl ?_
    refine x_getI (pc := 8) fd_11_1 tk_153 dX11_doubleHomes_8 ?_
    refine x_icmp_ge (pc := 11) 44 dX11_doubleHomes_11 (by decide) (fun _ => ?_) (fun _ => ?_)
    ·
      refine x_iload_n (pc := 44) 3 dX11_doubleHomes_44 rfl rfl ?_
      exact x_iret (rm := r11_doubleHomes) rfl rfl dX11_doubleHomes_45
    ·
      refine x_iload_n (pc := 14) 3 dX11_doubleHomes_14 rfl rfl ?_
      refine x_aload_n (pc := 15) 0 dX11_doubleHomes_15 rfl rfl ?_
      refine x_aload_n (pc := 16) 0 dX11_doubleHomes_16 rfl rfl ?_
      refine x_getF (pc := 17) (j := 0) fd_11_0 rfl rfl tk_152 dX11_doubleHomes_17 ?_
      refine x_iload (pc := 20) 4 dX11_doubleHomes_20 rfl ?_
      refine x_aald (pc := 22) (g0 := 5) ar_1200 (by decide) rfl dX11_doubleHomes_22 (fun m1 => ?_)
      refine x_nameR (fun o2 => ?_)
      refine x_iload_n (pc := 23) 1 dX11_doubleHomes_23 rfl rfl ?_
      refine x_iload_n (pc := 24) 2 dX11_doubleHomes_24 rfl rfl ?_
      rcases o2 with _ | i3
      · exact x_none
      ·
        skip
        refine x_zocS ?_
        refine x_callVr (pc := 25) (as := [aR 5 (some i3), aI h1, aI h2]) (rest := [aI v3]) (fun l => c_11_areDoubles l i3 h1 h2 σ) md_X11_areDoubles ⟨_, _, rfl, by decide⟩ tk_1098 tp_41 tk_1096 dX11_doubleHomes_25 rfl ⟨by decide, by decide, by decide, by decide⟩ ⟨fun _ => rfl, fun _ => Or.inl rfl⟩ rfl (Nat.le_of_ble_eq_true rfl) (fun r4 => ?_)
        show X E _ _ _ _ 0 0 _ _ _ [aI r4, aI v3] _
        refine x_mg (c := r4 = 0) (a := 0) (b := 1) 36 [aI v3] ?_ (fun hm5 => ?_)
        ·
          refine x_iadd (pc := 36) dX11_doubleHomes_36 ?_
          refine x_nameI (fun x9 => ?_)
          refine x_istore_n (pc := 37) (als' := [(3, aI x9), (0, aR 11 (some 0)), (1, aI h1), (2, aI h2), (4, aI v4)]) 3 dX11_doubleHomes_37 rfl (by decide) rfl ?_
          refine x_iinc (pc := 38) (als' := [(4, aI (v4 + 1)), (3, aI x9), (0, aR 11 (some 0)), (1, aI h1), (2, aI h2)]) 4 4 (c := 1) dX11_doubleHomes_38 rfl rfl (by decide) rfl ?_
          refine x_nameV (g := fun y11 => [(4, aI y11), (3, aI x9), (0, aR 11 (some 0)), (1, aI h1), (2, aI h2)]) (fun x10 => ?_) rfl
          refine x_goto (pc := 41) 5 dX11_doubleHomes_41 (by decide) ?_
          exact x_sub [2, 3, 4, 1, 0] rfl (ih x9 x10)
        ·
          refine x_same (c := r4 = 0) ?_
          refine x_if_eq (pc := 28) 35 dX11_doubleHomes_28 (by decide) (fun hc6 => ?_) (fun hc6 => ?_)
          ·
            have hm7 := x_topT hc6 hm5
            refine x_iconst (pc := 35) 0 dX11_doubleHomes_35 rfl ?_
            exact hm7
          ·
            have hm8 := x_topF hc6 hm5
            refine x_iconst (pc := 31) 1 dX11_doubleHomes_31 rfl ?_
            refine x_goto (pc := 32) 36 dX11_doubleHomes_32 (by decide) ?_
            exact hm8
set_option maxRecDepth 20000 in
theorem x11_doubleHomes (E : zEn)  (v1 : Int32) (v2 : Int32) (σ : zSt) : X E cX11_doubleHomes m11_doubleHomes true (zQr E true eI r11_doubleHomes σ) 0 0 σ [(0, aR 11 (some 0)), (1, aI v1), (2, aI v2)] 0 [] (f11_doubleHomes v1 v2 σ) := by
  unfold f11_doubleHomes
  refine x_iconst (pc := 0) 0 dX11_doubleHomes_0 rfl ?_
  refine x_istore_n (pc := 1) (als' := [(3, aI 0), (0, aR 11 (some 0)), (1, aI v1), (2, aI v2)]) 3 dX11_doubleHomes_1 rfl (by decide) rfl ?_
  refine x_iconst (pc := 2) 0 dX11_doubleHomes_2 rfl ?_
  refine x_istore (pc := 3) (als' := [(4, aI 0), (3, aI 0), (0, aR 11 (some 0)), (1, aI v1), (2, aI v2)]) 4 dX11_doubleHomes_3 (by decide) rfl ?_
  refine x_sub [2, 3, 4, 1, 0] rfl (xl11_doubleHomes_5 E v1 v2 σ zfuel 0 0)
theorem c_11_doubleHomes (l : Launch)  (v1 : Int32) (v2 : Int32) (σ : zSt) : zMet l yX11_doubleHomes cX11_doubleHomes 5 (some .int) r11_doubleHomes true eI [aR 11 (some 0), aI v1, aI v2] σ (zro (f11_doubleHomes v1 v2 σ) σ) :=
  zMet_ofR [(0, aR 11 (some 0)), (1, aI v1), (2, aI v2)] (by decide +kernel) (fun h => by cases h) (Nat.le_of_ble_eq_true rfl) rfl fun E _ => x11_doubleHomes E  v1 v2 σ
abbrev r11_firstListed : Room := { frames := 1, cells := 0, slots := 0, locals := 21 }
abbrev m11_firstListed : zMu := (RX11, 4, (some (.object "SnagBook$Fault")), r11_firstListed, false)
set_option maxRecDepth 20000 in
theorem xl11_firstListed_2 (E : zEn)   (h1 : Nat) (h2 : Int32) (σ : zSt) {K36 : Int32 → Option (Option Nat)} (hK36 : ∀ (v3 : Int32), X E cX11_firstListed m11_firstListed true (zQr E true (eR 1) r11_firstListed σ) 0 0 σ [(0, aR 11 (some 0)), (3, aI v3)] 36 [] (K36 v3)) : ∀ (n : Nat) (v3 : Int32), X E cX11_firstListed m11_firstListed true (zQr E true (eR 1) r11_firstListed σ) 0 0 σ [(0, aR 11 (some 0)), (1, aR 1 (some h1)), (2, aI h2), (3, aI v3)] 2 [] (f11_firstListed_L2 h1 h2 σ K36 n v3) := by
  intro n
  induction n with
  | zero => intros; exact x_none
  | succ n ih =>
    intro v3
    rw [f11_firstListed_L2]
    refine x_iload_n (pc := 2) 3 dX11_firstListed_2 rfl rfl ?_
    refine x_aload_n (pc := 3) 0 dX11_firstListed_3 rfl rfl ?_
    refine x_getI (pc := 4) fd_11_5 tk_157 dX11_firstListed_4 ?_
    refine x_icmp_ge (pc := 7) 49 dX11_firstListed_7 (by decide) (fun _ => ?_) (fun _ => ?_)
    ·
      refine x_null (pc := 49) 1 dX11_firstListed_49 ?_
      exact x_aret (rm := r11_firstListed) rfl rfl dX11_firstListed_50
    ·
      refine x_aload_n (pc := 10) 0 dX11_firstListed_10 rfl rfl ?_
      refine x_getF (pc := 11) (j := 0) fd_11_4 rfl rfl tk_156 dX11_firstListed_11 ?_
      refine x_iload_n (pc := 14) 3 dX11_firstListed_14 rfl rfl ?_
      refine x_aald (pc := 15) (g0 := 1) ar_1204 (by decide) rfl dX11_firstListed_15 (fun m1 => ?_)
      refine x_nameR (fun o2 => ?_)
      refine x_iload_n (pc := 16) 2 dX11_firstListed_16 rfl rfl ?_
      rcases o2 with _ | i3
      · exact x_none
      ·
        skip
        refine x_zocS ?_
        refine x_callVr (pc := 17) (as := [aI h2]) (rest := []) (fun l => c_1_isListedBy l true i3 h2 σ) md_X1_isListedBy ⟨_, _, rfl, by decide⟩ tk_1105 tk_1106 tk_1104 dX11_firstListed_17 rfl ⟨by decide, by decide, by decide, by decide⟩ ⟨fun _ => rfl, fun _ => Or.inl rfl⟩ rfl (Nat.le_of_ble_eq_true rfl) (fun r4 => ?_)
        show X E _ _ _ _ 0 0 _ _ _ [aI r4] _
        refine x_join (P := fun (j5 : Option (Option Nat)) => X E cX11_firstListed m11_firstListed true (zQr E true (eR 1) r11_firstListed σ) 0 0 σ [(0, aR 11 (some 0)), (1, aR 1 (some h1)), (2, aI h2), (3, aI v3)] 43 [] j5) ?_ ?_
        ·
          refine x_iinc (pc := 43) (als' := [(3, aI (v3 + 1)), (0, aR 11 (some 0)), (1, aR 1 (some h1)), (2, aI h2)]) 3 3 (c := 1) dX11_firstListed_43 rfl rfl (by decide) rfl ?_
          refine x_nameV (g := fun y8 => [(3, aI y8), (0, aR 11 (some 0)), (1, aR 1 (some h1)), (2, aI h2)]) (fun x7 => ?_) rfl
          refine x_goto (pc := 46) 2 dX11_firstListed_46 (by decide) ?_
          exact x_sub [1, 2, 3, 0] rfl (ih x7)
        · intro j5 hj6
          refine x_if_eq (pc := 20) 43 dX11_firstListed_20 (by decide) (fun _ => ?_) (fun _ => ?_)
          ·
            exact hj6
          ·
            refine x_aload_n (pc := 23) 0 dX11_firstListed_23 rfl rfl ?_
            refine x_getF (pc := 24) (j := 0) fd_11_4 rfl rfl tk_156 dX11_firstListed_24 ?_
            refine x_iload_n (pc := 27) 3 dX11_firstListed_27 rfl rfl ?_
            refine x_aald (pc := 28) (g0 := 1) ar_1204 (by decide) rfl dX11_firstListed_28 (fun m9 => ?_)
            refine x_nameR (fun o10 => ?_)
            refine x_aload_n (pc := 29) 1 dX11_firstListed_29 rfl rfl ?_
            rcases o10 with _ | i11
            · exact x_none
            ·
              skip
              refine x_zocS ?_
              refine x_callVr (pc := 30) (as := [aR 1 (some h1)]) (rest := []) (fun l => c_1_isSameThing l true i11 h1 σ) md_X1_isSameThing ⟨_, _, rfl, by decide⟩ tk_499 tk_500 tk_498 dX11_firstListed_30 rfl ⟨by decide, by decide, by decide, by decide⟩ ⟨fun _ => rfl, fun _ => Or.inl rfl⟩ rfl (Nat.le_of_ble_eq_true rfl) (fun r12 => ?_)
              show X E _ _ _ _ 0 0 _ _ _ [aI r12] _
              refine x_if_eq (pc := 33) 43 dX11_firstListed_33 (by decide) (fun _ => ?_) (fun _ => ?_)
              ·
                exact hj6
              ·
                exact x_sub [0, 3] rfl (hK36 v3)
set_option maxRecDepth 20000 in
theorem x11_firstListed (E : zEn)  (h1 : Nat) (v2 : Int32) (σ : zSt) : X E cX11_firstListed m11_firstListed true (zQr E true (eR 1) r11_firstListed σ) 0 0 σ [(0, aR 11 (some 0)), (1, aR 1 (some h1)), (2, aI v2)] 0 [] (f11_firstListed h1 v2 σ) := by
  unfold f11_firstListed
  refine x_iconst (pc := 0) 0 dX11_firstListed_0 rfl ?_
  refine x_istore_n (pc := 1) (als' := [(3, aI 0), (0, aR 11 (some 0)), (1, aR 1 (some h1)), (2, aI v2)]) 3 dX11_firstListed_1 rfl (by decide) rfl ?_
  refine x_sub [1, 2, 3, 0] rfl (xl11_firstListed_2 E h1 v2 σ (fun a13 => ?_) zfuel 0)
  ·
    refine x_aload_n (pc := 36) 0 dX11_firstListed_36 rfl rfl ?_
    refine x_getF (pc := 37) (j := 0) fd_11_4 rfl rfl tk_156 dX11_firstListed_37 ?_
    refine x_iload_n (pc := 40) 3 dX11_firstListed_40 rfl rfl ?_
    refine x_aald (pc := 41) (g0 := 1) ar_1204 (by decide) rfl dX11_firstListed_41 (fun m14 => ?_)
    refine x_nameR (fun o15 => ?_)
    exact x_aret (rm := r11_firstListed) rfl rfl dX11_firstListed_42
theorem c_11_firstListed (l : Launch)  (h1 : Nat) (v2 : Int32) (σ : zSt) : zMet l yX11_firstListed cX11_firstListed 4 (some (.object "SnagBook$Fault")) r11_firstListed true (eR 1) [aR 11 (some 0), aR 1 (some h1), aI v2] σ (zro (f11_firstListed h1 v2 σ) σ) :=
  zMet_ofR [(0, aR 11 (some 0)), (1, aR 1 (some h1)), (2, aI v2)] (by decide +kernel) (fun h => by cases h) (Nat.le_of_ble_eq_true rfl) rfl fun E _ => x11_firstListed E  h1 v2 σ
abbrev r11_toldByOne : Room := { frames := 3, cells := 0, slots := 0, locals := 67 }
abbrev m11_toldByOne : zMu := (RX11, 8, (some .int), r11_toldByOne, false)
set_option maxRecDepth 20000 in
theorem xl11_toldByOne_6 (E : zEn)   (h1 : Int32) (h2 : Int32) (h3 : Int32) (σ : zSt)   : ∀ (n : Nat) (v4 : Int32) (v5 : Int32), X E cX11_toldByOne m11_toldByOne true (zQr E true eI r11_toldByOne σ) 0 0 σ [(0, aR 11 (some 0)), (1, aI h1), (2, aI h2), (3, aI h3), (4, aI v4), (5, aI v5)] 6 [] (f11_toldByOne_L6 h1 h2 h3 σ n v4 v5) := by
  intro n
  induction n with
  | zero => intros; exact x_none
  | succ n ih =>
    intro v4 v5
    rw [f11_toldByOne_L6]
    refine x_iload (pc := 6) 5 dX11_toldByOne_6 rfl ?_
    refine x_aload_n (pc := 8) 0 dX11_toldByOne_8 rfl rfl ?_
    refine x_getI (pc := 9) fd_11_5 tk_157 dX11_toldByOne_9 ?_
    refine x_icmp_ge (pc := 12) 99 dX11_toldByOne_12 (by decide) (fun _ => ?_) (fun _ => ?_)
    ·
      refine x_iload (pc := 99) 4 dX11_toldByOne_99 rfl ?_
      exact x_iret (rm := r11_toldByOne) rfl rfl dX11_toldByOne_101
    ·
      refine x_aload_n (pc := 15) 0 dX11_toldByOne_15 rfl rfl ?_
      refine x_getF (pc := 16) (j := 0) fd_11_4 rfl rfl tk_156 dX11_toldByOne_16 ?_
      refine x_iload (pc := 19) 5 dX11_toldByOne_19 rfl ?_
      refine x_aald (pc := 21) (g0 := 1) ar_1204 (by decide) rfl dX11_toldByOne_21 (fun m1 => ?_)
      refine x_nameR (fun o2 => ?_)
      refine x_astore (pc := 22) (als' := [(6, aR 1 o2), (0, aR 11 (some 0)), (1, aI h1), (2, aI h2), (3, aI h3), (4, aI v4), (5, aI v5)]) 6 dX11_toldByOne_22 (by decide) rfl ?_
      refine x_aload (pc := 24) 6 dX11_toldByOne_24 rfl ?_
      refine x_iload_n (pc := 26) 1 dX11_toldByOne_26 rfl rfl ?_
      rcases o2 with _ | i3
      · exact x_none
      ·
        skip
        refine x_zocS ?_
        refine x_callVr (pc := 27) (as := [aI h1]) (rest := []) (fun l => c_1_isListedBy l true i3 h1 σ) md_X1_isListedBy ⟨_, _, rfl, by decide⟩ tk_1105 tk_1106 tk_1104 dX11_toldByOne_27 rfl ⟨by decide, by decide, by decide, by decide⟩ ⟨fun _ => rfl, fun _ => Or.inl rfl⟩ rfl (Nat.le_of_ble_eq_true rfl) (fun r4 => ?_)
        show X E _ _ _ _ 0 0 _ _ _ [aI r4] _
        refine x_join (P := fun (j6 : Int32 → Option Int32) => ∀ (a5 : Int32), X E cX11_toldByOne m11_toldByOne true (zQr E true eI r11_toldByOne σ) 0 0 σ [(0, aR 11 (some 0)), (1, aI h1), (2, aI h2), (3, aI h3), (4, aI v4), (5, aI v5), (6, aR 1 (some i3))] 50 [aI a5] (j6 a5)) ?_ ?_
        · intro a5
          refine x_istore (pc := 50) (als' := [(7, aI a5), (0, aR 11 (some 0)), (1, aI h1), (2, aI h2), (3, aI h3), (4, aI v4), (5, aI v5), (6, aR 1 (some i3))]) 7 dX11_toldByOne_50 (by decide) rfl ?_
          refine x_iload (pc := 52) 7 dX11_toldByOne_52 rfl ?_
          refine x_join (P := fun (j9 : Int32 → Option Int32) => ∀ (a8 : Int32), X E cX11_toldByOne m11_toldByOne true (zQr E true eI r11_toldByOne σ) 0 0 σ [(0, aR 11 (some 0)), (1, aI h1), (2, aI h2), (3, aI h3), (4, aI a8), (5, aI v5)] 93 [] (j9 a8)) ?_ ?_
          · intro a8
            refine x_iinc (pc := 93) (als' := [(5, aI (v5 + 1)), (0, aR 11 (some 0)), (1, aI h1), (2, aI h2), (3, aI h3), (4, aI a8)]) 5 5 (c := 1) dX11_toldByOne_93 rfl rfl (by decide) rfl ?_
            refine x_nameV (g := fun y12 => [(5, aI y12), (0, aR 11 (some 0)), (1, aI h1), (2, aI h2), (3, aI h3), (4, aI a8)]) (fun x11 => ?_) rfl
            refine x_goto (pc := 96) 6 dX11_toldByOne_96 (by decide) ?_
            exact x_sub [1, 2, 3, 4, 5, 0] rfl (ih a8 x11)
          · intro j9 hj10
            refine x_if_eq (pc := 54) 93 dX11_toldByOne_54 (by decide) (fun _ => ?_) (fun _ => ?_)
            ·
              exact x_sub [1, 2, 3, 4, 5, 6] rfl (hj10 v4)
            ·
              refine x_aload_n (pc := 57) 0 dX11_toldByOne_57 rfl rfl ?_
              refine x_aload (pc := 58) 6 dX11_toldByOne_58 rfl ?_
              refine x_getR (pc := 60) fd_1_1 tk_432 dX11_toldByOne_60 ?_
              refine x_nameR (fun o13 => ?_)
              refine x_iload_n (pc := 63) 1 dX11_toldByOne_63 rfl rfl ?_
              refine x_iload_n (pc := 64) 2 dX11_toldByOne_64 rfl rfl ?_
              rcases o13 with _ | i14
              · exact x_none
              ·
                skip
                refine x_zocS ?_
                refine x_callVr (pc := 65) (as := [aR 5 (some i14), aI h1, aI h2]) (rest := []) (fun l => c_11_areDoubles l i14 h1 h2 σ) md_X11_areDoubles ⟨_, _, rfl, by decide⟩ tk_1098 tp_41 tk_1096 dX11_toldByOne_65 rfl ⟨by decide, by decide, by decide, by decide⟩ ⟨fun _ => rfl, fun _ => Or.inl rfl⟩ rfl (Nat.le_of_ble_eq_true rfl) (fun r15 => ?_)
                show X E _ _ _ _ 0 0 _ _ _ [aI r15] _
                refine x_if_eq (pc := 68) 93 dX11_toldByOne_68 (by decide) (fun _ => ?_) (fun _ => ?_)
                ·
                  exact x_sub [1, 2, 3, 4, 5, 6] rfl (hj10 v4)
                ·
                  refine x_aload_n (pc := 71) 0 dX11_toldByOne_71 rfl rfl ?_
                  refine x_aload (pc := 72) 6 dX11_toldByOne_72 rfl ?_
                  refine x_iload_n (pc := 74) 2 dX11_toldByOne_74 rfl rfl ?_
                  refine x_callVr (pc := 75) (as := [aR 1 (some i3), aI h2]) (rest := []) (fun l => c_11_firstListed l i3 h2 σ) md_X11_firstListed ⟨_, _, rfl, by decide⟩ tk_1114 tp_44 tk_1112 dX11_toldByOne_75 rfl ⟨by decide, by decide, by decide, by decide⟩ ⟨fun _ => rfl, fun _ => Or.inl rfl⟩ rfl (Nat.le_of_ble_eq_true rfl) (fun o17 => ?_)
                  show X E _ _ _ _ 0 0 _ _ _ [aR 1 o17] _
                  refine x_join (P := fun (j19 : Int32 → Option Int32) => ∀ (a18 : Int32), X E cX11_toldByOne m11_toldByOne true (zQr E true eI r11_toldByOne σ) 0 0 σ [(0, aR 11 (some 0)), (1, aI h1), (2, aI h2), (3, aI h3), (4, aI v4), (5, aI v5)] 86 [aI a18] (j19 a18)) ?_ ?_
                  · intro a18
                    refine x_iload_n (pc := 86) 3 dX11_toldByOne_86 rfl rfl ?_
                    refine x_icmp_ne (pc := 87) 93 dX11_toldByOne_87 (by decide) (fun _ => ?_) (fun _ => ?_)
                    ·
                      exact hj10 v4
                    ·
                      refine x_iinc (pc := 90) (als' := [(4, aI (v4 + 1)), (0, aR 11 (some 0)), (1, aI h1), (2, aI h2), (3, aI h3), (5, aI v5)]) 4 4 (c := 1) dX11_toldByOne_90 rfl rfl (by decide) rfl ?_
                      refine x_nameV (g := fun y22 => [(4, aI y22), (0, aR 11 (some 0)), (1, aI h1), (2, aI h2), (3, aI h3), (5, aI v5)]) (fun x21 => ?_) rfl
                      exact x_sub [1, 2, 3, 4, 0, 5] rfl (hj10 x21)
                  · intro j19 hj20
                    rcases o17 with _ | i23
                    ·
                      refine x_ifnullN (pc := 78) 85 dX11_toldByOne_78 (by decide) ?_
                      refine x_iconst (pc := 85) 0 dX11_toldByOne_85 rfl ?_
                      exact x_sub [1, 2, 3, 4, 5, 6] rfl (hj20 0)
                    ·
                      refine x_ifnullS (pc := 78) dX11_toldByOne_78 ?_
                      refine x_iconst (pc := 81) 1 dX11_toldByOne_81 rfl ?_
                      refine x_goto (pc := 82) 86 dX11_toldByOne_82 (by decide) ?_
                      exact x_sub [1, 2, 3, 4, 5, 6] rfl (hj20 1)
        · intro j6 hj7
          refine x_join (P := fun (j24 : Option Int32) => X E cX11_toldByOne m11_toldByOne true (zQr E true eI r11_toldByOne σ) 0 0 σ [(0, aR 11 (some 0)), (1, aI h1), (2, aI h2), (3, aI h3), (4, aI v4), (5, aI v5), (6, aR 1 (some i3))] 49 [] j24) ?_ ?_
          ·
            refine x_iconst (pc := 49) 0 dX11_toldByOne_49 rfl ?_
            exact hj7 0
          · intro j24 hj25
            refine x_if_eq (pc := 30) 49 dX11_toldByOne_30 (by decide) (fun _ => ?_) (fun _ => ?_)
            ·
              exact x_sub [1, 2, 3, 4, 5, 6, 0] rfl (hj25)
            ·
              refine x_aload_n (pc := 33) 0 dX11_toldByOne_33 rfl rfl ?_
              refine x_aload (pc := 34) 6 dX11_toldByOne_34 rfl ?_
              refine x_iload_n (pc := 36) 1 dX11_toldByOne_36 rfl rfl ?_
              refine x_callVr (pc := 37) (as := [aR 1 (some i3), aI h1]) (rest := []) (fun l => c_11_firstListed l i3 h1 σ) md_X11_firstListed ⟨_, _, rfl, by decide⟩ tk_1114 tp_44 tk_1112 dX11_toldByOne_37 rfl ⟨by decide, by decide, by decide, by decide⟩ ⟨fun _ => rfl, fun _ => Or.inl rfl⟩ rfl (Nat.le_of_ble_eq_true rfl) (fun o27 => ?_)
              show X E _ _ _ _ 0 0 _ _ _ [aR 1 o27] _
              refine x_aload (pc := 40) 6 dX11_toldByOne_40 rfl ?_
              refine x_acmp_ne (pc := 42) 49 (by decide) dX11_toldByOne_42 (by decide) (fun _ => ?_) (fun _ => ?_)
              ·
                exact x_sub [1, 2, 3, 4, 5, 6, 0] rfl (hj25)
              ·
                refine x_iconst (pc := 45) 1 dX11_toldByOne_45 rfl ?_
                refine x_goto (pc := 46) 50 dX11_toldByOne_46 (by decide) ?_
                exact x_sub [1, 2, 3, 4, 5, 6, 0] rfl (hj7 1)
set_option maxRecDepth 20000 in
theorem x11_toldByOne (E : zEn)  (v1 : Int32) (v2 : Int32) (v3 : Int32) (σ : zSt) : X E cX11_toldByOne m11_toldByOne true (zQr E true eI r11_toldByOne σ) 0 0 σ [(0, aR 11 (some 0)), (1, aI v1), (2, aI v2), (3, aI v3)] 0 [] (f11_toldByOne v1 v2 v3 σ) := by
  unfold f11_toldByOne
  refine x_iconst (pc := 0) 0 dX11_toldByOne_0 rfl ?_
  refine x_istore (pc := 1) (als' := [(4, aI 0), (0, aR 11 (some 0)), (1, aI v1), (2, aI v2), (3, aI v3)]) 4 dX11_toldByOne_1 (by decide) rfl ?_
  refine x_iconst (pc := 3) 0 dX11_toldByOne_3 rfl ?_
  refine x_istore (pc := 4) (als' := [(5, aI 0), (4, aI 0), (0, aR 11 (some 0)), (1, aI v1), (2, aI v2), (3, aI v3)]) 5 dX11_toldByOne_4 (by decide) rfl ?_
  refine x_sub [2, 3, 4, 5, 1, 0] rfl (xl11_toldByOne_6 E v1 v2 v3 σ zfuel 0 0)
theorem c_11_toldByOne (l : Launch)  (v1 : Int32) (v2 : Int32) (v3 : Int32) (σ : zSt) : zMet l yX11_toldByOne cX11_toldByOne 8 (some .int) r11_toldByOne true eI [aR 11 (some 0), aI v1, aI v2, aI v3] σ (zro (f11_toldByOne v1 v2 v3 σ) σ) :=
  zMet_ofR [(0, aR 11 (some 0)), (1, aI v1), (2, aI v2), (3, aI v3)] (by decide +kernel) (fun h => by cases h) (Nat.le_of_ble_eq_true rfl) rfl fun E _ => x11_toldByOne E  v1 v2 v3 σ
abbrev r11_missed : Room := { frames := 4, cells := 0, slots := 0, locals := 94 }
abbrev m11_missed : zMu := (RX11, 5, (some .int), r11_missed, false)
set_option maxRecDepth 20000 in
theorem x11_missed (E : zEn)  (v1 : Int32) (v2 : Int32) (σ : zSt) : X E cX11_missed m11_missed true (zQr E true eI r11_missed σ) 0 0 σ [(0, aR 11 (some 0)), (1, aI v1), (2, aI v2)] 0 [] (f11_missed v1 v2 σ) := by
  unfold f11_missed
  refine x_aload_n (pc := 0) 0 dX11_missed_0 rfl rfl ?_
  refine x_iload_n (pc := 1) 2 dX11_missed_1 rfl rfl ?_
  refine x_iload_n (pc := 2) 1 dX11_missed_2 rfl rfl ?_
  refine x_iconst (pc := 3) 0 dX11_missed_3 rfl ?_
  refine x_callVr (pc := 4) (as := [aI v2, aI v1, aI 0]) (rest := []) (fun l => c_11_toldByOne l v2 v1 0 σ) md_X11_toldByOne ⟨_, _, rfl, by decide⟩ tk_1110 tp_43 tk_1108 dX11_missed_4 rfl ⟨by decide, by decide, by decide, by decide⟩ ⟨fun _ => rfl, fun _ => Or.inl rfl⟩ rfl (Nat.le_of_ble_eq_true rfl) (fun r1 => ?_)
  show X E _ _ _ _ 0 0 _ _ _ [aI r1] _
  refine x_istore_n (pc := 7) (als' := [(3, aI r1), (0, aR 11 (some 0)), (1, aI v1), (2, aI v2)]) 3 dX11_missed_7 rfl (by decide) rfl ?_
  refine x_iload_n (pc := 8) 3 dX11_missed_8 rfl rfl ?_
  refine x_aload_n (pc := 9) 0 dX11_missed_9 rfl rfl ?_
  refine x_iload_n (pc := 10) 2 dX11_missed_10 rfl rfl ?_
  refine x_iload_n (pc := 11) 1 dX11_missed_11 rfl rfl ?_
  refine x_iconst (pc := 12) 1 dX11_missed_12 rfl ?_
  refine x_callVr (pc := 13) (as := [aI v2, aI v1, aI 1]) (rest := [aI r1]) (fun l => c_11_toldByOne l v2 v1 1 σ) md_X11_toldByOne ⟨_, _, rfl, by decide⟩ tk_1110 tp_43 tk_1108 dX11_missed_13 rfl ⟨by decide, by decide, by decide, by decide⟩ ⟨fun _ => rfl, fun _ => Or.inl rfl⟩ rfl (Nat.le_of_ble_eq_true rfl) (fun r2 => ?_)
  show X E _ _ _ _ 0 0 _ _ _ [aI r2, aI r1] _
  refine x_iadd (pc := 16) dX11_missed_16 ?_
  refine x_nameI (fun x3 => ?_)
  refine x_istore (pc := 17) (als' := [(4, aI x3), (3, aI r1), (0, aR 11 (some 0)), (1, aI v1), (2, aI v2)]) 4 dX11_missed_17 (by decide) rfl ?_
  refine x_iload (pc := 19) 4 dX11_missed_19 rfl ?_
  refine x_if_ne (pc := 21) 28 dX11_missed_21 (by decide) (fun _ => ?_) (fun _ => ?_)
  ·
    refine x_sipush (pc := 28) 10000 dX11_missed_28 rfl ?_
    refine x_iload_n (pc := 31) 3 dX11_missed_31 rfl rfl ?_
    refine x_imul (pc := 32) dX11_missed_32 ?_
    refine x_iload (pc := 33) 4 dX11_missed_33 rfl ?_
    refine x_idiv (pc := 35) dX11_missed_35 ?_
    exact x_iret (rm := r11_missed) rfl rfl dX11_missed_36
  ·
    refine x_iconst (pc := 24) 0 dX11_missed_24 rfl ?_
    refine x_goto (pc := 25) 36 dX11_missed_25 (by decide) ?_
    exact x_iret (rm := r11_missed) rfl rfl dX11_missed_36
theorem c_11_missed (l : Launch)  (v1 : Int32) (v2 : Int32) (σ : zSt) : zMet l yX11_missed cX11_missed 5 (some .int) r11_missed true eI [aR 11 (some 0), aI v1, aI v2] σ (zro (f11_missed v1 v2 σ) σ) :=
  zMet_ofR [(0, aR 11 (some 0)), (1, aI v1), (2, aI v2)] (by decide +kernel) (fun h => by cases h) (Nat.le_of_ble_eq_true rfl) rfl fun E _ => x11_missed E  v1 v2 σ
abbrev r11_harsh : Room := { frames := 2, cells := 0, slots := 0, locals := 44 }
abbrev m11_harsh : zMu := (RX11, 8, (some .int), r11_harsh, false)
set_option maxRecDepth 20000 in
theorem xl11_harsh_5 (E : zEn)   (h1 : Int32) (h2 : Int32) (σ : zSt)   : ∀ (n : Nat) (v3 : Int32) (v4 : Int32), X E cX11_harsh m11_harsh true (zQr E true eI r11_harsh σ) 0 0 σ [(0, aR 11 (some 0)), (1, aI h1), (2, aI h2), (3, aI v3), (4, aI v4)] 5 [] (f11_harsh_L5 h1 h2 σ n v3 v4) := by
  intro n
  induction n with
  | zero => intros; exact x_none
  | succ n ih =>
    intro v3 v4
    rw [f11_harsh_L5]
    refine x_iload (pc := 5) 4 dX11_harsh_5 rfl ?_
    refine x_aload_n (pc := 7) 0 dX11_harsh_7 rfl rfl ?_
    refine x_getI (pc := 8) fd_11_5 tk_157 dX11_harsh_8 ?_
    refine x_icmp_ge (pc := 11) 98 dX11_harsh_11 (by decide) (fun _ => ?_) (fun _ => ?_)
    ·
      refine x_iload_n (pc := 98) 3 dX11_harsh_98 rfl rfl ?_
      exact x_iret (rm := r11_harsh) rfl rfl dX11_harsh_99
    ·
      refine x_aload_n (pc := 14) 0 dX11_harsh_14 rfl rfl ?_
      refine x_getF (pc := 15) (j := 0) fd_11_4 rfl rfl tk_156 dX11_harsh_15 ?_
      refine x_iload (pc := 18) 4 dX11_harsh_18 rfl ?_
      refine x_aald (pc := 20) (g0 := 1) ar_1204 (by decide) rfl dX11_harsh_20 (fun m1 => ?_)
      refine x_nameR (fun o2 => ?_)
      refine x_astore (pc := 21) (als' := [(5, aR 1 o2), (0, aR 11 (some 0)), (1, aI h1), (2, aI h2), (3, aI v3), (4, aI v4)]) 5 dX11_harsh_21 (by decide) rfl ?_
      refine x_aload (pc := 23) 5 dX11_harsh_23 rfl ?_
      refine x_iload_n (pc := 25) 1 dX11_harsh_25 rfl rfl ?_
      rcases o2 with _ | i3
      · exact x_none
      ·
        skip
        refine x_zocS ?_
        refine x_callVr (pc := 26) (as := [aI h1]) (rest := []) (fun l => c_1_isListedBy l true i3 h1 σ) md_X1_isListedBy ⟨_, _, rfl, by decide⟩ tk_1105 tk_1106 tk_1104 dX11_harsh_26 rfl ⟨by decide, by decide, by decide, by decide⟩ ⟨fun _ => rfl, fun _ => Or.inl rfl⟩ rfl (Nat.le_of_ble_eq_true rfl) (fun r4 => ?_)
        show X E _ _ _ _ 0 0 _ _ _ [aI r4] _
        refine x_join (P := fun (j6 : Int32 → Option Int32) => ∀ (a5 : Int32), X E cX11_harsh m11_harsh true (zQr E true eI r11_harsh σ) 0 0 σ [(0, aR 11 (some 0)), (1, aI h1), (2, aI h2), (3, aI v3), (4, aI v4), (5, aR 1 (some i3))] 49 [aI a5] (j6 a5)) ?_ ?_
        · intro a5
          refine x_istore (pc := 49) (als' := [(6, aI a5), (0, aR 11 (some 0)), (1, aI h1), (2, aI h2), (3, aI v3), (4, aI v4), (5, aR 1 (some i3))]) 6 dX11_harsh_49 (by decide) rfl ?_
          refine x_iload (pc := 51) 6 dX11_harsh_51 rfl ?_
          refine x_join (P := fun (j9 : (Option Nat) → Option Int32) => ∀ (a8 : (Option Nat)), X E cX11_harsh m11_harsh true (zQr E true eI r11_harsh σ) 0 0 σ [(0, aR 11 (some 0)), (1, aI h1), (2, aI h2), (3, aI v3), (4, aI v4), (5, aR 1 (some i3))] 67 [aR 1 a8] (j9 a8)) ?_ ?_
          · intro a8
            refine x_astore (pc := 67) (als' := [(7, aR 1 a8), (0, aR 11 (some 0)), (1, aI h1), (2, aI h2), (3, aI v3), (4, aI v4), (5, aR 1 (some i3))]) 7 dX11_harsh_67 (by decide) rfl ?_
            refine x_iload_n (pc := 69) 3 dX11_harsh_69 rfl rfl ?_
            refine x_aload (pc := 70) 7 dX11_harsh_70 rfl ?_
            refine x_join (P := fun (j12 : Int32 → Option Int32) => ∀ (a11 : Int32), X E cX11_harsh m11_harsh true (zQr E true eI r11_harsh σ) 0 0 σ [(0, aR 11 (some 0)), (1, aI h1), (2, aI h2), (4, aI v4)] 90 [aI a11, aI v3] (j12 a11)) ?_ ?_
            · intro a11
              refine x_iadd (pc := 90) dX11_harsh_90 ?_
              refine x_nameI (fun x14 => ?_)
              refine x_istore_n (pc := 91) (als' := [(3, aI x14), (0, aR 11 (some 0)), (1, aI h1), (2, aI h2), (4, aI v4)]) 3 dX11_harsh_91 rfl (by decide) rfl ?_
              refine x_iinc (pc := 92) (als' := [(4, aI (v4 + 1)), (3, aI x14), (0, aR 11 (some 0)), (1, aI h1), (2, aI h2)]) 4 4 (c := 1) dX11_harsh_92 rfl rfl (by decide) rfl ?_
              refine x_nameV (g := fun y16 => [(4, aI y16), (3, aI x14), (0, aR 11 (some 0)), (1, aI h1), (2, aI h2)]) (fun x15 => ?_) rfl
              refine x_goto (pc := 95) 5 dX11_harsh_95 (by decide) ?_
              exact x_sub [2, 3, 4, 1, 0] rfl (ih x14 x15)
            · intro j12 hj13
              rcases a8 with _ | i17
              ·
                refine x_ifnonnullN (pc := 72) dX11_harsh_72 ?_
                refine x_iconst (pc := 75) 0 dX11_harsh_75 rfl ?_
                refine x_goto (pc := 76) 90 dX11_harsh_76 (by decide) ?_
                exact x_sub [1, 2, 3, 5] rfl (hj13 0)
              ·
                refine x_ifnonnullS (pc := 72) 79 dX11_harsh_72 (by decide) ?_
                refine x_aload (pc := 79) 5 dX11_harsh_79 rfl ?_
                refine x_getI (pc := 81) fd_1_5 tk_442 dX11_harsh_81 ?_
                refine x_aload (pc := 84) 7 dX11_harsh_84 rfl ?_
                refine x_getI (pc := 86) fd_1_5 tk_442 dX11_harsh_86 ?_
                refine x_isub (pc := 89) dX11_harsh_89 ?_
                exact x_sub [1, 2, 3, 5] rfl (hj13 ((gI σ 1 i3 5) - (gI σ 1 i17 5)))
          · intro j9 hj10
            refine x_if_eq (pc := 53) 66 dX11_harsh_53 (by decide) (fun _ => ?_) (fun _ => ?_)
            ·
              refine x_null (pc := 66) 1 dX11_harsh_66 ?_
              exact x_sub [1, 2, 3, 4, 5, 6] rfl (hj10 none)
            ·
              refine x_aload_n (pc := 56) 0 dX11_harsh_56 rfl rfl ?_
              refine x_aload (pc := 57) 5 dX11_harsh_57 rfl ?_
              refine x_iload_n (pc := 59) 2 dX11_harsh_59 rfl rfl ?_
              refine x_callVr (pc := 60) (as := [aR 1 (some i3), aI h2]) (rest := []) (fun l => c_11_firstListed l i3 h2 σ) md_X11_firstListed ⟨_, _, rfl, by decide⟩ tk_1114 tp_44 tk_1112 dX11_harsh_60 rfl ⟨by decide, by decide, by decide, by decide⟩ ⟨fun _ => rfl, fun _ => Or.inl rfl⟩ rfl (Nat.le_of_ble_eq_true rfl) (fun o19 => ?_)
              show X E _ _ _ _ 0 0 _ _ _ [aR 1 o19] _
              refine x_goto (pc := 63) 67 dX11_harsh_63 (by decide) ?_
              exact x_sub [1, 2, 3, 4, 5, 6] rfl (hj10 o19)
        · intro j6 hj7
          refine x_join (P := fun (j20 : Option Int32) => X E cX11_harsh m11_harsh true (zQr E true eI r11_harsh σ) 0 0 σ [(0, aR 11 (some 0)), (1, aI h1), (2, aI h2), (3, aI v3), (4, aI v4), (5, aR 1 (some i3))] 48 [] j20) ?_ ?_
          ·
            refine x_iconst (pc := 48) 0 dX11_harsh_48 rfl ?_
            exact hj7 0
          · intro j20 hj21
            refine x_if_eq (pc := 29) 48 dX11_harsh_29 (by decide) (fun _ => ?_) (fun _ => ?_)
            ·
              exact x_sub [1, 2, 3, 4, 5, 0] rfl (hj21)
            ·
              refine x_aload_n (pc := 32) 0 dX11_harsh_32 rfl rfl ?_
              refine x_aload (pc := 33) 5 dX11_harsh_33 rfl ?_
              refine x_iload_n (pc := 35) 1 dX11_harsh_35 rfl rfl ?_
              refine x_callVr (pc := 36) (as := [aR 1 (some i3), aI h1]) (rest := []) (fun l => c_11_firstListed l i3 h1 σ) md_X11_firstListed ⟨_, _, rfl, by decide⟩ tk_1114 tp_44 tk_1112 dX11_harsh_36 rfl ⟨by decide, by decide, by decide, by decide⟩ ⟨fun _ => rfl, fun _ => Or.inl rfl⟩ rfl (Nat.le_of_ble_eq_true rfl) (fun o23 => ?_)
              show X E _ _ _ _ 0 0 _ _ _ [aR 1 o23] _
              refine x_aload (pc := 39) 5 dX11_harsh_39 rfl ?_
              refine x_acmp_ne (pc := 41) 48 (by decide) dX11_harsh_41 (by decide) (fun _ => ?_) (fun _ => ?_)
              ·
                exact x_sub [1, 2, 3, 4, 5, 0] rfl (hj21)
              ·
                refine x_iconst (pc := 44) 1 dX11_harsh_44 rfl ?_
                refine x_goto (pc := 45) 49 dX11_harsh_45 (by decide) ?_
                exact x_sub [1, 2, 3, 4, 5, 0] rfl (hj7 1)
set_option maxRecDepth 20000 in
theorem x11_harsh (E : zEn)  (v1 : Int32) (v2 : Int32) (σ : zSt) : X E cX11_harsh m11_harsh true (zQr E true eI r11_harsh σ) 0 0 σ [(0, aR 11 (some 0)), (1, aI v1), (2, aI v2)] 0 [] (f11_harsh v1 v2 σ) := by
  unfold f11_harsh
  refine x_iconst (pc := 0) 0 dX11_harsh_0 rfl ?_
  refine x_istore_n (pc := 1) (als' := [(3, aI 0), (0, aR 11 (some 0)), (1, aI v1), (2, aI v2)]) 3 dX11_harsh_1 rfl (by decide) rfl ?_
  refine x_iconst (pc := 2) 0 dX11_harsh_2 rfl ?_
  refine x_istore (pc := 3) (als' := [(4, aI 0), (3, aI 0), (0, aR 11 (some 0)), (1, aI v1), (2, aI v2)]) 4 dX11_harsh_3 (by decide) rfl ?_
  refine x_sub [2, 3, 4, 1, 0] rfl (xl11_harsh_5 E v1 v2 σ zfuel 0 0)
theorem c_11_harsh (l : Launch)  (v1 : Int32) (v2 : Int32) (σ : zSt) : zMet l yX11_harsh cX11_harsh 8 (some .int) r11_harsh true eI [aR 11 (some 0), aI v1, aI v2] σ (zro (f11_harsh v1 v2 σ) σ) :=
  zMet_ofR [(0, aR 11 (some 0)), (1, aI v1), (2, aI v2)] (by decide +kernel) (fun h => by cases h) (Nat.le_of_ble_eq_true rfl) rfl fun E _ => x11_harsh E  v1 v2 σ
abbrev r11_doubles : Room := { frames := 5, cells := 0, slots := 0, locals := 118 }
abbrev m11_doubles : zMu := (RX11, 4, (some .int), r11_doubles, false)
set_option maxRecDepth 20000 in
theorem x11_doubles (E : zEn)  (v1 : Int32) (v2 : Int32) (v3 : Int32) (σ : zSt) : X E cX11_doubles m11_doubles true (zQr E true eI r11_doubles σ) 0 0 σ [(0, aR 11 (some 0)), (1, aI v1), (2, aI v2), (3, aI v3)] 0 [] (f11_doubles v1 v2 v3 σ) := by
  unfold f11_doubles
  refine x_iload_n (pc := 0) 1 dX11_doubles_0 rfl rfl ?_
  refine x_bipush (pc := 1) 10 dX11_doubles_1 rfl ?_
  refine x_callSr (pc := 3) (as := [aI v1, aI 10]) (rest := []) (fun l => c_11_isIn l true v1 10 σ) md_X11_isIn tk_219 tk_218 dX11_doubles_3 rfl ⟨by decide, by decide, by decide, by decide⟩ ⟨fun _ => rfl, fun _ => Or.inl rfl⟩ rfl (Nat.le_of_ble_eq_true rfl) (fun r1 => ?_)
  show X E _ _ _ _ 0 0 _ _ _ [aI r1] _
  refine x_if_eq (pc := 6) 32 dX11_doubles_6 (by decide) (fun _ => ?_) (fun _ => ?_)
  ·
    refine x_ldc (pc := 32) (v := (-2000000000)) dX11_doubles_32 tk_303 ?_
    exact x_iret (rm := r11_doubles) rfl rfl dX11_doubles_34
  ·
    refine x_iload_n (pc := 9) 2 dX11_doubles_9 rfl rfl ?_
    refine x_bipush (pc := 10) 10 dX11_doubles_10 rfl ?_
    refine x_callSr (pc := 12) (as := [aI v2, aI 10]) (rest := []) (fun l => c_11_isIn l true v2 10 σ) md_X11_isIn tk_219 tk_218 dX11_doubles_12 rfl ⟨by decide, by decide, by decide, by decide⟩ ⟨fun _ => rfl, fun _ => Or.inl rfl⟩ rfl (Nat.le_of_ble_eq_true rfl) (fun r2 => ?_)
    show X E _ _ _ _ 0 0 _ _ _ [aI r2] _
    refine x_if_eq (pc := 15) 32 dX11_doubles_15 (by decide) (fun _ => ?_) (fun _ => ?_)
    ·
      refine x_ldc (pc := 32) (v := (-2000000000)) dX11_doubles_32 tk_303 ?_
      exact x_iret (rm := r11_doubles) rfl rfl dX11_doubles_34
    ·
      refine x_iload_n (pc := 18) 1 dX11_doubles_18 rfl rfl ?_
      refine x_iload_n (pc := 19) 2 dX11_doubles_19 rfl rfl ?_
      refine x_icmp_eq (pc := 20) 32 dX11_doubles_20 (by decide) (fun _ => ?_) (fun _ => ?_)
      ·
        refine x_ldc (pc := 32) (v := (-2000000000)) dX11_doubles_32 tk_303 ?_
        exact x_iret (rm := r11_doubles) rfl rfl dX11_doubles_34
      ·
        refine x_iload_n (pc := 23) 3 dX11_doubles_23 rfl rfl ?_
        refine x_bipush (pc := 24) 6 dX11_doubles_24 rfl ?_
        refine x_callSr (pc := 26) (as := [aI v3, aI 6]) (rest := []) (fun l => c_11_isIn l true v3 6 σ) md_X11_isIn tk_219 tk_218 dX11_doubles_26 rfl ⟨by decide, by decide, by decide, by decide⟩ ⟨fun _ => rfl, fun _ => Or.inl rfl⟩ rfl (Nat.le_of_ble_eq_true rfl) (fun r3 => ?_)
        show X E _ _ _ _ 0 0 _ _ _ [aI r3] _
        refine x_if_ne (pc := 29) 35 dX11_doubles_29 (by decide) (fun _ => ?_) (fun _ => ?_)
        ·
          refine x_iload_n (pc := 35) 3 dX11_doubles_35 rfl rfl ?_
          refine x_table (pc := 36) dX11_doubles_36 (by decide) (fun tg4 ht5 => ?_) (fun x => ?_)
          ·
            refine x_ite (fun hc6 => ?_) (fun hc6 => ?_)
            ·
              obtain rfl : tg4 = 72 := zsw_at hc6 ht5 (by decide)
              refine x_aload_n (pc := 72) 0 dX11_doubles_72 rfl rfl ?_
              refine x_iload_n (pc := 73) 1 dX11_doubles_73 rfl rfl ?_
              refine x_iload_n (pc := 74) 2 dX11_doubles_74 rfl rfl ?_
              refine x_callVr (pc := 75) (as := [aI v1, aI v2]) (rest := []) (fun l => c_11_doubleHomes l v1 v2 σ) md_X11_doubleHomes ⟨_, _, rfl, by decide⟩ tk_1094 tp_40 tk_1092 dX11_doubles_75 rfl ⟨by decide, by decide, by decide, by decide⟩ ⟨fun _ => rfl, fun _ => Or.inl rfl⟩ rfl (Nat.le_of_ble_eq_true rfl) (fun r7 => ?_)
              show X E _ _ _ _ 0 0 _ _ _ [aI r7] _
              exact x_iret (rm := r11_doubles) rfl rfl dX11_doubles_78
            ·
              refine x_ite (fun hc8 => ?_) (fun hc8 => ?_)
              ·
                obtain rfl : tg4 = 79 := zsw_at hc8 ht5 (by decide)
                refine x_aload_n (pc := 79) 0 dX11_doubles_79 rfl rfl ?_
                refine x_iload_n (pc := 80) 1 dX11_doubles_80 rfl rfl ?_
                refine x_iload_n (pc := 81) 2 dX11_doubles_81 rfl rfl ?_
                refine x_iconst (pc := 82) 1 dX11_doubles_82 rfl ?_
                refine x_callVr (pc := 83) (as := [aI v1, aI v2, aI 1]) (rest := []) (fun l => c_11_toldByOne l v1 v2 1 σ) md_X11_toldByOne ⟨_, _, rfl, by decide⟩ tk_1110 tp_43 tk_1108 dX11_doubles_83 rfl ⟨by decide, by decide, by decide, by decide⟩ ⟨fun _ => rfl, fun _ => Or.inl rfl⟩ rfl (Nat.le_of_ble_eq_true rfl) (fun r9 => ?_)
                show X E _ _ _ _ 0 0 _ _ _ [aI r9] _
                exact x_iret (rm := r11_doubles) rfl rfl dX11_doubles_86
              ·
                refine x_ite (fun hc10 => ?_) (fun hc10 => ?_)
                ·
                  obtain rfl : tg4 = 87 := zsw_at hc10 ht5 (by decide)
                  refine x_aload_n (pc := 87) 0 dX11_doubles_87 rfl rfl ?_
                  refine x_iload_n (pc := 88) 1 dX11_doubles_88 rfl rfl ?_
                  refine x_iload_n (pc := 89) 2 dX11_doubles_89 rfl rfl ?_
                  refine x_iconst (pc := 90) 0 dX11_doubles_90 rfl ?_
                  refine x_callVr (pc := 91) (as := [aI v1, aI v2, aI 0]) (rest := []) (fun l => c_11_toldByOne l v1 v2 0 σ) md_X11_toldByOne ⟨_, _, rfl, by decide⟩ tk_1110 tp_43 tk_1108 dX11_doubles_91 rfl ⟨by decide, by decide, by decide, by decide⟩ ⟨fun _ => rfl, fun _ => Or.inl rfl⟩ rfl (Nat.le_of_ble_eq_true rfl) (fun r11 => ?_)
                  show X E _ _ _ _ 0 0 _ _ _ [aI r11] _
                  exact x_iret (rm := r11_doubles) rfl rfl dX11_doubles_94
                ·
                  refine x_ite (fun hc12 => ?_) (fun hc12 => ?_)
                  ·
                    obtain rfl : tg4 = 95 := zsw_at hc12 ht5 (by decide)
                    refine x_aload_n (pc := 95) 0 dX11_doubles_95 rfl rfl ?_
                    refine x_iload_n (pc := 96) 2 dX11_doubles_96 rfl rfl ?_
                    refine x_iload_n (pc := 97) 1 dX11_doubles_97 rfl rfl ?_
                    refine x_iconst (pc := 98) 0 dX11_doubles_98 rfl ?_
                    refine x_callVr (pc := 99) (as := [aI v2, aI v1, aI 0]) (rest := []) (fun l => c_11_toldByOne l v2 v1 0 σ) md_X11_toldByOne ⟨_, _, rfl, by decide⟩ tk_1110 tp_43 tk_1108 dX11_doubles_99 rfl ⟨by decide, by decide, by decide, by decide⟩ ⟨fun _ => rfl, fun _ => Or.inl rfl⟩ rfl (Nat.le_of_ble_eq_true rfl) (fun r13 => ?_)
                    show X E _ _ _ _ 0 0 _ _ _ [aI r13] _
                    exact x_iret (rm := r11_doubles) rfl rfl dX11_doubles_102
                  ·
                    refine x_ite (fun hc14 => ?_) (fun hc14 => ?_)
                    ·
                      obtain rfl : tg4 = 103 := zsw_at hc14 ht5 (by decide)
                      refine x_aload_n (pc := 103) 0 dX11_doubles_103 rfl rfl ?_
                      refine x_iload_n (pc := 104) 1 dX11_doubles_104 rfl rfl ?_
                      refine x_iload_n (pc := 105) 2 dX11_doubles_105 rfl rfl ?_
                      refine x_callVr (pc := 106) (as := [aI v1, aI v2]) (rest := []) (fun l => c_11_missed l v1 v2 σ) md_X11_missed ⟨_, _, rfl, by decide⟩ tk_1118 tp_45 tk_1116 dX11_doubles_106 rfl ⟨by decide, by decide, by decide, by decide⟩ ⟨fun _ => rfl, fun _ => Or.inl rfl⟩ rfl (Nat.le_of_ble_eq_true rfl) (fun r15 => ?_)
                      show X E _ _ _ _ 0 0 _ _ _ [aI r15] _
                      exact x_iret (rm := r11_doubles) rfl rfl dX11_doubles_109
                    ·
                      obtain rfl : tg4 = 110 := zswd_at (cs := [0, 1, 2, 3, 4]) ht5 (by decide) (by simp only [List.mem_cons, List.not_mem_nil, or_false, not_or]; exact ⟨hc6, hc8, hc10, hc12, hc14⟩) (by decide)
                      refine x_aload_n (pc := 110) 0 dX11_doubles_110 rfl rfl ?_
                      refine x_iload_n (pc := 111) 1 dX11_doubles_111 rfl rfl ?_
                      refine x_iload_n (pc := 112) 2 dX11_doubles_112 rfl rfl ?_
                      refine x_callVr (pc := 113) (as := [aI v1, aI v2]) (rest := []) (fun l => c_11_harsh l v1 v2 σ) md_X11_harsh ⟨_, _, rfl, by decide⟩ tk_1122 tp_46 tk_1120 dX11_doubles_113 rfl ⟨by decide, by decide, by decide, by decide⟩ ⟨fun _ => rfl, fun _ => Or.inl rfl⟩ rfl (Nat.le_of_ble_eq_true rfl) (fun r16 => ?_)
                      show X E _ _ _ _ 0 0 _ _ _ [aI r16] _
                      exact x_iret (rm := r11_doubles) rfl rfl dX11_doubles_116
          · exact ztoff_pos (by decide) (by decide) x
        ·
          refine x_ldc (pc := 32) (v := (-2000000000)) dX11_doubles_32 tk_303 ?_
          exact x_iret (rm := r11_doubles) rfl rfl dX11_doubles_34
theorem c_11_doubles (l : Launch)  (v1 : Int32) (v2 : Int32) (v3 : Int32) (σ : zSt) : zMet l yX11_doubles cX11_doubles 4 (some .int) r11_doubles true eI [aR 11 (some 0), aI v1, aI v2, aI v3] σ (zro (f11_doubles v1 v2 v3 σ) σ) :=
  zMet_ofR [(0, aR 11 (some 0)), (1, aI v1), (2, aI v2), (3, aI v3)] (by decide +kernel) (fun h => by cases h) (Nat.le_of_ble_eq_true rfl) rfl fun E _ => x11_doubles E  v1 v2 v3 σ
abbrev r11_lots : Room := { frames := 0, cells := 0, slots := 0, locals := 0 }
abbrev m11_lots : zMu := (RX11, 2, (some .int), r11_lots, false)
set_option maxRecDepth 20000 in
theorem x11_lots (E : zEn)  (q : Bool) (v1 : Int32) (σ : zSt) : X E cX11_lots m11_lots q (zQw E q eI r11_lots) 0 0 σ [(0, aR 11 (some 0)), (1, aI v1)] 0 [] (f11_lots v1 σ) := by
  unfold f11_lots
  refine x_aload_n (pc := 0) 0 dX11_lots_0 rfl rfl ?_
  refine x_iload_n (pc := 1) 1 dX11_lots_1 rfl rfl ?_
  refine x_putI (pc := 2) fd_11_9 pt_11_9 tk_161 dX11_lots_2 (Or.inl rfl) ?_
  refine x_nameS (fun s1 => ?_)
  refine x_iconst (pc := 5) 1 dX11_lots_5 rfl ?_
  exact x_iret (rm := r11_lots) rfl rfl dX11_lots_6
theorem c_11_lots (l : Launch)  (q : Bool) (v1 : Int32) (σ : zSt) : zMet l yX11_lots cX11_lots 2 (some .int) r11_lots q eI [aR 11 (some 0), aI v1] σ (f11_lots v1 σ) :=
  zMet_of [(0, aR 11 (some 0)), (1, aI v1)] (by decide +kernel) (fun h => by cases h) (Nat.le_of_ble_eq_true rfl) rfl fun E _ => x11_lots E  q v1 σ
abbrev r11_draw : Room := { frames := 4, cells := 0, slots := 0, locals := 83 }
abbrev m11_draw : zMu := (RX11, 5, (some .int), r11_draw, false)
set_option maxRecDepth 20000 in
theorem xl11_draw_15 (E : zEn)   (h1 : Int32) (σ : zSt) {K50 : Int32 → Option (Int32 × zSt)} (hK50 : ∀ (v2 : Int32), X E cX11_draw m11_draw true (zQw E true eI r11_draw) 0 0 σ [(0, aR 11 (some 0)), (1, aI h1), (2, aI v2)] 50 [] (K50 v2)) : ∀ (n : Nat) (v2 : Int32) (v3 : Int32), X E cX11_draw m11_draw true (zQw E true eI r11_draw) 0 0 σ [(0, aR 11 (some 0)), (1, aI h1), (2, aI v2), (3, aI v3)] 15 [] (f11_draw_L15 h1 σ K50 n v2 v3) := by
  intro n
  induction n with
  | zero => intros; exact x_none
  | succ n ih =>
    intro v2 v3
    rw [f11_draw_L15]
    refine x_iload_n (pc := 15) 3 dX11_draw_15 rfl rfl ?_
    refine x_aload_n (pc := 16) 0 dX11_draw_16 rfl rfl ?_
    refine x_getI (pc := 17) fd_11_5 tk_157 dX11_draw_17 ?_
    refine x_icmp_ge (pc := 20) 50 dX11_draw_20 (by decide) (fun _ => ?_) (fun _ => ?_)
    ·
      exact x_sub [0, 1, 2] rfl (hK50 v2)
    ·
      refine x_iload_n (pc := 23) 2 dX11_draw_23 rfl rfl ?_
      refine x_aload_n (pc := 24) 0 dX11_draw_24 rfl rfl ?_
      refine x_getF (pc := 25) (j := 0) fd_11_4 rfl rfl tk_156 dX11_draw_25 ?_
      refine x_iload_n (pc := 28) 3 dX11_draw_28 rfl rfl ?_
      refine x_aald (pc := 29) (g0 := 1) ar_1204 (by decide) rfl dX11_draw_29 (fun m2 => ?_)
      refine x_nameR (fun o3 => ?_)
      refine x_iload_n (pc := 30) 1 dX11_draw_30 rfl rfl ?_
      rcases o3 with _ | i4
      · exact x_none
      ·
        skip
        refine x_zocS ?_
        refine x_callVr (pc := 31) (as := [aI h1]) (rest := [aI v2]) (fun l => c_1_isSaidNowBy l i4 h1 σ) md_X1_isSaidNowBy ⟨_, _, rfl, by decide⟩ tk_1133 tk_1134 tk_1132 dX11_draw_31 rfl ⟨by decide, by decide, by decide, by decide⟩ ⟨fun _ => rfl, fun _ => Or.inl rfl⟩ rfl (Nat.le_of_ble_eq_true rfl) (fun r5 => ?_)
        show X E _ _ _ _ 0 0 _ _ _ [aI r5, aI v2] _
        refine x_mg (c := r5 = 0) (a := 0) (b := 1) 42 [aI v2] ?_ (fun hm6 => ?_)
        ·
          refine x_iadd (pc := 42) dX11_draw_42 ?_
          refine x_nameI (fun x10 => ?_)
          refine x_istore_n (pc := 43) (als' := [(2, aI x10), (0, aR 11 (some 0)), (1, aI h1), (3, aI v3)]) 2 dX11_draw_43 rfl (by decide) rfl ?_
          refine x_iinc (pc := 44) (als' := [(3, aI (v3 + 1)), (2, aI x10), (0, aR 11 (some 0)), (1, aI h1)]) 3 3 (c := 1) dX11_draw_44 rfl rfl (by decide) rfl ?_
          refine x_nameV (g := fun y12 => [(3, aI y12), (2, aI x10), (0, aR 11 (some 0)), (1, aI h1)]) (fun x11 => ?_) rfl
          refine x_goto (pc := 47) 15 dX11_draw_47 (by decide) ?_
          exact x_sub [2, 3, 1, 0] rfl (ih x10 x11)
        ·
          refine x_same (c := r5 = 0) ?_
          refine x_if_eq (pc := 34) 41 dX11_draw_34 (by decide) (fun hc7 => ?_) (fun hc7 => ?_)
          ·
            have hm8 := x_topT hc7 hm6
            refine x_iconst (pc := 41) 0 dX11_draw_41 rfl ?_
            exact hm8
          ·
            have hm9 := x_topF hc7 hm6
            refine x_iconst (pc := 37) 1 dX11_draw_37 rfl ?_
            refine x_goto (pc := 38) 42 dX11_draw_38 (by decide) ?_
            exact hm9
set_option maxRecDepth 20000 in
theorem xl11_draw_86 (E : zEn)   (h1 : Int32) (σ : zSt)   : ∀ (n : Nat) (v3 : Int32) (v4 : Int32), X E cX11_draw m11_draw true (zQw E true eI r11_draw) 0 0 σ [(0, aR 11 (some 0)), (1, aI h1), (3, aI v3), (4, aI v4)] 86 [] (f11_draw_L86 h1 σ n v3 v4) := by
  intro n
  induction n with
  | zero => intros; exact x_none
  | succ n ih =>
    intro v3 v4
    rw [f11_draw_L86]
    refine x_iload (pc := 86) 4 dX11_draw_86 rfl ?_
    refine x_aload_n (pc := 88) 0 dX11_draw_88 rfl rfl ?_
    refine x_getI (pc := 89) fd_11_5 tk_157 dX11_draw_89 ?_
    refine x_icmp_ge (pc := 92) 125 dX11_draw_92 (by decide) (fun _ => ?_) (fun _ => ?_)
    ·
      refine x_bipush (pc := 125) (-4) dX11_draw_125 rfl ?_
      exact x_iret (rm := r11_draw) rfl rfl dX11_draw_127
    ·
      refine x_aload_n (pc := 95) 0 dX11_draw_95 rfl rfl ?_
      refine x_getF (pc := 96) (j := 0) fd_11_4 rfl rfl tk_156 dX11_draw_96 ?_
      refine x_iload (pc := 99) 4 dX11_draw_99 rfl ?_
      refine x_aald (pc := 101) (g0 := 1) ar_1204 (by decide) rfl dX11_draw_101 (fun m16 => ?_)
      refine x_nameR (fun o17 => ?_)
      refine x_iload_n (pc := 102) 1 dX11_draw_102 rfl rfl ?_
      rcases o17 with _ | i18
      · exact x_none
      ·
        skip
        refine x_zocS ?_
        refine x_callVr (pc := 103) (as := [aI h1]) (rest := []) (fun l => c_1_isSaidNowBy l i18 h1 σ) md_X1_isSaidNowBy ⟨_, _, rfl, by decide⟩ tk_1133 tk_1134 tk_1132 dX11_draw_103 rfl ⟨by decide, by decide, by decide, by decide⟩ ⟨fun _ => rfl, fun _ => Or.inl rfl⟩ rfl (Nat.le_of_ble_eq_true rfl) (fun r19 => ?_)
        show X E _ _ _ _ 0 0 _ _ _ [aI r19] _
        refine x_join (P := fun (j21 : Int32 → Option (Int32 × zSt)) => ∀ (a20 : Int32), X E cX11_draw m11_draw true (zQw E true eI r11_draw) 0 0 σ [(0, aR 11 (some 0)), (1, aI h1), (3, aI a20), (4, aI v4)] 119 [] (j21 a20)) ?_ ?_
        · intro a20
          refine x_iinc (pc := 119) (als' := [(4, aI (v4 + 1)), (0, aR 11 (some 0)), (1, aI h1), (3, aI a20)]) 4 3 (c := 1) dX11_draw_119 rfl rfl (by decide) rfl ?_
          refine x_nameV (g := fun y24 => [(4, aI y24), (0, aR 11 (some 0)), (1, aI h1), (3, aI a20)]) (fun x23 => ?_) rfl
          refine x_goto (pc := 122) 86 dX11_draw_122 (by decide) ?_
          exact x_sub [1, 2, 3, 0] rfl (ih a20 x23)
        · intro j21 hj22
          refine x_if_eq (pc := 106) 119 dX11_draw_106 (by decide) (fun _ => ?_) (fun _ => ?_)
          ·
            exact hj22 v3
          ·
            refine x_iload_n (pc := 109) 3 dX11_draw_109 rfl rfl ?_
            refine x_if_ne (pc := 110) 116 dX11_draw_110 (by decide) (fun _ => ?_) (fun _ => ?_)
            ·
              refine x_iinc (pc := 116) (als' := [(3, aI (v3 + (-1))), (0, aR 11 (some 0)), (1, aI h1), (4, aI v4)]) 3 2 (c := (-1)) dX11_draw_116 rfl rfl (by decide) rfl ?_
              refine x_nameV (g := fun y26 => [(3, aI y26), (0, aR 11 (some 0)), (1, aI h1), (4, aI v4)]) (fun x25 => ?_) rfl
              exact x_sub [1, 2, 0, 3] rfl (hj22 x25)
            ·
              refine x_iload (pc := 113) 4 dX11_draw_113 rfl ?_
              exact x_iret (rm := r11_draw) rfl rfl dX11_draw_115
set_option maxRecDepth 20000 in
theorem x11_draw (E : zEn)  (v1 : Int32) (σ : zSt) : X E cX11_draw m11_draw true (zQw E true eI r11_draw) 0 0 σ [(0, aR 11 (some 0)), (1, aI v1)] 0 [] (f11_draw v1 σ) := by
  unfold f11_draw
  refine x_iload_n (pc := 0) 1 dX11_draw_0 rfl rfl ?_
  refine x_bipush (pc := 1) 10 dX11_draw_1 rfl ?_
  refine x_callSr (pc := 3) (as := [aI v1, aI 10]) (rest := []) (fun l => c_11_isIn l true v1 10 σ) md_X11_isIn tk_219 tk_218 dX11_draw_3 rfl ⟨by decide, by decide, by decide, by decide⟩ ⟨fun _ => rfl, fun _ => Or.inl rfl⟩ rfl (Nat.le_of_ble_eq_true rfl) (fun r1 => ?_)
  show X E _ _ _ _ 0 0 _ _ _ [aI r1] _
  refine x_if_ne (pc := 6) 11 dX11_draw_6 (by decide) (fun _ => ?_) (fun _ => ?_)
  ·
    refine x_iconst (pc := 11) 0 dX11_draw_11 rfl ?_
    refine x_istore_n (pc := 12) (als' := [(2, aI 0), (0, aR 11 (some 0)), (1, aI v1)]) 2 dX11_draw_12 rfl (by decide) rfl ?_
    refine x_iconst (pc := 13) 0 dX11_draw_13 rfl ?_
    refine x_istore_n (pc := 14) (als' := [(3, aI 0), (2, aI 0), (0, aR 11 (some 0)), (1, aI v1)]) 3 dX11_draw_14 rfl (by decide) rfl ?_
    refine x_sub [2, 3, 1, 0] rfl (xl11_draw_15 E v1 σ (fun a13 => ?_) zfuel 0 0)
    ·
      refine x_iload_n (pc := 50) 2 dX11_draw_50 rfl rfl ?_
      refine x_if_ne (pc := 51) 57 dX11_draw_51 (by decide) (fun _ => ?_) (fun _ => ?_)
      ·
        refine x_aload_n (pc := 57) 0 dX11_draw_57 rfl rfl ?_
        refine x_aload_n (pc := 58) 0 dX11_draw_58 rfl rfl ?_
        refine x_getI (pc := 59) fd_11_9 tk_161 dX11_draw_59 ?_
        refine x_ldcw (pc := 62) (v := 1103515245) dX11_draw_62 tk_1137 ?_
        refine x_imul (pc := 65) dX11_draw_65 ?_
        refine x_sipush (pc := 66) 12345 dX11_draw_66 rfl ?_
        refine x_iadd (pc := 69) dX11_draw_69 ?_
        refine x_putI (pc := 70) fd_11_9 pt_11_9 tk_161 dX11_draw_70 (Or.inl rfl) ?_
        refine x_nameS (fun s14 => ?_)
        refine x_aload_n (pc := 73) 0 dX11_draw_73 rfl rfl ?_
        refine x_getI (pc := 74) fd_11_9 tk_161 dX11_draw_74 ?_
        refine x_bipush (pc := 77) 8 dX11_draw_77 rfl ?_
        refine x_iushr (pc := 79) dX11_draw_79 ?_
        refine x_iload_n (pc := 80) 2 dX11_draw_80 rfl rfl ?_
        refine x_irem (pc := 81) dX11_draw_81 ?_
        refine x_nameI (fun x15 => ?_)
        refine x_istore_n (pc := 82) (als' := [(3, aI x15), (0, aR 11 (some 0)), (1, aI v1), (2, aI a13)]) 3 dX11_draw_82 rfl (by decide) rfl ?_
        refine x_iconst (pc := 83) 0 dX11_draw_83 rfl ?_
        refine x_istore (pc := 84) (als' := [(4, aI 0), (3, aI x15), (0, aR 11 (some 0)), (1, aI v1), (2, aI a13)]) 4 dX11_draw_84 (by decide) rfl ?_
        refine x_sub [2, 3, 1, 0] rfl (xl11_draw_86 E v1 s14 zfuel x15 0)
      ·
        refine x_bipush (pc := 54) (-4) dX11_draw_54 rfl ?_
        exact x_iret (rm := r11_draw) rfl rfl dX11_draw_56
  ·
    refine x_iconst (pc := 9) (-1) dX11_draw_9 rfl ?_
    exact x_iret (rm := r11_draw) rfl rfl dX11_draw_10
theorem c_11_draw (l : Launch)  (v1 : Int32) (σ : zSt) : zMet l yX11_draw cX11_draw 5 (some .int) r11_draw true eI [aR 11 (some 0), aI v1] σ (f11_draw v1 σ) :=
  zMet_of [(0, aR 11 (some 0)), (1, aI v1)] (by decide +kernel) (fun h => by cases h) (Nat.le_of_ble_eq_true rfl) rfl fun E _ => x11_draw E  v1 σ
abbrev r11_saidBy : Room := { frames := 2, cells := 0, slots := 0, locals := 45 }
abbrev m11_saidBy : zMu := (RX11, 4, (some .int), r11_saidBy, false)
set_option maxRecDepth 20000 in
theorem xl11_saidBy_4 (E : zEn)   (h1 : Int32) (σ : zSt)   : ∀ (n : Nat) (v2 : Int32) (v3 : Int32), X E cX11_saidBy m11_saidBy true (zQr E true eI r11_saidBy σ) 0 0 σ [(0, aR 11 (some 0)), (1, aI h1), (2, aI v2), (3, aI v3)] 4 [] (f11_saidBy_L4 h1 σ n v2 v3) := by
  intro n
  induction n with
  | zero => intros; exact x_none
  | succ n ih =>
    intro v2 v3
    rw [f11_saidBy_L4]
    refine x_iload_n (pc := 4) 3 dX11_saidBy_4 rfl rfl ?_
    refine x_aload_n (pc := 5) 0 dX11_saidBy_5 rfl rfl ?_
    refine x_getI (pc := 6) fd_11_5 tk_157 dX11_saidBy_6 ?_
    refine x_icmp_ge (pc := 9) 34 dX11_saidBy_9 (by decide) (fun _ => ?_) (fun _ => ?_)
    ·
      refine x_iload_n (pc := 34) 2 dX11_saidBy_34 rfl rfl ?_
      exact x_iret (rm := r11_saidBy) rfl rfl dX11_saidBy_35
    ·
      refine x_iload_n (pc := 12) 2 dX11_saidBy_12 rfl rfl ?_
      refine x_aload_n (pc := 13) 0 dX11_saidBy_13 rfl rfl ?_
      refine x_getF (pc := 14) (j := 0) fd_11_4 rfl rfl tk_156 dX11_saidBy_14 ?_
      refine x_iload_n (pc := 17) 3 dX11_saidBy_17 rfl rfl ?_
      refine x_aald (pc := 18) (g0 := 1) ar_1204 (by decide) rfl dX11_saidBy_18 (fun m1 => ?_)
      refine x_nameR (fun o2 => ?_)
      rcases o2 with _ | i3
      · exact x_none
      ·
        skip
        refine x_zocS ?_
        refine x_getF (pc := 19) (j := i3) fd_1_7 rfl rfl tk_446 dX11_saidBy_19 ?_
        refine x_iload_n (pc := 22) 1 dX11_saidBy_22 rfl rfl ?_
        refine x_callVr (pc := 23) (as := [aI h1]) (rest := [aI v2]) (fun l => c_4_timesSaid l i3 h1 σ) md_X4_timesSaid ⟨_, _, rfl, by decide⟩ tk_593 tk_594 tk_592 dX11_saidBy_23 rfl ⟨by decide, by decide, by decide, by decide⟩ ⟨fun _ => rfl, fun _ => Or.inl rfl⟩ rfl (Nat.le_of_ble_eq_true rfl) (fun r4 => ?_)
        show X E _ _ _ _ 0 0 _ _ _ [aI r4, aI v2] _
        refine x_iadd (pc := 26) dX11_saidBy_26 ?_
        refine x_nameI (fun x5 => ?_)
        refine x_istore_n (pc := 27) (als' := [(2, aI x5), (0, aR 11 (some 0)), (1, aI h1), (3, aI v3)]) 2 dX11_saidBy_27 rfl (by decide) rfl ?_
        refine x_iinc (pc := 28) (als' := [(3, aI (v3 + 1)), (2, aI x5), (0, aR 11 (some 0)), (1, aI h1)]) 3 3 (c := 1) dX11_saidBy_28 rfl rfl (by decide) rfl ?_
        refine x_nameV (g := fun y7 => [(3, aI y7), (2, aI x5), (0, aR 11 (some 0)), (1, aI h1)]) (fun x6 => ?_) rfl
        refine x_goto (pc := 31) 4 dX11_saidBy_31 (by decide) ?_
        exact x_sub [2, 3, 1, 0] rfl (ih x5 x6)
set_option maxRecDepth 20000 in
theorem x11_saidBy (E : zEn)  (v1 : Int32) (σ : zSt) : X E cX11_saidBy m11_saidBy true (zQr E true eI r11_saidBy σ) 0 0 σ [(0, aR 11 (some 0)), (1, aI v1)] 0 [] (f11_saidBy v1 σ) := by
  unfold f11_saidBy
  refine x_iconst (pc := 0) 0 dX11_saidBy_0 rfl ?_
  refine x_istore_n (pc := 1) (als' := [(2, aI 0), (0, aR 11 (some 0)), (1, aI v1)]) 2 dX11_saidBy_1 rfl (by decide) rfl ?_
  refine x_iconst (pc := 2) 0 dX11_saidBy_2 rfl ?_
  refine x_istore_n (pc := 3) (als' := [(3, aI 0), (2, aI 0), (0, aR 11 (some 0)), (1, aI v1)]) 3 dX11_saidBy_3 rfl (by decide) rfl ?_
  refine x_sub [2, 3, 1, 0] rfl (xl11_saidBy_4 E v1 σ zfuel 0 0)
theorem c_11_saidBy (l : Launch)  (v1 : Int32) (σ : zSt) : zMet l yX11_saidBy cX11_saidBy 4 (some .int) r11_saidBy true eI [aR 11 (some 0), aI v1] σ (zro (f11_saidBy v1 σ) σ) :=
  zMet_ofR [(0, aR 11 (some 0)), (1, aI v1)] (by decide +kernel) (fun h => by cases h) (Nat.le_of_ble_eq_true rfl) rfl fun E _ => x11_saidBy E  v1 σ
abbrev r11_falseBy : Room := { frames := 2, cells := 0, slots := 0, locals := 45 }
abbrev m11_falseBy : zMu := (RX11, 4, (some .int), r11_falseBy, false)
set_option maxRecDepth 20000 in
theorem xl11_falseBy_4 (E : zEn)   (h1 : Int32) (σ : zSt)   : ∀ (n : Nat) (v2 : Int32) (v3 : Int32), X E cX11_falseBy m11_falseBy true (zQr E true eI r11_falseBy σ) 0 0 σ [(0, aR 11 (some 0)), (1, aI h1), (2, aI v2), (3, aI v3)] 4 [] (f11_falseBy_L4 h1 σ n v2 v3) := by
  intro n
  induction n with
  | zero => intros; exact x_none
  | succ n ih =>
    intro v2 v3
    rw [f11_falseBy_L4]
    refine x_iload_n (pc := 4) 3 dX11_falseBy_4 rfl rfl ?_
    refine x_aload_n (pc := 5) 0 dX11_falseBy_5 rfl rfl ?_
    refine x_getI (pc := 6) fd_11_5 tk_157 dX11_falseBy_6 ?_
    refine x_icmp_ge (pc := 9) 34 dX11_falseBy_9 (by decide) (fun _ => ?_) (fun _ => ?_)
    ·
      refine x_iload_n (pc := 34) 2 dX11_falseBy_34 rfl rfl ?_
      exact x_iret (rm := r11_falseBy) rfl rfl dX11_falseBy_35
    ·
      refine x_iload_n (pc := 12) 2 dX11_falseBy_12 rfl rfl ?_
      refine x_aload_n (pc := 13) 0 dX11_falseBy_13 rfl rfl ?_
      refine x_getF (pc := 14) (j := 0) fd_11_4 rfl rfl tk_156 dX11_falseBy_14 ?_
      refine x_iload_n (pc := 17) 3 dX11_falseBy_17 rfl rfl ?_
      refine x_aald (pc := 18) (g0 := 1) ar_1204 (by decide) rfl dX11_falseBy_18 (fun m1 => ?_)
      refine x_nameR (fun o2 => ?_)
      rcases o2 with _ | i3
      · exact x_none
      ·
        skip
        refine x_zocS ?_
        refine x_getF (pc := 19) (j := i3) fd_1_7 rfl rfl tk_446 dX11_falseBy_19 ?_
        refine x_iload_n (pc := 22) 1 dX11_falseBy_22 rfl rfl ?_
        refine x_callVr (pc := 23) (as := [aI h1]) (rest := [aI v2]) (fun l => c_4_timesFalse l i3 h1 σ) md_X4_timesFalse ⟨_, _, rfl, by decide⟩ tk_334 tk_335 tk_333 dX11_falseBy_23 rfl ⟨by decide, by decide, by decide, by decide⟩ ⟨fun _ => rfl, fun _ => Or.inl rfl⟩ rfl (Nat.le_of_ble_eq_true rfl) (fun r4 => ?_)
        show X E _ _ _ _ 0 0 _ _ _ [aI r4, aI v2] _
        refine x_iadd (pc := 26) dX11_falseBy_26 ?_
        refine x_nameI (fun x5 => ?_)
        refine x_istore_n (pc := 27) (als' := [(2, aI x5), (0, aR 11 (some 0)), (1, aI h1), (3, aI v3)]) 2 dX11_falseBy_27 rfl (by decide) rfl ?_
        refine x_iinc (pc := 28) (als' := [(3, aI (v3 + 1)), (2, aI x5), (0, aR 11 (some 0)), (1, aI h1)]) 3 3 (c := 1) dX11_falseBy_28 rfl rfl (by decide) rfl ?_
        refine x_nameV (g := fun y7 => [(3, aI y7), (2, aI x5), (0, aR 11 (some 0)), (1, aI h1)]) (fun x6 => ?_) rfl
        refine x_goto (pc := 31) 4 dX11_falseBy_31 (by decide) ?_
        exact x_sub [2, 3, 1, 0] rfl (ih x5 x6)
set_option maxRecDepth 20000 in
theorem x11_falseBy (E : zEn)  (v1 : Int32) (σ : zSt) : X E cX11_falseBy m11_falseBy true (zQr E true eI r11_falseBy σ) 0 0 σ [(0, aR 11 (some 0)), (1, aI v1)] 0 [] (f11_falseBy v1 σ) := by
  unfold f11_falseBy
  refine x_iconst (pc := 0) 0 dX11_falseBy_0 rfl ?_
  refine x_istore_n (pc := 1) (als' := [(2, aI 0), (0, aR 11 (some 0)), (1, aI v1)]) 2 dX11_falseBy_1 rfl (by decide) rfl ?_
  refine x_iconst (pc := 2) 0 dX11_falseBy_2 rfl ?_
  refine x_istore_n (pc := 3) (als' := [(3, aI 0), (2, aI 0), (0, aR 11 (some 0)), (1, aI v1)]) 3 dX11_falseBy_3 rfl (by decide) rfl ?_
  refine x_sub [2, 3, 1, 0] rfl (xl11_falseBy_4 E v1 σ zfuel 0 0)
theorem c_11_falseBy (l : Launch)  (v1 : Int32) (σ : zSt) : zMet l yX11_falseBy cX11_falseBy 4 (some .int) r11_falseBy true eI [aR 11 (some 0), aI v1] σ (zro (f11_falseBy v1 σ) σ) :=
  zMet_ofR [(0, aR 11 (some 0)), (1, aI v1)] (by decide +kernel) (fun h => by cases h) (Nat.le_of_ble_eq_true rfl) rfl fun E _ => x11_falseBy E  v1 σ
abbrev r11_chargedTo : Room := { frames := 4, cells := 0, slots := 0, locals := 93 }
abbrev m11_chargedTo : zMu := (RX11, 4, (some .int), r11_chargedTo, false)
set_option maxRecDepth 20000 in
theorem xl11_chargedTo_4 (E : zEn)   (h1 : Int32) (σ : zSt)   : ∀ (n : Nat) (v2 : Int32) (v3 : Int32), X E cX11_chargedTo m11_chargedTo true (zQr E true eI r11_chargedTo σ) 0 0 σ [(0, aR 11 (some 0)), (1, aI h1), (2, aI v2), (3, aI v3)] 4 [] (f11_chargedTo_L4 h1 σ n v2 v3) := by
  intro n
  induction n with
  | zero => intros; exact x_none
  | succ n ih =>
    intro v2 v3
    rw [f11_chargedTo_L4]
    refine x_iload_n (pc := 4) 3 dX11_chargedTo_4 rfl rfl ?_
    refine x_aload_n (pc := 5) 0 dX11_chargedTo_5 rfl rfl ?_
    refine x_getI (pc := 6) fd_11_5 tk_157 dX11_chargedTo_6 ?_
    refine x_icmp_ge (pc := 9) 40 dX11_chargedTo_9 (by decide) (fun _ => ?_) (fun _ => ?_)
    ·
      refine x_iload_n (pc := 40) 2 dX11_chargedTo_40 rfl rfl ?_
      exact x_iret (rm := r11_chargedTo) rfl rfl dX11_chargedTo_41
    ·
      refine x_iload_n (pc := 12) 2 dX11_chargedTo_12 rfl rfl ?_
      refine x_aload_n (pc := 13) 0 dX11_chargedTo_13 rfl rfl ?_
      refine x_aload_n (pc := 14) 0 dX11_chargedTo_14 rfl rfl ?_
      refine x_getF (pc := 15) (j := 0) fd_11_4 rfl rfl tk_156 dX11_chargedTo_15 ?_
      refine x_iload_n (pc := 18) 3 dX11_chargedTo_18 rfl rfl ?_
      refine x_aald (pc := 19) (g0 := 1) ar_1204 (by decide) rfl dX11_chargedTo_19 (fun m1 => ?_)
      refine x_nameR (fun o2 => ?_)
      rcases o2 with _ | i3
      · exact x_none
      ·
        skip
        refine x_zocS ?_
        refine x_callVr (pc := 20) (as := [aR 1 (some i3)]) (rest := [aI v2]) (fun l => c_11_chargedCrew l i3 σ) md_X11_chargedCrew ⟨_, _, rfl, by decide⟩ tk_1013 tp_32 tk_1011 dX11_chargedTo_20 rfl ⟨by decide, by decide, by decide, by decide⟩ ⟨fun _ => rfl, fun _ => Or.inl rfl⟩ rfl (Nat.le_of_ble_eq_true rfl) (fun r4 => ?_)
        show X E _ _ _ _ 0 0 _ _ _ [aI r4, aI v2] _
        refine x_iload_n (pc := 23) 1 dX11_chargedTo_23 rfl rfl ?_
        refine x_mg (c := r4 = h1) (a := 1) (b := 0) 32 [aI v2] ?_ (fun hm5 => ?_)
        ·
          refine x_iadd (pc := 32) dX11_chargedTo_32 ?_
          refine x_nameI (fun x9 => ?_)
          refine x_istore_n (pc := 33) (als' := [(2, aI x9), (0, aR 11 (some 0)), (1, aI h1), (3, aI v3)]) 2 dX11_chargedTo_33 rfl (by decide) rfl ?_
          refine x_iinc (pc := 34) (als' := [(3, aI (v3 + 1)), (2, aI x9), (0, aR 11 (some 0)), (1, aI h1)]) 3 3 (c := 1) dX11_chargedTo_34 rfl rfl (by decide) rfl ?_
          refine x_nameV (g := fun y11 => [(3, aI y11), (2, aI x9), (0, aR 11 (some 0)), (1, aI h1)]) (fun x10 => ?_) rfl
          refine x_goto (pc := 37) 4 dX11_chargedTo_37 (by decide) ?_
          exact x_sub [2, 3, 1, 0] rfl (ih x9 x10)
        ·
          refine x_same (c := r4 = h1) ?_
          refine x_icmp_ne (pc := 24) 31 dX11_chargedTo_24 (by decide) (fun hc6 => ?_) (fun hc6 => ?_)
          ·
            have hm8 := x_topF hc6 hm5
            refine x_iconst (pc := 31) 0 dX11_chargedTo_31 rfl ?_
            exact hm8
          ·
            have hm7 := x_topT hc6 hm5
            refine x_iconst (pc := 27) 1 dX11_chargedTo_27 rfl ?_
            refine x_goto (pc := 28) 32 dX11_chargedTo_28 (by decide) ?_
            exact hm7
set_option maxRecDepth 20000 in
theorem x11_chargedTo (E : zEn)  (v1 : Int32) (σ : zSt) : X E cX11_chargedTo m11_chargedTo true (zQr E true eI r11_chargedTo σ) 0 0 σ [(0, aR 11 (some 0)), (1, aI v1)] 0 [] (f11_chargedTo v1 σ) := by
  unfold f11_chargedTo
  refine x_iconst (pc := 0) 0 dX11_chargedTo_0 rfl ?_
  refine x_istore_n (pc := 1) (als' := [(2, aI 0), (0, aR 11 (some 0)), (1, aI v1)]) 2 dX11_chargedTo_1 rfl (by decide) rfl ?_
  refine x_iconst (pc := 2) 0 dX11_chargedTo_2 rfl ?_
  refine x_istore_n (pc := 3) (als' := [(3, aI 0), (2, aI 0), (0, aR 11 (some 0)), (1, aI v1)]) 3 dX11_chargedTo_3 rfl (by decide) rfl ?_
  refine x_sub [2, 3, 1, 0] rfl (xl11_chargedTo_4 E v1 σ zfuel 0 0)
theorem c_11_chargedTo (l : Launch)  (v1 : Int32) (σ : zSt) : zMet l yX11_chargedTo cX11_chargedTo 4 (some .int) r11_chargedTo true eI [aR 11 (some 0), aI v1] σ (zro (f11_chargedTo v1 σ) σ) :=
  zMet_ofR [(0, aR 11 (some 0)), (1, aI v1)] (by decide +kernel) (fun h => by cases h) (Nat.le_of_ble_eq_true rfl) rfl fun E _ => x11_chargedTo E  v1 σ
