abbrev r12_beginText : Room := { frames := 0, cells := 0, slots := 0, locals := 0 }
abbrev m12_beginText : zMu := (RX12, 3, none, r12_beginText, false)
set_option maxRecDepth 20000 in
theorem x12_beginText (E : zEn)  (q : Bool) (v1 : Int32) (v2 : Int32) (σ : zSt) : X E cX12_beginText m12_beginText q (zQw E q eV r12_beginText) 0 0 σ [(0, aR 12 (some 0)), (1, aI v1), (2, aI v2)] 0 [] (f12_beginText v1 v2 σ) := by
  unfold f12_beginText
  refine x_aload_n (pc := 0) 0 dX12_beginText_0 rfl rfl ?_
  refine x_iload_n (pc := 1) 1 dX12_beginText_1 rfl rfl ?_
  refine x_putI (pc := 2) fd_12_66 pt_12_66 tk_1261 dX12_beginText_2 (Or.inl rfl) ?_
  refine x_nameS (fun s1 => ?_)
  refine x_aload_n (pc := 5) 0 dX12_beginText_5 rfl rfl ?_
  refine x_iconst (pc := 6) 0 dX12_beginText_6 rfl ?_
  refine x_putI (pc := 7) fd_12_67 pt_12_67 tk_1262 dX12_beginText_7 (Or.inl rfl) ?_
  refine x_nameS (fun s2 => ?_)
  refine x_aload_n (pc := 10) 0 dX12_beginText_10 rfl rfl ?_
  refine x_iload_n (pc := 11) 2 dX12_beginText_11 rfl rfl ?_
  refine x_putI (pc := 12) fd_12_68 pt_12_68 tk_1263 dX12_beginText_12 (Or.inl rfl) ?_
  refine x_nameS (fun s3 => ?_)
  refine x_aload_n (pc := 15) 0 dX12_beginText_15 rfl rfl ?_
  refine x_iconst (pc := 16) (-1) dX12_beginText_16 rfl ?_
  refine x_putI (pc := 17) fd_12_69 pt_12_69 tk_1264 dX12_beginText_17 (Or.inl rfl) ?_
  refine x_nameS (fun s4 => ?_)
  refine x_aload_n (pc := 20) 0 dX12_beginText_20 rfl rfl ?_
  refine x_iconst (pc := 21) 0 dX12_beginText_21 rfl ?_
  refine x_putI (pc := 22) fd_12_70 pt_12_70 tk_1265 dX12_beginText_22 (Or.inl rfl) ?_
  refine x_nameS (fun s5 => ?_)
  exact x_vret (rm := r12_beginText) rfl rfl dX12_beginText_25
theorem c_12_beginText (l : Launch)  (q : Bool) (v1 : Int32) (v2 : Int32) (σ : zSt) : zMet l yX12_beginText cX12_beginText 3 none r12_beginText q eV [aR 12 (some 0), aI v1, aI v2] σ (f12_beginText v1 v2 σ) :=
  zMet_of [(0, aR 12 (some 0)), (1, aI v1), (2, aI v2)] (by decide +kernel) (fun h => by cases h) (Nat.le_of_ble_eq_true rfl) rfl fun E _ => x12_beginText E  q v1 v2 σ
abbrev r12_byteAt : Room := { frames := 0, cells := 0, slots := 0, locals := 0 }
abbrev m12_byteAt : zMu := (RX12, 1, (some .int), r12_byteAt, false)
set_option maxRecDepth 20000 in
theorem x12_byteAt (E : zEn)   (σ : zSt) : X E cX12_byteAt m12_byteAt true (zQr E true eI r12_byteAt σ) 0 0 σ [(0, aR 12 (some 0))] 0 [] (f12_byteAt σ) := by
  unfold f12_byteAt
  refine x_aload_n (pc := 0) 0 dX12_byteAt_0 rfl rfl ?_
  refine x_getI (pc := 1) fd_12_67 tk_1262 dX12_byteAt_1 ?_
  refine x_aload_n (pc := 4) 0 dX12_byteAt_4 rfl rfl ?_
  refine x_getI (pc := 5) fd_12_68 tk_1263 dX12_byteAt_5 ?_
  refine x_icmp_ge (pc := 8) 47 dX12_byteAt_8 (by decide) (fun _ => ?_) (fun _ => ?_)
  ·
    refine x_iconst (pc := 47) 0 dX12_byteAt_47 rfl ?_
    exact x_iret (rm := r12_byteAt) rfl rfl dX12_byteAt_48
  ·
    refine x_aload_n (pc := 11) 0 dX12_byteAt_11 rfl rfl ?_
    refine x_getI (pc := 12) fd_12_66 tk_1261 dX12_byteAt_12 ?_
    refine x_if_ge (pc := 15) 30 dX12_byteAt_15 (by decide) (fun _ => ?_) (fun _ => ?_)
    ·
      refine x_aload_n (pc := 30) 0 dX12_byteAt_30 rfl rfl ?_
      refine x_getF (pc := 31) (j := 0) fd_12_50 rfl rfl tk_1245 dX12_byteAt_31 ?_
      refine x_aload_n (pc := 34) 0 dX12_byteAt_34 rfl rfl ?_
      refine x_getI (pc := 35) fd_12_66 tk_1261 dX12_byteAt_35 ?_
      refine x_aload_n (pc := 38) 0 dX12_byteAt_38 rfl rfl ?_
      refine x_getI (pc := 39) fd_12_67 tk_1262 dX12_byteAt_39 ?_
      refine x_iadd (pc := 42) dX12_byteAt_42 ?_
      refine x_iald (pc := 43) ar_1350 dX12_byteAt_43 (fun m1 => ?_)
      refine x_goto (pc := 44) 48 dX12_byteAt_44 (by decide) ?_
      exact x_iret (rm := r12_byteAt) rfl rfl dX12_byteAt_48
    ·
      refine x_aload_n (pc := 18) 0 dX12_byteAt_18 rfl rfl ?_
      refine x_getF (pc := 19) (j := 0) fd_12_48 rfl rfl tk_1243 dX12_byteAt_19 ?_
      refine x_aload_n (pc := 22) 0 dX12_byteAt_22 rfl rfl ?_
      refine x_getI (pc := 23) fd_12_67 tk_1262 dX12_byteAt_23 ?_
      refine x_iald (pc := 26) ar_1348 dX12_byteAt_26 (fun m2 => ?_)
      refine x_goto (pc := 27) 48 dX12_byteAt_27 (by decide) ?_
      exact x_iret (rm := r12_byteAt) rfl rfl dX12_byteAt_48
theorem c_12_byteAt (l : Launch)   (σ : zSt) : zMet l yX12_byteAt cX12_byteAt 1 (some .int) r12_byteAt true eI [aR 12 (some 0)] σ (zro (f12_byteAt σ) σ) :=
  zMet_ofR [(0, aR 12 (some 0))] (by decide +kernel) (fun h => by cases h) (Nat.le_of_ble_eq_true rfl) rfl fun E _ => x12_byteAt E   σ
abbrev r12_wrong : Room := { frames := 0, cells := 0, slots := 0, locals := 0 }
abbrev m12_wrong : zMu := (RX12, 1, (some .int), r12_wrong, false)
set_option maxRecDepth 20000 in
theorem x12_wrong (E : zEn)  (q : Bool)  (σ : zSt) : X E cX12_wrong m12_wrong q (zQw E q eI r12_wrong) 0 0 σ [(0, aR 12 (some 0))] 0 [] (f12_wrong σ) := by
  unfold f12_wrong
  refine x_aload_n (pc := 0) 0 dX12_wrong_0 rfl rfl ?_
  refine x_aload_n (pc := 1) 0 dX12_wrong_1 rfl rfl ?_
  refine x_getI (pc := 2) fd_12_69 tk_1264 dX12_wrong_2 ?_
  refine x_mg (c := 0 ≤ (gI σ 12 0 69)) (a := (gI σ 12 0 69)) (b := (gI σ 12 0 67)) 19 [aR 12 (some 0)] ?_ (fun hm1 => ?_)
  ·
    refine x_putI (pc := 19) fd_12_69 pt_12_69 tk_1264 dX12_wrong_19 (Or.inl rfl) ?_
    refine x_nameS (fun s5 => ?_)
    refine x_iconst (pc := 22) 0 dX12_wrong_22 rfl ?_
    exact x_iret (rm := r12_wrong) rfl rfl dX12_wrong_23
  ·
    refine x_same (c := 0 ≤ (gI σ 12 0 69)) ?_
    refine x_if_ge (pc := 5) 15 dX12_wrong_5 (by decide) (fun hc2 => ?_) (fun hc2 => ?_)
    ·
      have hm3 := x_topT hc2 hm1
      refine x_aload_n (pc := 15) 0 dX12_wrong_15 rfl rfl ?_
      refine x_getI (pc := 16) fd_12_69 tk_1264 dX12_wrong_16 ?_
      exact hm3
    ·
      have hm4 := x_topF hc2 hm1
      refine x_aload_n (pc := 8) 0 dX12_wrong_8 rfl rfl ?_
      refine x_getI (pc := 9) fd_12_67 tk_1262 dX12_wrong_9 ?_
      refine x_goto (pc := 12) 19 dX12_wrong_12 (by decide) ?_
      exact hm4
theorem c_12_wrong (l : Launch)  (q : Bool)  (σ : zSt) : zMet l yX12_wrong cX12_wrong 1 (some .int) r12_wrong q eI [aR 12 (some 0)] σ (f12_wrong σ) :=
  zMet_of [(0, aR 12 (some 0))] (by decide +kernel) (fun h => by cases h) (Nat.le_of_ble_eq_true rfl) rfl fun E _ => x12_wrong E  q  σ
abbrev r12_figure : Room := { frames := 1, cells := 0, slots := 0, locals := 20 }
abbrev m12_figure : zMu := (RX12, 4, (some .int), r12_figure, false)
set_option maxRecDepth 20000 in
theorem xl12_figure_4 (E : zEn)   (h1 : Int32) {K56 : Int32 → Int32 → zSt → Option (Int32 × zSt)} (hK56 : ∀ (v2 : Int32) (v3 : Int32) (σ : zSt), X E cX12_figure m12_figure true (zQw E true eI r12_figure) 0 0 σ [(0, aR 12 (some 0)), (2, aI v2), (3, aI v3)] 56 [] (K56 v2 v3 σ)) : ∀ (n : Nat) (v2 : Int32) (v3 : Int32) (σ : zSt), X E cX12_figure m12_figure true (zQw E true eI r12_figure) 0 0 σ [(0, aR 12 (some 0)), (1, aI h1), (2, aI v2), (3, aI v3)] 4 [] (f12_figure_L4 h1 K56 n v2 v3 σ) := by
  intro n
  induction n with
  | zero => intros; exact x_none
  | succ n ih =>
    intro v2 v3 σ
    rw [f12_figure_L4]
    refine x_iload_n (pc := 4) 3 dX12_figure_4 rfl rfl ?_
    refine x_iload_n (pc := 5) 1 dX12_figure_5 rfl rfl ?_
    refine x_icmp_ge (pc := 6) 56 dX12_figure_6 (by decide) (fun _ => ?_) (fun _ => ?_)
    ·
      exact x_sub [0, 2, 3] rfl (hK56 v2 v3 σ)
    ·
      refine x_aload_n (pc := 9) 0 dX12_figure_9 rfl rfl ?_
      refine x_callVr (pc := 10) (as := []) (rest := []) (fun l => c_12_byteAt l σ) md_X12_byteAt ⟨_, _, rfl, by decide⟩ tk_1742 tp_90 tk_1740 dX12_figure_10 rfl ⟨by decide, by decide, by decide, by decide⟩ ⟨fun _ => rfl, fun _ => Or.inl rfl⟩ rfl (Nat.le_of_ble_eq_true rfl) (fun r1 => ?_)
      show X E _ _ _ _ 0 0 _ _ _ [aI r1] _
      refine x_bipush (pc := 13) 48 dX12_figure_13 rfl ?_
      refine x_icmp_lt (pc := 15) 56 dX12_figure_15 (by decide) (fun _ => ?_) (fun _ => ?_)
      ·
        exact x_sub [0, 2, 3] rfl (hK56 v2 v3 σ)
      ·
        refine x_aload_n (pc := 18) 0 dX12_figure_18 rfl rfl ?_
        refine x_callVr (pc := 19) (as := []) (rest := []) (fun l => c_12_byteAt l σ) md_X12_byteAt ⟨_, _, rfl, by decide⟩ tk_1742 tp_90 tk_1740 dX12_figure_19 rfl ⟨by decide, by decide, by decide, by decide⟩ ⟨fun _ => rfl, fun _ => Or.inl rfl⟩ rfl (Nat.le_of_ble_eq_true rfl) (fun r2 => ?_)
        show X E _ _ _ _ 0 0 _ _ _ [aI r2] _
        refine x_bipush (pc := 22) 57 dX12_figure_22 rfl ?_
        refine x_icmp_gt (pc := 24) 56 dX12_figure_24 (by decide) (fun _ => ?_) (fun _ => ?_)
        ·
          exact x_sub [0, 2, 3] rfl (hK56 v2 v3 σ)
        ·
          refine x_bipush (pc := 27) 10 dX12_figure_27 rfl ?_
          refine x_iload_n (pc := 29) 2 dX12_figure_29 rfl rfl ?_
          refine x_imul (pc := 30) dX12_figure_30 ?_
          refine x_aload_n (pc := 31) 0 dX12_figure_31 rfl rfl ?_
          refine x_callVr (pc := 32) (as := []) (rest := [aI (10 * v2)]) (fun l => c_12_byteAt l σ) md_X12_byteAt ⟨_, _, rfl, by decide⟩ tk_1742 tp_90 tk_1740 dX12_figure_32 rfl ⟨by decide, by decide, by decide, by decide⟩ ⟨fun _ => rfl, fun _ => Or.inl rfl⟩ rfl (Nat.le_of_ble_eq_true rfl) (fun r3 => ?_)
          show X E _ _ _ _ 0 0 _ _ _ [aI r3, aI (10 * v2)] _
          refine x_iadd (pc := 35) dX12_figure_35 ?_
          refine x_bipush (pc := 36) 48 dX12_figure_36 rfl ?_
          refine x_isub (pc := 38) dX12_figure_38 ?_
          refine x_nameI (fun x4 => ?_)
          refine x_istore_n (pc := 39) (als' := [(2, aI x4), (0, aR 12 (some 0)), (1, aI h1), (3, aI v3)]) 2 dX12_figure_39 rfl (by decide) rfl ?_
          refine x_iinc (pc := 40) (als' := [(3, aI (v3 + 1)), (2, aI x4), (0, aR 12 (some 0)), (1, aI h1)]) 3 3 (c := 1) dX12_figure_40 rfl rfl (by decide) rfl ?_
          refine x_nameV (g := fun y6 => [(3, aI y6), (2, aI x4), (0, aR 12 (some 0)), (1, aI h1)]) (fun x5 => ?_) rfl
          refine x_aload_n (pc := 43) 0 dX12_figure_43 rfl rfl ?_
          refine x_dup (pc := 44) dX12_figure_44 rfl ?_
          refine x_getI (pc := 45) fd_12_67 tk_1262 dX12_figure_45 ?_
          refine x_iconst (pc := 48) 1 dX12_figure_48 rfl ?_
          refine x_iadd (pc := 49) dX12_figure_49 ?_
          refine x_putI (pc := 50) fd_12_67 pt_12_67 tk_1262 dX12_figure_50 (Or.inl rfl) ?_
          refine x_nameS (fun s7 => ?_)
          refine x_goto (pc := 53) 4 dX12_figure_53 (by decide) ?_
          exact x_sub [2, 3, 1, 0] rfl (ih x4 x5 s7)
set_option maxRecDepth 20000 in
theorem x12_figure (E : zEn)  (v1 : Int32) (σ : zSt) : X E cX12_figure m12_figure true (zQw E true eI r12_figure) 0 0 σ [(0, aR 12 (some 0)), (1, aI v1)] 0 [] (f12_figure v1 σ) := by
  unfold f12_figure
  refine x_iconst (pc := 0) 0 dX12_figure_0 rfl ?_
  refine x_istore_n (pc := 1) (als' := [(2, aI 0), (0, aR 12 (some 0)), (1, aI v1)]) 2 dX12_figure_1 rfl (by decide) rfl ?_
  refine x_iconst (pc := 2) 0 dX12_figure_2 rfl ?_
  refine x_istore_n (pc := 3) (als' := [(3, aI 0), (2, aI 0), (0, aR 12 (some 0)), (1, aI v1)]) 3 dX12_figure_3 rfl (by decide) rfl ?_
  refine x_sub [2, 3, 1, 0] rfl (xl12_figure_4 E v1 (fun a8 a9 s10 => ?_) zfuel 0 0 σ)
  ·
    refine x_iload_n (pc := 56) 3 dX12_figure_56 rfl rfl ?_
    refine x_if_ne (pc := 57) 67 dX12_figure_57 (by decide) (fun _ => ?_) (fun _ => ?_)
    ·
      refine x_iload_n (pc := 67) 2 dX12_figure_67 rfl rfl ?_
      exact x_iret (rm := r12_figure) rfl rfl dX12_figure_68
    ·
      refine x_aload_n (pc := 60) 0 dX12_figure_60 rfl rfl ?_
      refine x_callV (pc := 61) (as := []) (rest := []) (fun l => c_12_wrong l true s10) md_X12_wrong ⟨_, _, rfl, by decide⟩ tk_1753 tp_92 tk_1751 dX12_figure_61 rfl ⟨by decide, by decide, by decide, by decide⟩ ⟨fun _ => rfl, fun _ => Or.inl rfl⟩ rfl (Nat.le_of_ble_eq_true rfl) (fun r11 s12 => ?_)
      show X E _ _ _ _ 0 0 _ _ _ [aI r11] _
      refine x_goto (pc := 64) 68 dX12_figure_64 (by decide) ?_
      exact x_iret (rm := r12_figure) rfl rfl dX12_figure_68
theorem c_12_figure (l : Launch)  (v1 : Int32) (σ : zSt) : zMet l yX12_figure cX12_figure 4 (some .int) r12_figure true eI [aR 12 (some 0), aI v1] σ (f12_figure v1 σ) :=
  zMet_of [(0, aR 12 (some 0)), (1, aI v1)] (by decide +kernel) (fun h => by cases h) (Nat.le_of_ble_eq_true rfl) rfl fun E _ => x12_figure E  v1 σ
abbrev r12_placeIn : Room := { frames := 0, cells := 0, slots := 0, locals := 0 }
abbrev m12_placeIn : zMu := (RX12, 6, (some .int), r12_placeIn, false)
set_option maxRecDepth 20000 in
theorem x12_placeIn (E : zEn)  (q : Bool) (v0 : Int32) (v1 : Int32) (v2 : Int32) (v3 : Int32) (v4 : Int32) (v5 : Int32) (σ : zSt) : X E cX12_placeIn m12_placeIn q (zQr E q eI r12_placeIn σ) 0 0 σ [(0, aI v0), (1, aI v1), (2, aI v2), (3, aI v3), (4, aI v4), (5, aI v5)] 0 [] (f12_placeIn v0 v1 v2 v3 v4 v5 σ) := by
  unfold f12_placeIn
  refine x_iload_n (pc := 0) 0 dX12_placeIn_0 rfl rfl ?_
  refine x_iload_n (pc := 1) 1 dX12_placeIn_1 rfl rfl ?_
  refine x_icmp_ne (pc := 2) 9 dX12_placeIn_2 (by decide) (fun _ => ?_) (fun _ => ?_)
  ·
    refine x_iload_n (pc := 9) 0 dX12_placeIn_9 rfl rfl ?_
    refine x_iload_n (pc := 10) 2 dX12_placeIn_10 rfl rfl ?_
    refine x_icmp_ne (pc := 11) 18 dX12_placeIn_11 (by decide) (fun _ => ?_) (fun _ => ?_)
    ·
      refine x_iload_n (pc := 18) 0 dX12_placeIn_18 rfl rfl ?_
      refine x_iload_n (pc := 19) 3 dX12_placeIn_19 rfl rfl ?_
      refine x_icmp_ne (pc := 20) 27 dX12_placeIn_20 (by decide) (fun _ => ?_) (fun _ => ?_)
      ·
        refine x_iload_n (pc := 27) 0 dX12_placeIn_27 rfl rfl ?_
        refine x_iload (pc := 28) 4 dX12_placeIn_28 rfl ?_
        refine x_icmp_ne (pc := 30) 37 dX12_placeIn_30 (by decide) (fun _ => ?_) (fun _ => ?_)
        ·
          refine x_iload_n (pc := 37) 0 dX12_placeIn_37 rfl rfl ?_
          refine x_iload (pc := 38) 5 dX12_placeIn_38 rfl ?_
          refine x_icmp_ne (pc := 40) 47 dX12_placeIn_40 (by decide) (fun _ => ?_) (fun _ => ?_)
          ·
            refine x_iconst (pc := 47) (-1) dX12_placeIn_47 rfl ?_
            exact x_iret (rm := r12_placeIn) rfl rfl dX12_placeIn_48
          ·
            refine x_iconst (pc := 43) 4 dX12_placeIn_43 rfl ?_
            refine x_goto (pc := 44) 48 dX12_placeIn_44 (by decide) ?_
            exact x_iret (rm := r12_placeIn) rfl rfl dX12_placeIn_48
        ·
          refine x_iconst (pc := 33) 3 dX12_placeIn_33 rfl ?_
          refine x_goto (pc := 34) 48 dX12_placeIn_34 (by decide) ?_
          exact x_iret (rm := r12_placeIn) rfl rfl dX12_placeIn_48
      ·
        refine x_iconst (pc := 23) 2 dX12_placeIn_23 rfl ?_
        refine x_goto (pc := 24) 48 dX12_placeIn_24 (by decide) ?_
        exact x_iret (rm := r12_placeIn) rfl rfl dX12_placeIn_48
    ·
      refine x_iconst (pc := 14) 1 dX12_placeIn_14 rfl ?_
      refine x_goto (pc := 15) 48 dX12_placeIn_15 (by decide) ?_
      exact x_iret (rm := r12_placeIn) rfl rfl dX12_placeIn_48
  ·
    refine x_iconst (pc := 5) 0 dX12_placeIn_5 rfl ?_
    refine x_goto (pc := 6) 48 dX12_placeIn_6 (by decide) ?_
    exact x_iret (rm := r12_placeIn) rfl rfl dX12_placeIn_48
theorem c_12_placeIn (l : Launch)  (q : Bool) (v0 : Int32) (v1 : Int32) (v2 : Int32) (v3 : Int32) (v4 : Int32) (v5 : Int32) (σ : zSt) : zMet l yX12_placeIn cX12_placeIn 6 (some .int) r12_placeIn q eI [aI v0, aI v1, aI v2, aI v3, aI v4, aI v5] σ (zro (f12_placeIn v0 v1 v2 v3 v4 v5 σ) σ) :=
  zMet_ofR [(0, aI v0), (1, aI v1), (2, aI v2), (3, aI v3), (4, aI v4), (5, aI v5)] (by decide +kernel) (fun h => by cases h) (Nat.le_of_ble_eq_true rfl) rfl fun E _ => x12_placeIn E  q v0 v1 v2 v3 v4 v5 σ
abbrev r12_test : Room := { frames := 2, cells := 0, slots := 0, locals := 43 }
abbrev m12_test : zMu := (RX12, 7, (some .boolean), r12_test, false)
set_option maxRecDepth 20000 in
theorem x12_test (E : zEn)   (σ : zSt) : X E cX12_test m12_test true (zQw E true eI r12_test) 0 0 σ [(0, aR 12 (some 0))] 0 [] (f12_test σ) := by
  unfold f12_test
  refine x_aload_n (pc := 0) 0 dX12_test_0 rfl rfl ?_
  refine x_callVr (pc := 1) (as := []) (rest := []) (fun l => c_12_byteAt l σ) md_X12_byteAt ⟨_, _, rfl, by decide⟩ tk_1742 tp_90 tk_1740 dX12_test_1 rfl ⟨by decide, by decide, by decide, by decide⟩ ⟨fun _ => rfl, fun _ => Or.inl rfl⟩ rfl (Nat.le_of_ble_eq_true rfl) (fun r1 => ?_)
  show X E _ _ _ _ 0 0 _ _ _ [aI r1] _
  refine x_istore_n (pc := 4) (als' := [(1, aI r1), (0, aR 12 (some 0))]) 1 dX12_test_4 rfl (by decide) rfl ?_
  refine x_iload_n (pc := 5) 1 dX12_test_5 rfl rfl ?_
  refine x_bipush (pc := 6) 121 dX12_test_6 rfl ?_
  refine x_bipush (pc := 8) 107 dX12_test_8 rfl ?_
  refine x_bipush (pc := 10) 116 dX12_test_10 rfl ?_
  refine x_bipush (pc := 12) 115 dX12_test_12 rfl ?_
  refine x_bipush (pc := 14) 110 dX12_test_14 rfl ?_
  refine x_callSr (pc := 16) (as := [aI r1, aI 121, aI 107, aI 116, aI 115, aI 110]) (rest := []) (fun l => c_12_placeIn l true r1 121 107 116 115 110 σ) md_X12_placeIn tk_1749 tk_1748 dX12_test_16 rfl ⟨by decide, by decide, by decide, by decide⟩ ⟨fun _ => rfl, fun _ => Or.inl rfl⟩ rfl (Nat.le_of_ble_eq_true rfl) (fun r2 => ?_)
  show X E _ _ _ _ 0 0 _ _ _ [aI r2] _
  refine x_istore_n (pc := 19) (als' := [(2, aI r2), (1, aI r1), (0, aR 12 (some 0))]) 2 dX12_test_19 rfl (by decide) rfl ?_
  refine x_iload_n (pc := 20) 1 dX12_test_20 rfl rfl ?_
  refine x_bipush (pc := 21) 111 dX12_test_21 rfl ?_
  refine x_bipush (pc := 23) 103 dX12_test_23 rfl ?_
  refine x_bipush (pc := 25) 100 dX12_test_25 rfl ?_
  refine x_bipush (pc := 27) 102 dX12_test_27 rfl ?_
  refine x_bipush (pc := 29) (-9) dX12_test_29 rfl ?_
  refine x_callSr (pc := 31) (as := [aI r1, aI 111, aI 103, aI 100, aI 102, aI (-9)]) (rest := []) (fun l => c_12_placeIn l true r1 111 103 100 102 (-9) σ) md_X12_placeIn tk_1749 tk_1748 dX12_test_31 rfl ⟨by decide, by decide, by decide, by decide⟩ ⟨fun _ => rfl, fun _ => Or.inl rfl⟩ rfl (Nat.le_of_ble_eq_true rfl) (fun r3 => ?_)
  show X E _ _ _ _ 0 0 _ _ _ [aI r3] _
  refine x_istore_n (pc := 34) (als' := [(3, aI r3), (2, aI r2), (1, aI r1), (0, aR 12 (some 0))]) 3 dX12_test_34 rfl (by decide) rfl ?_
  refine x_iload_n (pc := 35) 2 dX12_test_35 rfl rfl ?_
  refine x_join (P := fun (j4 : Option (Int32 × zSt)) => X E cX12_test m12_test true (zQw E true eI r12_test) 0 0 σ [(0, aR 12 (some 0)), (2, aI r2), (3, aI r3)] 56 [] j4) ?_ ?_
  ·
    refine x_aload_n (pc := 56) 0 dX12_test_56 rfl rfl ?_
    refine x_dup (pc := 57) dX12_test_57 rfl ?_
    refine x_getI (pc := 58) fd_12_67 tk_1262 dX12_test_58 ?_
    refine x_iconst (pc := 61) 1 dX12_test_61 rfl ?_
    refine x_iadd (pc := 62) dX12_test_62 ?_
    refine x_putI (pc := 63) fd_12_67 pt_12_67 tk_1262 dX12_test_63 (Or.inl rfl) ?_
    refine x_nameS (fun s6 => ?_)
    refine x_iload_n (pc := 66) 2 dX12_test_66 rfl rfl ?_
    refine x_join (P := fun (j8 : Int32 → Option (Int32 × zSt)) => ∀ (a7 : Int32), X E cX12_test m12_test true (zQw E true eI r12_test) 0 0 s6 [(0, aR 12 (some 0))] 87 [aI a7] (j8 a7)) ?_ ?_
    · intro a7
      refine x_istore (pc := 87) (als' := [(4, aI a7), (0, aR 12 (some 0))]) 4 dX12_test_87 (by decide) rfl ?_
      refine x_aload_n (pc := 89) 0 dX12_test_89 rfl rfl ?_
      refine x_callVr (pc := 90) (as := []) (rest := []) (fun l => c_12_byteAt l s6) md_X12_byteAt ⟨_, _, rfl, by decide⟩ tk_1742 tp_90 tk_1740 dX12_test_90 rfl ⟨by decide, by decide, by decide, by decide⟩ ⟨fun _ => rfl, fun _ => Or.inl rfl⟩ rfl (Nat.le_of_ble_eq_true rfl) (fun r10 => ?_)
      show X E _ _ _ _ 0 0 _ _ _ [aI r10] _
      refine x_bipush (pc := 93) 60 dX12_test_93 rfl ?_
      refine x_bipush (pc := 95) 61 dX12_test_95 rfl ?_
      refine x_bipush (pc := 97) 33 dX12_test_97 rfl ?_
      refine x_bipush (pc := 99) 43 dX12_test_99 rfl ?_
      refine x_bipush (pc := 101) (-9) dX12_test_101 rfl ?_
      refine x_callSr (pc := 103) (as := [aI r10, aI 60, aI 61, aI 33, aI 43, aI (-9)]) (rest := []) (fun l => c_12_placeIn l true r10 60 61 33 43 (-9) s6) md_X12_placeIn tk_1749 tk_1748 dX12_test_103 rfl ⟨by decide, by decide, by decide, by decide⟩ ⟨fun _ => rfl, fun _ => Or.inl rfl⟩ rfl (Nat.le_of_ble_eq_true rfl) (fun r11 => ?_)
      show X E _ _ _ _ 0 0 _ _ _ [aI r11] _
      refine x_istore (pc := 106) (als' := [(5, aI r11), (4, aI a7), (0, aR 12 (some 0))]) 5 dX12_test_106 (by decide) rfl ?_
      refine x_iload (pc := 108) 5 dX12_test_108 rfl ?_
      refine x_if_ge (pc := 110) 126 dX12_test_110 (by decide) (fun _ => ?_) (fun _ => ?_)
      ·
        refine x_aload_n (pc := 126) 0 dX12_test_126 rfl rfl ?_
        refine x_dup (pc := 127) dX12_test_127 rfl ?_
        refine x_getI (pc := 128) fd_12_67 tk_1262 dX12_test_128 ?_
        refine x_iconst (pc := 131) 1 dX12_test_131 rfl ?_
        refine x_iadd (pc := 132) dX12_test_132 ?_
        refine x_putI (pc := 133) fd_12_67 pt_12_67 tk_1262 dX12_test_133 (Or.inl rfl) ?_
        refine x_nameS (fun s12 => ?_)
        refine x_aload_n (pc := 136) 0 dX12_test_136 rfl rfl ?_
        refine x_iconst (pc := 137) 4 dX12_test_137 rfl ?_
        refine x_callV (pc := 138) (as := [aI 4]) (rest := []) (fun l => c_12_figure l 4 s12) md_X12_figure ⟨_, _, rfl, by decide⟩ tk_1757 tp_93 tk_1755 dX12_test_138 rfl ⟨by decide, by decide, by decide, by decide⟩ ⟨fun _ => rfl, fun _ => Or.inl rfl⟩ rfl (Nat.le_of_ble_eq_true rfl) (fun r13 s14 => ?_)
        show X E _ _ _ _ 0 0 _ _ _ [aI r13] _
        refine x_istore (pc := 141) (als' := [(6, aI r13), (5, aI r11), (4, aI a7), (0, aR 12 (some 0))]) 6 dX12_test_141 (by decide) rfl ?_
        refine x_iload (pc := 143) 5 dX12_test_143 rfl ?_
        refine x_if_ne (pc := 145) 163 dX12_test_145 (by decide) (fun _ => ?_) (fun _ => ?_)
        ·
          refine x_iload (pc := 163) 5 dX12_test_163 rfl ?_
          refine x_iconst (pc := 165) 1 dX12_test_165 rfl ?_
          refine x_icmp_ne (pc := 166) 184 dX12_test_166 (by decide) (fun _ => ?_) (fun _ => ?_)
          ·
            refine x_iload (pc := 184) 5 dX12_test_184 rfl ?_
            refine x_iconst (pc := 186) 2 dX12_test_186 rfl ?_
            refine x_icmp_ne (pc := 187) 205 dX12_test_187 (by decide) (fun _ => ?_) (fun _ => ?_)
            ·
              refine x_iload (pc := 205) 4 dX12_test_205 rfl ?_
              refine x_iload (pc := 207) 6 dX12_test_207 rfl ?_
              refine x_icmp_lt (pc := 209) 216 dX12_test_209 (by decide) (fun _ => ?_) (fun _ => ?_)
              ·
                refine x_iconst (pc := 216) 0 dX12_test_216 rfl ?_
                exact x_zretC (rm := r12_test) rfl rfl (by decide) dX12_test_217
              ·
                refine x_iconst (pc := 212) 1 dX12_test_212 rfl ?_
                refine x_goto (pc := 213) 217 dX12_test_213 (by decide) ?_
                exact x_zretC (rm := r12_test) rfl rfl (by decide) dX12_test_217
            ·
              refine x_iload (pc := 190) 4 dX12_test_190 rfl ?_
              refine x_iload (pc := 192) 6 dX12_test_192 rfl ?_
              refine x_icmp_eq (pc := 194) 201 dX12_test_194 (by decide) (fun _ => ?_) (fun _ => ?_)
              ·
                refine x_iconst (pc := 201) 0 dX12_test_201 rfl ?_
                refine x_goto (pc := 202) 217 dX12_test_202 (by decide) ?_
                exact x_zretC (rm := r12_test) rfl rfl (by decide) dX12_test_217
              ·
                refine x_iconst (pc := 197) 1 dX12_test_197 rfl ?_
                refine x_goto (pc := 198) 217 dX12_test_198 (by decide) ?_
                exact x_zretC (rm := r12_test) rfl rfl (by decide) dX12_test_217
          ·
            refine x_iload (pc := 169) 4 dX12_test_169 rfl ?_
            refine x_iload (pc := 171) 6 dX12_test_171 rfl ?_
            refine x_icmp_ne (pc := 173) 180 dX12_test_173 (by decide) (fun _ => ?_) (fun _ => ?_)
            ·
              refine x_iconst (pc := 180) 0 dX12_test_180 rfl ?_
              refine x_goto (pc := 181) 217 dX12_test_181 (by decide) ?_
              exact x_zretC (rm := r12_test) rfl rfl (by decide) dX12_test_217
            ·
              refine x_iconst (pc := 176) 1 dX12_test_176 rfl ?_
              refine x_goto (pc := 177) 217 dX12_test_177 (by decide) ?_
              exact x_zretC (rm := r12_test) rfl rfl (by decide) dX12_test_217
        ·
          refine x_iload (pc := 148) 4 dX12_test_148 rfl ?_
          refine x_iload (pc := 150) 6 dX12_test_150 rfl ?_
          refine x_icmp_ge (pc := 152) 159 dX12_test_152 (by decide) (fun _ => ?_) (fun _ => ?_)
          ·
            refine x_iconst (pc := 159) 0 dX12_test_159 rfl ?_
            refine x_goto (pc := 160) 217 dX12_test_160 (by decide) ?_
            exact x_zretC (rm := r12_test) rfl rfl (by decide) dX12_test_217
          ·
            refine x_iconst (pc := 155) 1 dX12_test_155 rfl ?_
            refine x_goto (pc := 156) 217 dX12_test_156 (by decide) ?_
            exact x_zretC (rm := r12_test) rfl rfl (by decide) dX12_test_217
      ·
        refine x_aload_n (pc := 113) 0 dX12_test_113 rfl rfl ?_
        refine x_callV (pc := 114) (as := []) (rest := []) (fun l => c_12_wrong l true s6) md_X12_wrong ⟨_, _, rfl, by decide⟩ tk_1753 tp_92 tk_1751 dX12_test_114 rfl ⟨by decide, by decide, by decide, by decide⟩ ⟨fun _ => rfl, fun _ => Or.inl rfl⟩ rfl (Nat.le_of_ble_eq_true rfl) (fun r15 s16 => ?_)
        show X E _ _ _ _ 0 0 _ _ _ [aI r15] _
        refine x_if_le (pc := 117) 124 dX12_test_117 (by decide) (fun _ => ?_) (fun _ => ?_)
        ·
          refine x_iconst (pc := 124) 0 dX12_test_124 rfl ?_
          exact x_zretC (rm := r12_test) rfl rfl (by decide) dX12_test_125
        ·
          refine x_iconst (pc := 120) 1 dX12_test_120 rfl ?_
          refine x_goto (pc := 121) 125 dX12_test_121 (by decide) ?_
          exact x_zretC (rm := r12_test) rfl rfl (by decide) dX12_test_125
    · intro j8 hj9
      refine x_if_lt (pc := 67) 79 dX12_test_67 (by decide) (fun _ => ?_) (fun _ => ?_)
      ·
        refine x_aload_n (pc := 79) 0 dX12_test_79 rfl rfl ?_
        refine x_getF (pc := 80) (j := 0) fd_12_71 rfl rfl tk_1266 dX12_test_80 ?_
        refine x_iconst (pc := 83) 5 dX12_test_83 rfl ?_
        refine x_iload_n (pc := 84) 3 dX12_test_84 rfl rfl ?_
        refine x_iadd (pc := 85) dX12_test_85 ?_
        refine x_iald (pc := 86) ar_1371 dX12_test_86 (fun m17 => ?_)
        exact x_sub [0] rfl (hj9 (gI s6 1371 0 m17))
      ·
        refine x_aload_n (pc := 70) 0 dX12_test_70 rfl rfl ?_
        refine x_getF (pc := 71) (j := 0) fd_12_71 rfl rfl tk_1266 dX12_test_71 ?_
        refine x_iload_n (pc := 74) 2 dX12_test_74 rfl rfl ?_
        refine x_iald (pc := 75) ar_1371 dX12_test_75 (fun m18 => ?_)
        refine x_goto (pc := 76) 87 dX12_test_76 (by decide) ?_
        exact x_sub [0] rfl (hj9 (gI s6 1371 0 m18))
  · intro j4 hj5
    refine x_if_ge (pc := 36) 56 dX12_test_36 (by decide) (fun _ => ?_) (fun _ => ?_)
    ·
      exact x_sub [3, 1, 0] rfl (hj5)
    ·
      refine x_iload_n (pc := 39) 3 dX12_test_39 rfl rfl ?_
      refine x_if_ge (pc := 40) 56 dX12_test_40 (by decide) (fun _ => ?_) (fun _ => ?_)
      ·
        exact x_sub [3, 1, 0] rfl (hj5)
      ·
        refine x_aload_n (pc := 43) 0 dX12_test_43 rfl rfl ?_
        refine x_callV (pc := 44) (as := []) (rest := []) (fun l => c_12_wrong l true σ) md_X12_wrong ⟨_, _, rfl, by decide⟩ tk_1753 tp_92 tk_1751 dX12_test_44 rfl ⟨by decide, by decide, by decide, by decide⟩ ⟨fun _ => rfl, fun _ => Or.inl rfl⟩ rfl (Nat.le_of_ble_eq_true rfl) (fun r19 s20 => ?_)
        show X E _ _ _ _ 0 0 _ _ _ [aI r19] _
        refine x_if_le (pc := 47) 54 dX12_test_47 (by decide) (fun _ => ?_) (fun _ => ?_)
        ·
          refine x_iconst (pc := 54) 0 dX12_test_54 rfl ?_
          exact x_zretC (rm := r12_test) rfl rfl (by decide) dX12_test_55
        ·
          refine x_iconst (pc := 50) 1 dX12_test_50 rfl ?_
          refine x_goto (pc := 51) 55 dX12_test_51 (by decide) ?_
          exact x_zretC (rm := r12_test) rfl rfl (by decide) dX12_test_55
theorem c_12_test (l : Launch)   (σ : zSt) : zMet l yX12_test cX12_test 7 (some .boolean) r12_test true eI [aR 12 (some 0)] σ (f12_test σ) :=
  zMet_of [(0, aR 12 (some 0))] (by decide +kernel) (fun h => by cases h) (Nat.le_of_ble_eq_true rfl) rfl fun E _ => x12_test E   σ
abbrev r12_line : Room := { frames := 3, cells := 0, slots := 0, locals := 69 }
abbrev m12_line : zMu := (RX12, 4, (some .boolean), r12_line, false)
set_option maxRecDepth 20000 in
theorem xl12_line_13 (E : zEn)    {K79 : Int32 → zSt → Option (Int32 × zSt)} (hK79 : ∀ (v1 : Int32) (σ : zSt), X E cX12_line m12_line true (zQw E true eI r12_line) 0 0 σ [(0, aR 12 (some 0)), (1, aI v1)] 79 [] (K79 v1 σ)) : ∀ (n : Nat) (v1 : Int32) (v2 : Int32) (σ : zSt), X E cX12_line m12_line true (zQw E true eI r12_line) 0 0 σ [(0, aR 12 (some 0)), (1, aI v1), (2, aI v2)] 13 [] (f12_line_L13 K79 n v1 v2 σ) := by
  intro n
  induction n with
  | zero => intros; exact x_none
  | succ n ih =>
    intro v1 v2 σ
    rw [f12_line_L13]
    refine x_iload_n (pc := 13) 2 dX12_line_13 rfl rfl ?_
    refine x_if_eq (pc := 14) 79 dX12_line_14 (by decide) (fun _ => ?_) (fun _ => ?_)
    ·
      exact x_sub [0, 1] rfl (hK79 v1 σ)
    ·
      refine x_aload_n (pc := 17) 0 dX12_line_17 rfl rfl ?_
      refine x_callV (pc := 18) (as := []) (rest := []) (fun l => c_12_test l σ) md_X12_test ⟨_, _, rfl, by decide⟩ tk_1746 tp_91 tk_1744 dX12_line_18 rfl ⟨by decide, by decide, by decide, by decide⟩ ⟨fun _ => rfl, fun _ => Or.inl rfl⟩ rfl (Nat.le_of_ble_eq_true rfl) (fun r48 s49 => ?_)
      show X E _ _ _ _ 0 0 _ _ _ [aI r48] _
      refine x_istore_n (pc := 21) (als' := [(3, aI r48), (0, aR 12 (some 0)), (1, aI v1), (2, aI v2)]) 3 dX12_line_21 rfl (by decide) rfl ?_
      refine x_iload_n (pc := 22) 1 dX12_line_22 rfl rfl ?_
      refine x_mg (c := v1 = 0) (a := 0) (b := (if r48 = 0 then 0 else 1)) 35 [] ?_ (fun hm50 => ?_)
      ·
        refine x_nameI (fun x57 => ?_)
        refine x_istore_n (pc := 35) (als' := [(1, aI x57), (3, aI r48), (0, aR 12 (some 0)), (2, aI v2)]) 1 dX12_line_35 rfl (by decide) rfl ?_
        refine x_aload_n (pc := 36) 0 dX12_line_36 rfl rfl ?_
        refine x_getI (pc := 37) fd_12_69 tk_1264 dX12_line_37 ?_
        refine x_join (P := fun (j59 : Int32 → Option (Int32 × zSt)) => ∀ (a58 : Int32), X E cX12_line m12_line true (zQw E true eI r12_line) 0 0 s49 [(0, aR 12 (some 0)), (1, aI x57)] 57 [aI a58] (j59 a58)) ?_ ?_
        · intro a58
          refine x_istore_n (pc := 57) (als' := [(2, aI a58), (0, aR 12 (some 0)), (1, aI x57)]) 2 dX12_line_57 rfl (by decide) rfl ?_
          refine x_aload_n (pc := 58) 0 dX12_line_58 rfl rfl ?_
          refine x_dup (pc := 59) dX12_line_59 rfl ?_
          refine x_getI (pc := 60) fd_12_67 tk_1262 dX12_line_60 ?_
          refine x_iload_n (pc := 63) 2 dX12_line_63 rfl rfl ?_
          refine x_mg (c := a58 = 0) (a := 0) (b := 1) 72 [aI (gI s49 12 0 67), aR 12 (some 0)] ?_ (fun hm61 => ?_)
          ·
            refine x_iadd (pc := 72) dX12_line_72 ?_
            refine x_putI (pc := 73) fd_12_67 pt_12_67 tk_1262 dX12_line_73 (Or.inl rfl) ?_
            refine x_nameS (fun s65 => ?_)
            refine x_goto (pc := 76) 13 dX12_line_76 (by decide) ?_
            exact x_sub [1, 2, 0] rfl (ih x57 a58 s65)
          ·
            refine x_same (c := a58 = 0) ?_
            refine x_if_eq (pc := 64) 71 dX12_line_64 (by decide) (fun hc62 => ?_) (fun hc62 => ?_)
            ·
              have hm63 := x_topT hc62 hm61
              refine x_iconst (pc := 71) 0 dX12_line_71 rfl ?_
              exact hm63
            ·
              have hm64 := x_topF hc62 hm61
              refine x_iconst (pc := 67) 1 dX12_line_67 rfl ?_
              refine x_goto (pc := 68) 72 dX12_line_68 (by decide) ?_
              exact hm64
        · intro j59 hj60
          refine x_join (P := fun (j66 : Option (Int32 × zSt)) => X E cX12_line m12_line true (zQw E true eI r12_line) 0 0 s49 [(0, aR 12 (some 0)), (1, aI x57)] 56 [] j66) ?_ ?_
          ·
            refine x_iconst (pc := 56) 0 dX12_line_56 rfl ?_
            exact hj60 0
          · intro j66 hj67
            refine x_if_ge (pc := 40) 56 dX12_line_40 (by decide) (fun _ => ?_) (fun _ => ?_)
            ·
              exact x_sub [2, 0] rfl (hj67)
            ·
              refine x_aload_n (pc := 43) 0 dX12_line_43 rfl rfl ?_
              refine x_callVr (pc := 44) (as := []) (rest := []) (fun l => c_12_byteAt l s49) md_X12_byteAt ⟨_, _, rfl, by decide⟩ tk_1742 tp_90 tk_1740 dX12_line_44 rfl ⟨by decide, by decide, by decide, by decide⟩ ⟨fun _ => rfl, fun _ => Or.inl rfl⟩ rfl (Nat.le_of_ble_eq_true rfl) (fun r68 => ?_)
              show X E _ _ _ _ 0 0 _ _ _ [aI r68] _
              refine x_bipush (pc := 47) 38 dX12_line_47 rfl ?_
              refine x_icmp_ne (pc := 49) 56 dX12_line_49 (by decide) (fun _ => ?_) (fun _ => ?_)
              ·
                exact x_sub [2, 0] rfl (hj67)
              ·
                refine x_iconst (pc := 52) 1 dX12_line_52 rfl ?_
                refine x_goto (pc := 53) 57 dX12_line_53 (by decide) ?_
                exact x_sub [2, 0] rfl (hj60 1)
      ·
        refine x_same (c := v1 = 0) ?_
        refine x_if_eq (pc := 23) 34 dX12_line_23 (by decide) (fun hc51 => ?_) (fun hc51 => ?_)
        ·
          have hm52 := x_topT hc51 hm50
          refine x_iconst (pc := 34) 0 dX12_line_34 rfl ?_
          exact hm52
        ·
          have hm53 := x_topF hc51 hm50
          refine x_iload_n (pc := 26) 3 dX12_line_26 rfl rfl ?_
          refine x_same (c := r48 = 0) ?_
          refine x_if_eq (pc := 27) 34 dX12_line_27 (by decide) (fun hc54 => ?_) (fun hc54 => ?_)
          ·
            have hm55 := x_topT hc54 hm53
            refine x_iconst (pc := 34) 0 dX12_line_34 rfl ?_
            exact hm55
          ·
            have hm56 := x_topF hc54 hm53
            refine x_iconst (pc := 30) 1 dX12_line_30 rfl ?_
            refine x_goto (pc := 31) 35 dX12_line_31 (by decide) ?_
            exact hm56
set_option maxRecDepth 20000 in
theorem x12_line (E : zEn)   (σ : zSt) : X E cX12_line m12_line true (zQw E true eI r12_line) 0 0 σ [(0, aR 12 (some 0))] 0 [] (f12_line σ) := by
  unfold f12_line
  refine x_iconst (pc := 0) 1 dX12_line_0 rfl ?_
  refine x_istore_n (pc := 1) (als' := [(1, aI 1), (0, aR 12 (some 0))]) 1 dX12_line_1 rfl (by decide) rfl ?_
  refine x_aload_n (pc := 2) 0 dX12_line_2 rfl rfl ?_
  refine x_callVr (pc := 3) (as := []) (rest := []) (fun l => c_12_byteAt l σ) md_X12_byteAt ⟨_, _, rfl, by decide⟩ tk_1742 tp_90 tk_1740 dX12_line_3 rfl ⟨by decide, by decide, by decide, by decide⟩ ⟨fun _ => rfl, fun _ => Or.inl rfl⟩ rfl (Nat.le_of_ble_eq_true rfl) (fun r1 => ?_)
  show X E _ _ _ _ 0 0 _ _ _ [aI r1] _
  refine x_bipush (pc := 6) 62 dX12_line_6 rfl ?_
  refine x_join (P := fun (j4 : Int32 → zSt → Option (Int32 × zSt)) => ∀ (a2 : Int32) (s3 : zSt), X E cX12_line m12_line true (zQw E true eI r12_line) 0 0 s3 [(0, aR 12 (some 0)), (1, aI a2)] 79 [] (j4 a2 s3)) ?_ ?_
  · intro a2 s3
    refine x_aload_n (pc := 79) 0 dX12_line_79 rfl rfl ?_
    refine x_getI (pc := 80) fd_12_69 tk_1264 dX12_line_80 ?_
    refine x_join (P := fun (j6 : Option (Int32 × zSt)) => X E cX12_line m12_line true (zQw E true eI r12_line) 0 0 s3 [(0, aR 12 (some 0)), (1, aI a2)] 108 [] j6) ?_ ?_
    ·
      refine x_aload_n (pc := 108) 0 dX12_line_108 rfl rfl ?_
      refine x_dup (pc := 109) dX12_line_109 rfl ?_
      refine x_getI (pc := 110) fd_12_67 tk_1262 dX12_line_110 ?_
      refine x_aload_n (pc := 113) 0 dX12_line_113 rfl rfl ?_
      refine x_getI (pc := 114) fd_12_69 tk_1264 dX12_line_114 ?_
      refine x_mg (c := 0 ≤ (gI s3 12 0 69)) (a := 0) (b := 1) 125 [aI (gI s3 12 0 67), aR 12 (some 0)] ?_ (fun hm8 => ?_)
      ·
        refine x_iadd (pc := 125) dX12_line_125 ?_
        refine x_putI (pc := 126) fd_12_67 pt_12_67 tk_1262 dX12_line_126 (Or.inl rfl) ?_
        refine x_nameS (fun s12 => ?_)
        refine x_aload_n (pc := 129) 0 dX12_line_129 rfl rfl ?_
        refine x_aload_n (pc := 130) 0 dX12_line_130 rfl rfl ?_
        refine x_callVr (pc := 131) (as := []) (rest := [aR 12 (some 0)]) (fun l => c_12_byteAt l s12) md_X12_byteAt ⟨_, _, rfl, by decide⟩ tk_1742 tp_90 tk_1740 dX12_line_131 rfl ⟨by decide, by decide, by decide, by decide⟩ ⟨fun _ => rfl, fun _ => Or.inl rfl⟩ rfl (Nat.le_of_ble_eq_true rfl) (fun r13 => ?_)
        show X E _ _ _ _ 0 0 _ _ _ [aI r13, aR 12 (some 0)] _
        refine x_bipush (pc := 134) 98 dX12_line_134 rfl ?_
        refine x_bipush (pc := 136) 119 dX12_line_136 rfl ?_
        refine x_bipush (pc := 138) 104 dX12_line_138 rfl ?_
        refine x_bipush (pc := 140) 99 dX12_line_140 rfl ?_
        refine x_bipush (pc := 142) 118 dX12_line_142 rfl ?_
        refine x_callSr (pc := 144) (as := [aI r13, aI 98, aI 119, aI 104, aI 99, aI 118]) (rest := [aR 12 (some 0)]) (fun l => c_12_placeIn l true r13 98 119 104 99 118 s12) md_X12_placeIn tk_1749 tk_1748 dX12_line_144 rfl ⟨by decide, by decide, by decide, by decide⟩ ⟨fun _ => rfl, fun _ => Or.inl rfl⟩ rfl (Nat.le_of_ble_eq_true rfl) (fun r14 => ?_)
        show X E _ _ _ _ 0 0 _ _ _ [aI r14, aR 12 (some 0)] _
        refine x_putI (pc := 147) fd_12_72 pt_12_72 tk_1267 dX12_line_147 (Or.inl rfl) ?_
        refine x_nameS (fun s15 => ?_)
        refine x_aload_n (pc := 150) 0 dX12_line_150 rfl rfl ?_
        refine x_getI (pc := 151) fd_12_69 tk_1264 dX12_line_151 ?_
        refine x_join (P := fun (j16 : Option (Int32 × zSt)) => X E cX12_line m12_line true (zQw E true eI r12_line) 0 0 s15 [(0, aR 12 (some 0))] 164 [] j16) ?_ ?_
        ·
          refine x_aload_n (pc := 164) 0 dX12_line_164 rfl rfl ?_
          refine x_callV (pc := 165) (as := []) (rest := []) (fun l => c_12_wrong l true s15) md_X12_wrong ⟨_, _, rfl, by decide⟩ tk_1753 tp_92 tk_1751 dX12_line_165 rfl ⟨by decide, by decide, by decide, by decide⟩ ⟨fun _ => rfl, fun _ => Or.inl rfl⟩ rfl (Nat.le_of_ble_eq_true rfl) (fun r18 s19 => ?_)
          show X E _ _ _ _ 0 0 _ _ _ [aI r18] _
          refine x_if_le (pc := 168) 175 dX12_line_168 (by decide) (fun _ => ?_) (fun _ => ?_)
          ·
            refine x_iconst (pc := 175) 0 dX12_line_175 rfl ?_
            exact x_zretC (rm := r12_line) rfl rfl (by decide) dX12_line_176
          ·
            refine x_iconst (pc := 171) 1 dX12_line_171 rfl ?_
            refine x_goto (pc := 172) 176 dX12_line_172 (by decide) ?_
            exact x_zretC (rm := r12_line) rfl rfl (by decide) dX12_line_176
        · intro j16 hj17
          refine x_if_ge (pc := 154) 164 dX12_line_154 (by decide) (fun _ => ?_) (fun _ => ?_)
          ·
            exact x_sub [0] rfl (hj17)
          ·
            refine x_aload_n (pc := 157) 0 dX12_line_157 rfl rfl ?_
            refine x_getI (pc := 158) fd_12_72 tk_1267 dX12_line_158 ?_
            refine x_if_ge (pc := 161) 177 dX12_line_161 (by decide) (fun _ => ?_) (fun _ => ?_)
            ·
              refine x_aload_n (pc := 177) 0 dX12_line_177 rfl rfl ?_
              refine x_dup (pc := 178) dX12_line_178 rfl ?_
              refine x_getI (pc := 179) fd_12_67 tk_1262 dX12_line_179 ?_
              refine x_iconst (pc := 182) 1 dX12_line_182 rfl ?_
              refine x_iadd (pc := 183) dX12_line_183 ?_
              refine x_putI (pc := 184) fd_12_67 pt_12_67 tk_1262 dX12_line_184 (Or.inl rfl) ?_
              refine x_nameS (fun s20 => ?_)
              refine x_aload_n (pc := 187) 0 dX12_line_187 rfl rfl ?_
              refine x_callVr (pc := 188) (as := []) (rest := []) (fun l => c_12_byteAt l s20) md_X12_byteAt ⟨_, _, rfl, by decide⟩ tk_1742 tp_90 tk_1740 dX12_line_188 rfl ⟨by decide, by decide, by decide, by decide⟩ ⟨fun _ => rfl, fun _ => Or.inl rfl⟩ rfl (Nat.le_of_ble_eq_true rfl) (fun r21 => ?_)
              show X E _ _ _ _ 0 0 _ _ _ [aI r21] _
              refine x_bipush (pc := 191) 48 dX12_line_191 rfl ?_
              refine x_join (P := fun (j23 : Int32 → Option (Int32 × zSt)) => ∀ (a22 : Int32), X E cX12_line m12_line true (zQw E true eI r12_line) 0 0 s20 [(0, aR 12 (some 0)), (1, aI a2)] 210 [aI a22] (j23 a22)) ?_ ?_
              · intro a22
                refine x_istore_n (pc := 210) (als' := [(2, aI a22), (0, aR 12 (some 0)), (1, aI a2)]) 2 dX12_line_210 rfl (by decide) rfl ?_
                refine x_aload_n (pc := 211) 0 dX12_line_211 rfl rfl ?_
                refine x_iload_n (pc := 212) 2 dX12_line_212 rfl rfl ?_
                refine x_join (P := fun (j27 : Int32 → zSt → Option (Int32 × zSt)) => ∀ (a25 : Int32) (s26 : zSt), X E cX12_line m12_line true (zQw E true eI r12_line) 0 0 s26 [(0, aR 12 (some 0)), (1, aI a2)] 225 [aI a25, aR 12 (some 0)] (j27 a25 s26)) ?_ ?_
                · intro a25 s26
                  refine x_putI (pc := 225) fd_12_73 pt_12_73 tk_1268 dX12_line_225 (Or.inl rfl) ?_
                  refine x_nameS (fun s29 => ?_)
                  refine x_aload_n (pc := 228) 0 dX12_line_228 rfl rfl ?_
                  refine x_getI (pc := 229) fd_12_69 tk_1264 dX12_line_229 ?_
                  refine x_join (P := fun (j30 : Option (Int32 × zSt)) => X E cX12_line m12_line true (zQw E true eI r12_line) 0 0 s29 [(0, aR 12 (some 0)), (1, aI a2)] 257 [] j30) ?_ ?_
                  ·
                    refine x_aload_n (pc := 257) 0 dX12_line_257 rfl rfl ?_
                    refine x_dup (pc := 258) dX12_line_258 rfl ?_
                    refine x_getI (pc := 259) fd_12_67 tk_1262 dX12_line_259 ?_
                    refine x_aload_n (pc := 262) 0 dX12_line_262 rfl rfl ?_
                    refine x_getI (pc := 263) fd_12_69 tk_1264 dX12_line_263 ?_
                    refine x_mg (c := 0 ≤ (gI s29 12 0 69)) (a := 0) (b := 1) 274 [aI (gI s29 12 0 67), aR 12 (some 0)] ?_ (fun hm32 => ?_)
                    ·
                      refine x_iadd (pc := 274) dX12_line_274 ?_
                      refine x_putI (pc := 275) fd_12_67 pt_12_67 tk_1262 dX12_line_275 (Or.inl rfl) ?_
                      refine x_nameS (fun s36 => ?_)
                      refine x_iload_n (pc := 278) 1 dX12_line_278 rfl rfl ?_
                      exact x_zret (rm := r12_line) rfl rfl dX12_line_279
                    ·
                      refine x_same (c := 0 ≤ (gI s29 12 0 69)) ?_
                      refine x_if_ge (pc := 266) 273 dX12_line_266 (by decide) (fun hc33 => ?_) (fun hc33 => ?_)
                      ·
                        have hm34 := x_topT hc33 hm32
                        refine x_iconst (pc := 273) 0 dX12_line_273 rfl ?_
                        exact hm34
                      ·
                        have hm35 := x_topF hc33 hm32
                        refine x_iconst (pc := 269) 1 dX12_line_269 rfl ?_
                        refine x_goto (pc := 270) 274 dX12_line_270 (by decide) ?_
                        exact hm35
                  · intro j30 hj31
                    refine x_if_ge (pc := 232) 257 dX12_line_232 (by decide) (fun _ => ?_) (fun _ => ?_)
                    ·
                      exact hj31
                    ·
                      refine x_aload_n (pc := 235) 0 dX12_line_235 rfl rfl ?_
                      refine x_callVr (pc := 236) (as := []) (rest := []) (fun l => c_12_byteAt l s29) md_X12_byteAt ⟨_, _, rfl, by decide⟩ tk_1742 tp_90 tk_1740 dX12_line_236 rfl ⟨by decide, by decide, by decide, by decide⟩ ⟨fun _ => rfl, fun _ => Or.inl rfl⟩ rfl (Nat.le_of_ble_eq_true rfl) (fun r37 => ?_)
                      show X E _ _ _ _ 0 0 _ _ _ [aI r37] _
                      refine x_bipush (pc := 239) 59 dX12_line_239 rfl ?_
                      refine x_icmp_eq (pc := 241) 257 dX12_line_241 (by decide) (fun _ => ?_) (fun _ => ?_)
                      ·
                        exact hj31
                      ·
                        refine x_aload_n (pc := 244) 0 dX12_line_244 rfl rfl ?_
                        refine x_callV (pc := 245) (as := []) (rest := []) (fun l => c_12_wrong l true s29) md_X12_wrong ⟨_, _, rfl, by decide⟩ tk_1753 tp_92 tk_1751 dX12_line_245 rfl ⟨by decide, by decide, by decide, by decide⟩ ⟨fun _ => rfl, fun _ => Or.inl rfl⟩ rfl (Nat.le_of_ble_eq_true rfl) (fun r38 s39 => ?_)
                        show X E _ _ _ _ 0 0 _ _ _ [aI r38] _
                        refine x_if_le (pc := 248) 255 dX12_line_248 (by decide) (fun _ => ?_) (fun _ => ?_)
                        ·
                          refine x_iconst (pc := 255) 0 dX12_line_255 rfl ?_
                          exact x_zretC (rm := r12_line) rfl rfl (by decide) dX12_line_256
                        ·
                          refine x_iconst (pc := 251) 1 dX12_line_251 rfl ?_
                          refine x_goto (pc := 252) 256 dX12_line_252 (by decide) ?_
                          exact x_zretC (rm := r12_line) rfl rfl (by decide) dX12_line_256
                · intro j27 hj28
                  refine x_if_eq (pc := 213) 224 dX12_line_213 (by decide) (fun _ => ?_) (fun _ => ?_)
                  ·
                    refine x_iconst (pc := 224) 0 dX12_line_224 rfl ?_
                    exact x_sub [1, 2] rfl (hj28 0 s20)
                  ·
                    refine x_aload_n (pc := 216) 0 dX12_line_216 rfl rfl ?_
                    refine x_iconst (pc := 217) 4 dX12_line_217 rfl ?_
                    refine x_callV (pc := 218) (as := [aI 4]) (rest := [aR 12 (some 0)]) (fun l => c_12_figure l 4 s20) md_X12_figure ⟨_, _, rfl, by decide⟩ tk_1757 tp_93 tk_1755 dX12_line_218 rfl ⟨by decide, by decide, by decide, by decide⟩ ⟨fun _ => rfl, fun _ => Or.inl rfl⟩ rfl (Nat.le_of_ble_eq_true rfl) (fun r40 s41 => ?_)
                    show X E _ _ _ _ 0 0 _ _ _ [aI r40, aR 12 (some 0)] _
                    refine x_goto (pc := 221) 225 dX12_line_221 (by decide) ?_
                    exact x_sub [1, 2] rfl (hj28 r40 s41)
              · intro j23 hj24
                refine x_join (P := fun (j42 : Option (Int32 × zSt)) => X E cX12_line m12_line true (zQw E true eI r12_line) 0 0 s20 [(0, aR 12 (some 0)), (1, aI a2)] 209 [] j42) ?_ ?_
                ·
                  refine x_iconst (pc := 209) 0 dX12_line_209 rfl ?_
                  exact hj24 0
                · intro j42 hj43
                  refine x_icmp_lt (pc := 193) 209 dX12_line_193 (by decide) (fun _ => ?_) (fun _ => ?_)
                  ·
                    exact hj43
                  ·
                    refine x_aload_n (pc := 196) 0 dX12_line_196 rfl rfl ?_
                    refine x_callVr (pc := 197) (as := []) (rest := []) (fun l => c_12_byteAt l s20) md_X12_byteAt ⟨_, _, rfl, by decide⟩ tk_1742 tp_90 tk_1740 dX12_line_197 rfl ⟨by decide, by decide, by decide, by decide⟩ ⟨fun _ => rfl, fun _ => Or.inl rfl⟩ rfl (Nat.le_of_ble_eq_true rfl) (fun r44 => ?_)
                    show X E _ _ _ _ 0 0 _ _ _ [aI r44] _
                    refine x_bipush (pc := 200) 57 dX12_line_200 rfl ?_
                    refine x_icmp_gt (pc := 202) 209 dX12_line_202 (by decide) (fun _ => ?_) (fun _ => ?_)
                    ·
                      exact hj43
                    ·
                      refine x_iconst (pc := 205) 1 dX12_line_205 rfl ?_
                      refine x_goto (pc := 206) 210 dX12_line_206 (by decide) ?_
                      exact hj24 1
            ·
              exact x_sub [0] rfl (hj17)
      ·
        refine x_same (c := 0 ≤ (gI s3 12 0 69)) ?_
        refine x_if_ge (pc := 117) 124 dX12_line_117 (by decide) (fun hc9 => ?_) (fun hc9 => ?_)
        ·
          have hm10 := x_topT hc9 hm8
          refine x_iconst (pc := 124) 0 dX12_line_124 rfl ?_
          exact hm10
        ·
          have hm11 := x_topF hc9 hm8
          refine x_iconst (pc := 120) 1 dX12_line_120 rfl ?_
          refine x_goto (pc := 121) 125 dX12_line_121 (by decide) ?_
          exact hm11
    · intro j6 hj7
      refine x_if_ge (pc := 83) 108 dX12_line_83 (by decide) (fun _ => ?_) (fun _ => ?_)
      ·
        exact hj7
      ·
        refine x_aload_n (pc := 86) 0 dX12_line_86 rfl rfl ?_
        refine x_callVr (pc := 87) (as := []) (rest := []) (fun l => c_12_byteAt l s3) md_X12_byteAt ⟨_, _, rfl, by decide⟩ tk_1742 tp_90 tk_1740 dX12_line_87 rfl ⟨by decide, by decide, by decide, by decide⟩ ⟨fun _ => rfl, fun _ => Or.inl rfl⟩ rfl (Nat.le_of_ble_eq_true rfl) (fun r45 => ?_)
        show X E _ _ _ _ 0 0 _ _ _ [aI r45] _
        refine x_bipush (pc := 90) 62 dX12_line_90 rfl ?_
        refine x_icmp_eq (pc := 92) 108 dX12_line_92 (by decide) (fun _ => ?_) (fun _ => ?_)
        ·
          exact hj7
        ·
          refine x_aload_n (pc := 95) 0 dX12_line_95 rfl rfl ?_
          refine x_callV (pc := 96) (as := []) (rest := []) (fun l => c_12_wrong l true s3) md_X12_wrong ⟨_, _, rfl, by decide⟩ tk_1753 tp_92 tk_1751 dX12_line_96 rfl ⟨by decide, by decide, by decide, by decide⟩ ⟨fun _ => rfl, fun _ => Or.inl rfl⟩ rfl (Nat.le_of_ble_eq_true rfl) (fun r46 s47 => ?_)
          show X E _ _ _ _ 0 0 _ _ _ [aI r46] _
          refine x_if_le (pc := 99) 106 dX12_line_99 (by decide) (fun _ => ?_) (fun _ => ?_)
          ·
            refine x_iconst (pc := 106) 0 dX12_line_106 rfl ?_
            exact x_zretC (rm := r12_line) rfl rfl (by decide) dX12_line_107
          ·
            refine x_iconst (pc := 102) 1 dX12_line_102 rfl ?_
            refine x_goto (pc := 103) 107 dX12_line_103 (by decide) ?_
            exact x_zretC (rm := r12_line) rfl rfl (by decide) dX12_line_107
  · intro j4 hj5
    refine x_icmp_eq (pc := 8) 79 dX12_line_8 (by decide) (fun _ => ?_) (fun _ => ?_)
    ·
      exact x_sub [1, 0] rfl (hj5 1 σ)
    ·
      refine x_iconst (pc := 11) 1 dX12_line_11 rfl ?_
      refine x_istore_n (pc := 12) (als' := [(2, aI 1), (1, aI 1), (0, aR 12 (some 0))]) 2 dX12_line_12 rfl (by decide) rfl ?_
      refine x_sub [2, 1, 0] rfl (xl12_line_13 E (fun a69 s70 => ?_) zfuel 1 1 σ)
      ·
        exact hj5 a69 s70
theorem c_12_line (l : Launch)   (σ : zSt) : zMet l yX12_line cX12_line 4 (some .boolean) r12_line true eI [aR 12 (some 0)] σ (f12_line σ) :=
  zMet_of [(0, aR 12 (some 0))] (by decide +kernel) (fun h => by cases h) (Nat.le_of_ble_eq_true rfl) rfl fun E _ => x12_line E   σ
abbrev r12_readWarranty : Room := { frames := 4, cells := 0, slots := 0, locals := 92 }
abbrev m12_readWarranty : zMu := (RX12, 6, none, r12_readWarranty, false)
set_option maxRecDepth 20000 in
theorem xl12_readWarranty_16 (E : zEn)      : ∀ (n : Nat) (v3 : Int32) (v4 : Int32) (σ : zSt), X E cX12_readWarranty m12_readWarranty true (zQw E true eV r12_readWarranty) 0 0 σ [(0, aR 12 (some 0)), (3, aI v3), (4, aI v4)] 16 [] (f12_readWarranty_L16 n v3 v4 σ) := by
  intro n
  induction n with
  | zero => intros; exact x_none
  | succ n ih =>
    intro v3 v4 σ
    rw [f12_readWarranty_L16]
    refine x_iload (pc := 16) 4 dX12_readWarranty_16 rfl ?_
    refine x_if_eq (pc := 18) 98 dX12_readWarranty_18 (by decide) (fun _ => ?_) (fun _ => ?_)
    ·
      exact x_vret (rm := r12_readWarranty) rfl rfl dX12_readWarranty_98
    ·
      refine x_aload_n (pc := 21) 0 dX12_readWarranty_21 rfl rfl ?_
      refine x_callV (pc := 22) (as := []) (rest := []) (fun l => c_12_line l σ) md_X12_line ⟨_, _, rfl, by decide⟩ tk_1738 tp_89 tk_1736 dX12_readWarranty_22 rfl ⟨by decide, by decide, by decide, by decide⟩ ⟨fun _ => rfl, fun _ => Or.inl rfl⟩ rfl (Nat.le_of_ble_eq_true rfl) (fun r4 s5 => ?_)
      show X E _ _ _ _ 0 0 _ _ _ [aI r4] _
      refine x_istore (pc := 25) (als' := [(5, aI r4), (0, aR 12 (some 0)), (3, aI v3), (4, aI v4)]) 5 dX12_readWarranty_25 (by decide) rfl ?_
      refine x_aload_n (pc := 27) 0 dX12_readWarranty_27 rfl rfl ?_
      refine x_getI (pc := 28) fd_12_69 tk_1264 dX12_readWarranty_28 ?_
      refine x_join (P := fun (j7 : zSt → Option (Unit × zSt)) => ∀ (s6 : zSt), X E cX12_readWarranty m12_readWarranty true (zQw E true eV r12_readWarranty) 0 0 s6 [(0, aR 12 (some 0)), (3, aI v3)] 67 [] (j7 s6)) ?_ ?_
      · intro s6
        refine x_iinc (pc := 67) (als' := [(3, aI (v3 + 1)), (0, aR 12 (some 0))]) 3 1 (c := 1) dX12_readWarranty_67 rfl rfl (by decide) rfl ?_
        refine x_nameV (g := fun y10 => [(3, aI y10), (0, aR 12 (some 0))]) (fun x9 => ?_) rfl
        refine x_aload_n (pc := 70) 0 dX12_readWarranty_70 rfl rfl ?_
        refine x_getI (pc := 71) fd_12_69 tk_1264 dX12_readWarranty_71 ?_
        refine x_mg (c := 0 ≤ (gI s6 12 0 69)) (a := 0) (b := (if (gI s6 12 0 68) ≤ (gI s6 12 0 67) then 0 else 1)) 93 [] ?_ (fun hm11 => ?_)
        ·
          refine x_nameI (fun x18 => ?_)
          refine x_istore (pc := 93) (als' := [(4, aI x18), (3, aI x9), (0, aR 12 (some 0))]) 4 dX12_readWarranty_93 (by decide) rfl ?_
          refine x_goto (pc := 95) 16 dX12_readWarranty_95 (by decide) ?_
          exact x_sub [2, 1, 0] rfl (ih x9 x18 s6)
        ·
          refine x_same (c := 0 ≤ (gI s6 12 0 69)) ?_
          refine x_if_ge (pc := 74) 92 dX12_readWarranty_74 (by decide) (fun hc12 => ?_) (fun hc12 => ?_)
          ·
            have hm13 := x_topT hc12 hm11
            refine x_iconst (pc := 92) 0 dX12_readWarranty_92 rfl ?_
            exact hm13
          ·
            have hm14 := x_topF hc12 hm11
            refine x_aload_n (pc := 77) 0 dX12_readWarranty_77 rfl rfl ?_
            refine x_getI (pc := 78) fd_12_67 tk_1262 dX12_readWarranty_78 ?_
            refine x_aload_n (pc := 81) 0 dX12_readWarranty_81 rfl rfl ?_
            refine x_getI (pc := 82) fd_12_68 tk_1263 dX12_readWarranty_82 ?_
            refine x_same (c := (gI s6 12 0 68) ≤ (gI s6 12 0 67)) ?_
            refine x_icmp_ge (pc := 85) 92 dX12_readWarranty_85 (by decide) (fun hc15 => ?_) (fun hc15 => ?_)
            ·
              have hm16 := x_topT hc15 hm14
              refine x_iconst (pc := 92) 0 dX12_readWarranty_92 rfl ?_
              exact hm16
            ·
              have hm17 := x_topF hc15 hm14
              refine x_iconst (pc := 88) 1 dX12_readWarranty_88 rfl ?_
              refine x_goto (pc := 89) 93 dX12_readWarranty_89 (by decide) ?_
              exact hm17
      · intro j7 hj8
        refine x_if_ge (pc := 31) 67 dX12_readWarranty_31 (by decide) (fun _ => ?_) (fun _ => ?_)
        ·
          exact x_sub [1, 2] rfl (hj8 s5)
        ·
          refine x_iload (pc := 34) 5 dX12_readWarranty_34 rfl ?_
          refine x_if_eq (pc := 36) 67 dX12_readWarranty_36 (by decide) (fun _ => ?_) (fun _ => ?_)
          ·
            exact x_sub [1, 2] rfl (hj8 s5)
          ·
            refine x_aload_n (pc := 39) 0 dX12_readWarranty_39 rfl rfl ?_
            refine x_getI (pc := 40) fd_12_74 tk_1269 dX12_readWarranty_40 ?_
            refine x_if_ge (pc := 43) 67 dX12_readWarranty_43 (by decide) (fun _ => ?_) (fun _ => ?_)
            ·
              exact x_sub [1, 2] rfl (hj8 s5)
            ·
              refine x_aload_n (pc := 46) 0 dX12_readWarranty_46 rfl rfl ?_
              refine x_iload_n (pc := 47) 3 dX12_readWarranty_47 rfl rfl ?_
              refine x_putI (pc := 48) fd_12_74 pt_12_74 tk_1269 dX12_readWarranty_48 (Or.inl rfl) ?_
              refine x_nameS (fun s19 => ?_)
              refine x_aload_n (pc := 51) 0 dX12_readWarranty_51 rfl rfl ?_
              refine x_aload_n (pc := 52) 0 dX12_readWarranty_52 rfl rfl ?_
              refine x_getI (pc := 53) fd_12_72 tk_1267 dX12_readWarranty_53 ?_
              refine x_putI (pc := 56) fd_12_75 pt_12_75 tk_1270 dX12_readWarranty_56 (Or.inl rfl) ?_
              refine x_nameS (fun s20 => ?_)
              refine x_aload_n (pc := 59) 0 dX12_readWarranty_59 rfl rfl ?_
              refine x_aload_n (pc := 60) 0 dX12_readWarranty_60 rfl rfl ?_
              refine x_getI (pc := 61) fd_12_73 tk_1268 dX12_readWarranty_61 ?_
              refine x_putI (pc := 64) fd_12_76 pt_12_76 tk_1271 dX12_readWarranty_64 (Or.inl rfl) ?_
              refine x_nameS (fun s21 => ?_)
              exact x_sub [1, 2] rfl (hj8 s21)
set_option maxRecDepth 20000 in
theorem x12_readWarranty (E : zEn)  (v1 : Int32) (v2 : Int32) (σ : zSt) : X E cX12_readWarranty m12_readWarranty true (zQw E true eV r12_readWarranty) 0 0 σ [(0, aR 12 (some 0)), (1, aI v1), (2, aI v2)] 0 [] (f12_readWarranty v1 v2 σ) := by
  unfold f12_readWarranty
  refine x_aload_n (pc := 0) 0 dX12_readWarranty_0 rfl rfl ?_
  refine x_iload_n (pc := 1) 1 dX12_readWarranty_1 rfl rfl ?_
  refine x_iload_n (pc := 2) 2 dX12_readWarranty_2 rfl rfl ?_
  refine x_callV (pc := 3) (as := [aI v1, aI v2]) (rest := []) (fun l => c_12_beginText l true v1 v2 σ) md_X12_beginText ⟨_, _, rfl, by decide⟩ tk_1734 tp_88 tk_1732 dX12_readWarranty_3 rfl ⟨by decide, by decide, by decide, by decide⟩ ⟨fun _ => rfl, fun _ => Or.inl rfl⟩ rfl (Nat.le_of_ble_eq_true rfl) (fun _ s2 => ?_)
  show X E _ _ _ _ 0 0 _ _ _ [] _
  refine x_aload_n (pc := 6) 0 dX12_readWarranty_6 rfl rfl ?_
  refine x_iconst (pc := 7) (-1) dX12_readWarranty_7 rfl ?_
  refine x_putI (pc := 8) fd_12_74 pt_12_74 tk_1269 dX12_readWarranty_8 (Or.inl rfl) ?_
  refine x_nameS (fun s3 => ?_)
  refine x_iconst (pc := 11) 0 dX12_readWarranty_11 rfl ?_
  refine x_istore_n (pc := 12) (als' := [(3, aI 0), (0, aR 12 (some 0)), (1, aI v1), (2, aI v2)]) 3 dX12_readWarranty_12 rfl (by decide) rfl ?_
  refine x_iconst (pc := 13) 1 dX12_readWarranty_13 rfl ?_
  refine x_istore (pc := 14) (als' := [(4, aI 1), (3, aI 0), (0, aR 12 (some 0)), (1, aI v1), (2, aI v2)]) 4 dX12_readWarranty_14 (by decide) rfl ?_
  refine x_sub [2, 1, 0] rfl (xl12_readWarranty_16 E zfuel 0 1 s3)
theorem c_12_readWarranty (l : Launch)  (v1 : Int32) (v2 : Int32) (σ : zSt) : zMet l yX12_readWarranty cX12_readWarranty 6 none r12_readWarranty true eV [aR 12 (some 0), aI v1, aI v2] σ (f12_readWarranty v1 v2 σ) :=
  zMet_of [(0, aR 12 (some 0)), (1, aI v1), (2, aI v2)] (by decide +kernel) (fun h => by cases h) (Nat.le_of_ble_eq_true rfl) rfl fun E _ => x12_readWarranty E  v1 v2 σ
set_option maxRecDepth 20000 in
theorem x12_one (E : zEn) (fr lo fr2 lo2 : Nat) (hfr : 2 ≤ fr ∧ 43 ≤ lo) (sum : zSt → Option (Int32 × zSt)) (hsum : ∀ (l : Launch)  (σ : zSt), zMet l yX12_sum cX12_sum 4 (some .int) { frames := fr2, cells := 0, slots := 0, locals := lo2 } true eI [aR 12 (some 0)] σ (sum  σ)) (hroom : zRm (RX12, 3, (some .int), { frames := fr, cells := 0, slots := 0, locals := lo }, false) { frames := fr2, cells := 0, slots := 0, locals := lo2 } 4 0 0)  (σ : zSt) : X E cX12_one (RX12, 3, (some .int), { frames := fr, cells := 0, slots := 0, locals := lo }, false) true (zQw E true eI { frames := fr, cells := 0, slots := 0, locals := lo }) 0 0 σ [(0, aR 12 (some 0))] 0 [] (b12_one sum σ) := by
  unfold b12_one
  refine x_aload_n (pc := 0) 0 dX12_one_0 rfl rfl ?_
  refine x_getI (pc := 1) fd_12_69 tk_1264 dX12_one_1 ?_
  refine x_if_lt (pc := 4) 9 dX12_one_4 (by decide) (fun _ => ?_) (fun _ => ?_)
  ·
    refine x_aload_n (pc := 9) 0 dX12_one_9 rfl rfl ?_
    refine x_callVr (pc := 10) (as := []) (rest := []) (fun l => c_12_byteAt l σ) md_X12_byteAt ⟨_, _, rfl, by decide⟩ tk_1742 tp_90 tk_1740 dX12_one_10 rfl ⟨Nat.le_trans (by decide) hfr.1, Nat.le_trans (by decide) hfr.2, Nat.zero_le _, Nat.zero_le _⟩ ⟨fun _ => rfl, fun _ => Or.inl rfl⟩ rfl (Nat.le_of_ble_eq_true rfl) (fun r1 => ?_)
    show X E _ _ _ _ 0 0 _ _ _ [aI r1] _
    refine x_istore_n (pc := 13) (als' := [(1, aI r1), (0, aR 12 (some 0))]) 1 dX12_one_13 rfl (Nat.le_of_ble_eq_true rfl) rfl ?_
    refine x_iload_n (pc := 14) 1 dX12_one_14 rfl rfl ?_
    refine x_bipush (pc := 15) 40 dX12_one_15 rfl ?_
    refine x_icmp_ne (pc := 17) 102 dX12_one_17 (by decide) (fun _ => ?_) (fun _ => ?_)
    ·
      refine x_iload_n (pc := 102) 1 dX12_one_102 rfl rfl ?_
      refine x_bipush (pc := 103) 113 dX12_one_103 rfl ?_
      refine x_bipush (pc := 105) 121 dX12_one_105 rfl ?_
      refine x_bipush (pc := 107) 120 dX12_one_107 rfl ?_
      refine x_bipush (pc := 109) 98 dX12_one_109 rfl ?_
      refine x_bipush (pc := 111) 114 dX12_one_111 rfl ?_
      refine x_callSr (pc := 113) (as := [aI r1, aI 113, aI 121, aI 120, aI 98, aI 114]) (rest := []) (fun l => c_12_placeIn l true r1 113 121 120 98 114 σ) md_X12_placeIn tk_1749 tk_1748 dX12_one_113 rfl ⟨Nat.le_trans (by decide) hfr.1, Nat.le_trans (by decide) hfr.2, Nat.zero_le _, Nat.zero_le _⟩ ⟨fun _ => rfl, fun _ => Or.inl rfl⟩ rfl (Nat.le_of_ble_eq_true rfl) (fun r15 => ?_)
      show X E _ _ _ _ 0 0 _ _ _ [aI r15] _
      refine x_istore_n (pc := 116) (als' := [(2, aI r15), (1, aI r1), (0, aR 12 (some 0))]) 2 dX12_one_116 rfl (Nat.le_of_ble_eq_true rfl) rfl ?_
      refine x_iload_n (pc := 117) 2 dX12_one_117 rfl rfl ?_
      refine x_if_lt (pc := 118) 138 dX12_one_118 (by decide) (fun _ => ?_) (fun _ => ?_)
      ·
        refine x_aload_n (pc := 138) 0 dX12_one_138 rfl rfl ?_
        refine x_iconst (pc := 139) 5 dX12_one_139 rfl ?_
        refine x_callV (pc := 140) (as := [aI 5]) (rest := []) (fun l => c_12_figure l 5 σ) md_X12_figure ⟨_, _, rfl, by decide⟩ tk_1757 tp_93 tk_1755 dX12_one_140 rfl ⟨Nat.le_trans (by decide) hfr.1, Nat.le_trans (by decide) hfr.2, Nat.zero_le _, Nat.zero_le _⟩ ⟨fun _ => rfl, fun _ => Or.inl rfl⟩ rfl (Nat.le_of_ble_eq_true rfl) (fun r16 s17 => ?_)
        show X E _ _ _ _ 0 0 _ _ _ [aI r16] _
        exact x_iret (rm := { frames := fr, cells := 0, slots := 0, locals := lo }) rfl rfl dX12_one_143
      ·
        refine x_aload_n (pc := 121) 0 dX12_one_121 rfl rfl ?_
        refine x_dup (pc := 122) dX12_one_122 rfl ?_
        refine x_getI (pc := 123) fd_12_67 tk_1262 dX12_one_123 ?_
        refine x_iconst (pc := 126) 1 dX12_one_126 rfl ?_
        refine x_iadd (pc := 127) dX12_one_127 ?_
        refine x_putI (pc := 128) fd_12_67 pt_12_67 tk_1262 dX12_one_128 (Or.inl rfl) ?_
        refine x_nameS (fun s18 => ?_)
        refine x_aload_n (pc := 131) 0 dX12_one_131 rfl rfl ?_
        refine x_getF (pc := 132) (j := 0) fd_12_77 rfl rfl tk_1272 dX12_one_132 ?_
        refine x_iload_n (pc := 135) 2 dX12_one_135 rfl rfl ?_
        refine x_iald (pc := 136) ar_1377 dX12_one_136 (fun m19 => ?_)
        exact x_iret (rm := { frames := fr, cells := 0, slots := 0, locals := lo }) rfl rfl dX12_one_137
    ·
      refine x_aload_n (pc := 20) 0 dX12_one_20 rfl rfl ?_
      refine x_getI (pc := 21) fd_12_70 tk_1265 dX12_one_21 ?_
      refine x_bipush (pc := 24) 6 dX12_one_24 rfl ?_
      refine x_icmp_ne (pc := 26) 34 dX12_one_26 (by decide) (fun _ => ?_) (fun _ => ?_)
      ·
        refine x_aload_n (pc := 34) 0 dX12_one_34 rfl rfl ?_
        refine x_dup (pc := 35) dX12_one_35 rfl ?_
        refine x_getI (pc := 36) fd_12_70 tk_1265 dX12_one_36 ?_
        refine x_iconst (pc := 39) 1 dX12_one_39 rfl ?_
        refine x_iadd (pc := 40) dX12_one_40 ?_
        refine x_putI (pc := 41) fd_12_70 pt_12_70 tk_1265 dX12_one_41 (Or.inl rfl) ?_
        refine x_nameS (fun s4 => ?_)
        refine x_aload_n (pc := 44) 0 dX12_one_44 rfl rfl ?_
        refine x_dup (pc := 45) dX12_one_45 rfl ?_
        refine x_getI (pc := 46) fd_12_67 tk_1262 dX12_one_46 ?_
        refine x_iconst (pc := 49) 1 dX12_one_49 rfl ?_
        refine x_iadd (pc := 50) dX12_one_50 ?_
        refine x_putI (pc := 51) fd_12_67 pt_12_67 tk_1262 dX12_one_51 (Or.inl rfl) ?_
        refine x_nameS (fun s5 => ?_)
        refine x_aload_n (pc := 54) 0 dX12_one_54 rfl rfl ?_
        refine x_callV (pc := 55) (as := []) (rest := []) (fun l => hsum l s5) md_X12_sum ⟨_, _, rfl, by decide⟩ tk_1765 tp_95 tk_1763 dX12_one_55 rfl hroom ⟨fun _ => rfl, fun _ => Or.inl rfl⟩ rfl (Nat.le_of_ble_eq_true rfl) (fun r6 s7 => ?_)
        show X E _ _ _ _ 0 0 _ _ _ [aI r6] _
        refine x_istore_n (pc := 58) (als' := [(2, aI r6), (1, aI r1), (0, aR 12 (some 0))]) 2 dX12_one_58 rfl (Nat.le_of_ble_eq_true rfl) rfl ?_
        refine x_aload_n (pc := 59) 0 dX12_one_59 rfl rfl ?_
        refine x_getI (pc := 60) fd_12_69 tk_1264 dX12_one_60 ?_
        refine x_join (P := fun (j8 : Option (Int32 × zSt)) => X E cX12_one (RX12, 3, (some .int), { frames := fr, cells := 0, slots := 0, locals := lo }, false) true (zQw E true eI { frames := fr, cells := 0, slots := 0, locals := lo }) 0 0 s7 [(0, aR 12 (some 0)), (2, aI r6)] 80 [] j8) ?_ ?_
        ·
          refine x_aload_n (pc := 80) 0 dX12_one_80 rfl rfl ?_
          refine x_dup (pc := 81) dX12_one_81 rfl ?_
          refine x_getI (pc := 82) fd_12_67 tk_1262 dX12_one_82 ?_
          refine x_iconst (pc := 85) 1 dX12_one_85 rfl ?_
          refine x_iadd (pc := 86) dX12_one_86 ?_
          refine x_putI (pc := 87) fd_12_67 pt_12_67 tk_1262 dX12_one_87 (Or.inl rfl) ?_
          refine x_nameS (fun s10 => ?_)
          refine x_aload_n (pc := 90) 0 dX12_one_90 rfl rfl ?_
          refine x_dup (pc := 91) dX12_one_91 rfl ?_
          refine x_getI (pc := 92) fd_12_70 tk_1265 dX12_one_92 ?_
          refine x_iconst (pc := 95) 1 dX12_one_95 rfl ?_
          refine x_isub (pc := 96) dX12_one_96 ?_
          refine x_putI (pc := 97) fd_12_70 pt_12_70 tk_1265 dX12_one_97 (Or.inl rfl) ?_
          refine x_nameS (fun s11 => ?_)
          refine x_iload_n (pc := 100) 2 dX12_one_100 rfl rfl ?_
          exact x_iret (rm := { frames := fr, cells := 0, slots := 0, locals := lo }) rfl rfl dX12_one_101
        · intro j8 hj9
          refine x_if_ge (pc := 63) 80 dX12_one_63 (by decide) (fun _ => ?_) (fun _ => ?_)
          ·
            exact x_sub [2, 0] rfl (hj9)
          ·
            refine x_aload_n (pc := 66) 0 dX12_one_66 rfl rfl ?_
            refine x_callVr (pc := 67) (as := []) (rest := []) (fun l => c_12_byteAt l s7) md_X12_byteAt ⟨_, _, rfl, by decide⟩ tk_1742 tp_90 tk_1740 dX12_one_67 rfl ⟨Nat.le_trans (by decide) hfr.1, Nat.le_trans (by decide) hfr.2, Nat.zero_le _, Nat.zero_le _⟩ ⟨fun _ => rfl, fun _ => Or.inl rfl⟩ rfl (Nat.le_of_ble_eq_true rfl) (fun r12 => ?_)
            show X E _ _ _ _ 0 0 _ _ _ [aI r12] _
            refine x_bipush (pc := 70) 41 dX12_one_70 rfl ?_
            refine x_icmp_eq (pc := 72) 80 dX12_one_72 (by decide) (fun _ => ?_) (fun _ => ?_)
            ·
              exact x_sub [2, 0] rfl (hj9)
            ·
              refine x_aload_n (pc := 75) 0 dX12_one_75 rfl rfl ?_
              refine x_callV (pc := 76) (as := []) (rest := []) (fun l => c_12_wrong l true s7) md_X12_wrong ⟨_, _, rfl, by decide⟩ tk_1753 tp_92 tk_1751 dX12_one_76 rfl ⟨Nat.le_trans (by decide) hfr.1, Nat.le_trans (by decide) hfr.2, Nat.zero_le _, Nat.zero_le _⟩ ⟨fun _ => rfl, fun _ => Or.inl rfl⟩ rfl (Nat.le_of_ble_eq_true rfl) (fun r13 s14 => ?_)
              show X E _ _ _ _ 0 0 _ _ _ [aI r13] _
              exact x_iret (rm := { frames := fr, cells := 0, slots := 0, locals := lo }) rfl rfl dX12_one_79
      ·
        refine x_aload_n (pc := 29) 0 dX12_one_29 rfl rfl ?_
        refine x_callV (pc := 30) (as := []) (rest := []) (fun l => c_12_wrong l true σ) md_X12_wrong ⟨_, _, rfl, by decide⟩ tk_1753 tp_92 tk_1751 dX12_one_30 rfl ⟨Nat.le_trans (by decide) hfr.1, Nat.le_trans (by decide) hfr.2, Nat.zero_le _, Nat.zero_le _⟩ ⟨fun _ => rfl, fun _ => Or.inl rfl⟩ rfl (Nat.le_of_ble_eq_true rfl) (fun r2 s3 => ?_)
        show X E _ _ _ _ 0 0 _ _ _ [aI r2] _
        exact x_iret (rm := { frames := fr, cells := 0, slots := 0, locals := lo }) rfl rfl dX12_one_33
  ·
    refine x_iconst (pc := 7) 0 dX12_one_7 rfl ?_
    exact x_iret (rm := { frames := fr, cells := 0, slots := 0, locals := lo }) rfl rfl dX12_one_8
theorem c_b12_one (l : Launch) (fr lo fr2 lo2 : Nat) (hfr : 2 ≤ fr ∧ 43 ≤ lo) (sum : zSt → Option (Int32 × zSt)) (hsum : ∀ (l : Launch)  (σ : zSt), zMet l yX12_sum cX12_sum 4 (some .int) { frames := fr2, cells := 0, slots := 0, locals := lo2 } true eI [aR 12 (some 0)] σ (sum  σ)) (hroom : zRm (RX12, 3, (some .int), { frames := fr, cells := 0, slots := 0, locals := lo }, false) { frames := fr2, cells := 0, slots := 0, locals := lo2 } 4 0 0)  (σ : zSt) : zMet l yX12_one cX12_one 3 (some .int) { frames := fr, cells := 0, slots := 0, locals := lo } true eI [aR 12 (some 0)] σ (b12_one sum σ) :=
  zMet_of [(0, aR 12 (some 0))] (by decide +kernel) (fun h => by cases h) (Nat.le_of_ble_eq_true rfl) rfl fun E _ => x12_one E fr lo fr2 lo2 hfr sum hsum hroom  σ
set_option maxRecDepth 20000 in
theorem xl12_sum_23 (E : zEn) (fr lo fr2 lo2 : Nat) (hfr : 2 ≤ fr ∧ 43 ≤ lo) (one : zSt → Option (Int32 × zSt)) (hone : ∀ (l : Launch)  (σ : zSt), zMet l yX12_one cX12_one 3 (some .int) { frames := fr2, cells := 0, slots := 0, locals := lo2 } true eI [aR 12 (some 0)] σ (one  σ)) (hroom : zRm (RX12, 4, (some .int), { frames := fr, cells := 0, slots := 0, locals := lo }, false) { frames := fr2, cells := 0, slots := 0, locals := lo2 } 3 0 0)     : ∀ (n : Nat) (v1 : Int32) (v2 : Int32) (σ : zSt), X E cX12_sum (RX12, 4, (some .int), { frames := fr, cells := 0, slots := 0, locals := lo }, false) true (zQw E true eI { frames := fr, cells := 0, slots := 0, locals := lo }) 0 0 σ [(0, aR 12 (some 0)), (1, aI v1), (2, aI v2)] 23 [] (b12_sum_L23 one n v1 v2 σ) := by
  intro n
  induction n with
  | zero => intros; exact x_none
  | succ n ih =>
    intro v1 v2 σ
    rw [b12_sum_L23]
    refine x_aload_n (pc := 23) 0 dX12_sum_23 rfl rfl ?_
    refine x_getI (pc := 24) fd_12_69 tk_1264 dX12_sum_24 ?_
    refine x_if_ge (pc := 27) 114 dX12_sum_27 (by decide) (fun _ => ?_) (fun _ => ?_)
    ·
      refine x_iload_n (pc := 114) 1 dX12_sum_114 rfl rfl ?_
      exact x_iret (rm := { frames := fr, cells := 0, slots := 0, locals := lo }) rfl rfl dX12_sum_115
    ·
      refine x_iload_n (pc := 30) 2 dX12_sum_30 rfl rfl ?_
      refine x_if_lt (pc := 31) 114 dX12_sum_31 (by decide) (fun _ => ?_) (fun _ => ?_)
      ·
        refine x_iload_n (pc := 114) 1 dX12_sum_114 rfl rfl ?_
        exact x_iret (rm := { frames := fr, cells := 0, slots := 0, locals := lo }) rfl rfl dX12_sum_115
      ·
        refine x_aload_n (pc := 34) 0 dX12_sum_34 rfl rfl ?_
        refine x_dup (pc := 35) dX12_sum_35 rfl ?_
        refine x_getI (pc := 36) fd_12_67 tk_1262 dX12_sum_36 ?_
        refine x_iconst (pc := 39) 1 dX12_sum_39 rfl ?_
        refine x_iadd (pc := 40) dX12_sum_40 ?_
        refine x_putI (pc := 41) fd_12_67 pt_12_67 tk_1262 dX12_sum_41 (Or.inl rfl) ?_
        refine x_nameS (fun s5 => ?_)
        refine x_aload_n (pc := 44) 0 dX12_sum_44 rfl rfl ?_
        refine x_callV (pc := 45) (as := []) (rest := []) (fun l => hone l s5) md_X12_one ⟨_, _, rfl, by decide⟩ tk_1769 tp_96 tk_1767 dX12_sum_45 rfl hroom ⟨fun _ => rfl, fun _ => Or.inl rfl⟩ rfl (Nat.le_of_ble_eq_true rfl) (fun r6 s7 => ?_)
        show X E _ _ _ _ 0 0 _ _ _ [aI r6] _
        refine x_istore_n (pc := 48) (als' := [(3, aI r6), (0, aR 12 (some 0)), (1, aI v1), (2, aI v2)]) 3 dX12_sum_48 rfl (Nat.le_of_ble_eq_true rfl) rfl ?_
        refine x_iload_n (pc := 49) 2 dX12_sum_49 rfl rfl ?_
        refine x_join (P := fun (j9 : Int32 → Option (Int32 × zSt)) => ∀ (a8 : Int32), X E cX12_sum (RX12, 4, (some .int), { frames := fr, cells := 0, slots := 0, locals := lo }, false) true (zQw E true eI { frames := fr, cells := 0, slots := 0, locals := lo }) 0 0 s7 [(0, aR 12 (some 0))] 92 [aI a8] (j9 a8)) ?_ ?_
        · intro a8
          refine x_istore_n (pc := 92) (als' := [(1, aI a8), (0, aR 12 (some 0))]) 1 dX12_sum_92 rfl (Nat.le_of_ble_eq_true rfl) rfl ?_
          refine x_aload_n (pc := 93) 0 dX12_sum_93 rfl rfl ?_
          refine x_callVr (pc := 94) (as := []) (rest := []) (fun l => c_12_byteAt l s7) md_X12_byteAt ⟨_, _, rfl, by decide⟩ tk_1742 tp_90 tk_1740 dX12_sum_94 rfl ⟨Nat.le_trans (by decide) hfr.1, Nat.le_trans (by decide) hfr.2, Nat.zero_le _, Nat.zero_le _⟩ ⟨fun _ => rfl, fun _ => Or.inl rfl⟩ rfl (Nat.le_of_ble_eq_true rfl) (fun r11 => ?_)
          show X E _ _ _ _ 0 0 _ _ _ [aI r11] _
          refine x_bipush (pc := 97) 43 dX12_sum_97 rfl ?_
          refine x_bipush (pc := 99) 45 dX12_sum_99 rfl ?_
          refine x_bipush (pc := 101) 42 dX12_sum_101 rfl ?_
          refine x_bipush (pc := 103) 47 dX12_sum_103 rfl ?_
          refine x_bipush (pc := 105) (-9) dX12_sum_105 rfl ?_
          refine x_callSr (pc := 107) (as := [aI r11, aI 43, aI 45, aI 42, aI 47, aI (-9)]) (rest := []) (fun l => c_12_placeIn l true r11 43 45 42 47 (-9) s7) md_X12_placeIn tk_1749 tk_1748 dX12_sum_107 rfl ⟨Nat.le_trans (by decide) hfr.1, Nat.le_trans (by decide) hfr.2, Nat.zero_le _, Nat.zero_le _⟩ ⟨fun _ => rfl, fun _ => Or.inl rfl⟩ rfl (Nat.le_of_ble_eq_true rfl) (fun r12 => ?_)
          show X E _ _ _ _ 0 0 _ _ _ [aI r12] _
          refine x_istore_n (pc := 110) (als' := [(2, aI r12), (1, aI a8), (0, aR 12 (some 0))]) 2 dX12_sum_110 rfl (Nat.le_of_ble_eq_true rfl) rfl ?_
          refine x_goto (pc := 111) 23 dX12_sum_111 (by decide) ?_
          exact x_sub [2, 1, 0] rfl (ih a8 r12 s7)
        · intro j9 hj10
          refine x_if_ne (pc := 50) 59 dX12_sum_50 (by decide) (fun _ => ?_) (fun _ => ?_)
          ·
            refine x_iload_n (pc := 59) 2 dX12_sum_59 rfl rfl ?_
            refine x_iconst (pc := 60) 1 dX12_sum_60 rfl ?_
            refine x_icmp_ne (pc := 61) 70 dX12_sum_61 (by decide) (fun _ => ?_) (fun _ => ?_)
            ·
              refine x_iload_n (pc := 70) 2 dX12_sum_70 rfl rfl ?_
              refine x_iconst (pc := 71) 2 dX12_sum_71 rfl ?_
              refine x_icmp_ne (pc := 72) 81 dX12_sum_72 (by decide) (fun _ => ?_) (fun _ => ?_)
              ·
                refine x_iload_n (pc := 81) 3 dX12_sum_81 rfl rfl ?_
                refine x_if_ne (pc := 82) 89 dX12_sum_82 (by decide) (fun _ => ?_) (fun _ => ?_)
                ·
                  refine x_iload_n (pc := 89) 1 dX12_sum_89 rfl rfl ?_
                  refine x_iload_n (pc := 90) 3 dX12_sum_90 rfl rfl ?_
                  refine x_idiv (pc := 91) dX12_sum_91 ?_
                  exact x_sub [1] rfl (hj10 (zop_idiv v1 r6))
                ·
                  refine x_iconst (pc := 85) 0 dX12_sum_85 rfl ?_
                  refine x_goto (pc := 86) 92 dX12_sum_86 (by decide) ?_
                  exact x_sub [1] rfl (hj10 0)
              ·
                refine x_iload_n (pc := 75) 1 dX12_sum_75 rfl rfl ?_
                refine x_iload_n (pc := 76) 3 dX12_sum_76 rfl rfl ?_
                refine x_imul (pc := 77) dX12_sum_77 ?_
                refine x_goto (pc := 78) 92 dX12_sum_78 (by decide) ?_
                exact x_sub [1] rfl (hj10 (v1 * r6))
            ·
              refine x_iload_n (pc := 64) 1 dX12_sum_64 rfl rfl ?_
              refine x_iload_n (pc := 65) 3 dX12_sum_65 rfl rfl ?_
              refine x_isub (pc := 66) dX12_sum_66 ?_
              refine x_goto (pc := 67) 92 dX12_sum_67 (by decide) ?_
              exact x_sub [1] rfl (hj10 (v1 - r6))
          ·
            refine x_iload_n (pc := 53) 1 dX12_sum_53 rfl rfl ?_
            refine x_iload_n (pc := 54) 3 dX12_sum_54 rfl rfl ?_
            refine x_iadd (pc := 55) dX12_sum_55 ?_
            refine x_goto (pc := 56) 92 dX12_sum_56 (by decide) ?_
            exact x_sub [1] rfl (hj10 (v1 + r6))
set_option maxRecDepth 20000 in
theorem x12_sum (E : zEn) (fr lo fr2 lo2 : Nat) (hfr : 2 ≤ fr ∧ 43 ≤ lo) (one : zSt → Option (Int32 × zSt)) (hone : ∀ (l : Launch)  (σ : zSt), zMet l yX12_one cX12_one 3 (some .int) { frames := fr2, cells := 0, slots := 0, locals := lo2 } true eI [aR 12 (some 0)] σ (one  σ)) (hroom : zRm (RX12, 4, (some .int), { frames := fr, cells := 0, slots := 0, locals := lo }, false) { frames := fr2, cells := 0, slots := 0, locals := lo2 } 3 0 0)  (σ : zSt) : X E cX12_sum (RX12, 4, (some .int), { frames := fr, cells := 0, slots := 0, locals := lo }, false) true (zQw E true eI { frames := fr, cells := 0, slots := 0, locals := lo }) 0 0 σ [(0, aR 12 (some 0))] 0 [] (b12_sum one σ) := by
  unfold b12_sum
  refine x_aload_n (pc := 0) 0 dX12_sum_0 rfl rfl ?_
  refine x_callV (pc := 1) (as := []) (rest := []) (fun l => hone l σ) md_X12_one ⟨_, _, rfl, by decide⟩ tk_1769 tp_96 tk_1767 dX12_sum_1 rfl hroom ⟨fun _ => rfl, fun _ => Or.inl rfl⟩ rfl (Nat.le_of_ble_eq_true rfl) (fun r1 s2 => ?_)
  show X E _ _ _ _ 0 0 _ _ _ [aI r1] _
  refine x_istore_n (pc := 4) (als' := [(1, aI r1), (0, aR 12 (some 0))]) 1 dX12_sum_4 rfl (Nat.le_of_ble_eq_true rfl) rfl ?_
  refine x_aload_n (pc := 5) 0 dX12_sum_5 rfl rfl ?_
  refine x_callVr (pc := 6) (as := []) (rest := []) (fun l => c_12_byteAt l s2) md_X12_byteAt ⟨_, _, rfl, by decide⟩ tk_1742 tp_90 tk_1740 dX12_sum_6 rfl ⟨Nat.le_trans (by decide) hfr.1, Nat.le_trans (by decide) hfr.2, Nat.zero_le _, Nat.zero_le _⟩ ⟨fun _ => rfl, fun _ => Or.inl rfl⟩ rfl (Nat.le_of_ble_eq_true rfl) (fun r3 => ?_)
  show X E _ _ _ _ 0 0 _ _ _ [aI r3] _
  refine x_bipush (pc := 9) 43 dX12_sum_9 rfl ?_
  refine x_bipush (pc := 11) 45 dX12_sum_11 rfl ?_
  refine x_bipush (pc := 13) 42 dX12_sum_13 rfl ?_
  refine x_bipush (pc := 15) 47 dX12_sum_15 rfl ?_
  refine x_bipush (pc := 17) (-9) dX12_sum_17 rfl ?_
  refine x_callSr (pc := 19) (as := [aI r3, aI 43, aI 45, aI 42, aI 47, aI (-9)]) (rest := []) (fun l => c_12_placeIn l true r3 43 45 42 47 (-9) s2) md_X12_placeIn tk_1749 tk_1748 dX12_sum_19 rfl ⟨Nat.le_trans (by decide) hfr.1, Nat.le_trans (by decide) hfr.2, Nat.zero_le _, Nat.zero_le _⟩ ⟨fun _ => rfl, fun _ => Or.inl rfl⟩ rfl (Nat.le_of_ble_eq_true rfl) (fun r4 => ?_)
  show X E _ _ _ _ 0 0 _ _ _ [aI r4] _
  refine x_istore_n (pc := 22) (als' := [(2, aI r4), (1, aI r1), (0, aR 12 (some 0))]) 2 dX12_sum_22 rfl (Nat.le_of_ble_eq_true rfl) rfl ?_
  refine x_sub [2, 1, 0] rfl (xl12_sum_23 E fr lo fr2 lo2 hfr one hone hroom zfuel r1 r4 s2)
theorem c_b12_sum (l : Launch) (fr lo fr2 lo2 : Nat) (hfr : 2 ≤ fr ∧ 43 ≤ lo) (one : zSt → Option (Int32 × zSt)) (hone : ∀ (l : Launch)  (σ : zSt), zMet l yX12_one cX12_one 3 (some .int) { frames := fr2, cells := 0, slots := 0, locals := lo2 } true eI [aR 12 (some 0)] σ (one  σ)) (hroom : zRm (RX12, 4, (some .int), { frames := fr, cells := 0, slots := 0, locals := lo }, false) { frames := fr2, cells := 0, slots := 0, locals := lo2 } 3 0 0)  (σ : zSt) : zMet l yX12_sum cX12_sum 4 (some .int) { frames := fr, cells := 0, slots := 0, locals := lo } true eI [aR 12 (some 0)] σ (b12_sum one σ) :=
  zMet_of [(0, aR 12 (some 0))] (by decide +kernel) (fun h => by cases h) (Nat.le_of_ble_eq_true rfl) rfl fun E _ => x12_sum E fr lo fr2 lo2 hfr one hone hroom  σ
theorem c_g12_so : ∀ (d : Nat), (∀ (l : Launch) (σ : zSt), zMet l yX12_sum cX12_sum 4 (some .int) { frames := 2 + d, cells := 0, slots := 0, locals := 43 + d * 23 } true eI [aR 12 (some 0)] σ ((g12_so d).1 σ)) ∧ (∀ (l : Launch) (σ : zSt), zMet l yX12_one cX12_one 3 (some .int) { frames := 2 + d, cells := 0, slots := 0, locals := 43 + d * 23 } true eI [aR 12 (some 0)] σ ((g12_so d).2 σ))
  | 0 => ⟨fun _ _ => zMet_none, fun _ _ => zMet_none⟩
  | d + 1 => ⟨fun l σ => c_b12_sum l (2 + (d + 1)) (43 + (d + 1) * 23) (2 + d) (43 + d * 23) ⟨by omega, by omega⟩ (g12_so d).2 (c_g12_so d).2 ⟨by show 2 + d + 1 ≤ 2 + (d + 1); omega, by show 8 + (3 + 11) + (43 + d * 23) ≤ 43 + (d + 1) * 23; omega, Nat.le_refl _, Nat.le_refl _⟩ σ,
    fun l σ => c_b12_one l (2 + (d + 1)) (43 + (d + 1) * 23) (2 + d) (43 + d * 23) ⟨by omega, by omega⟩ (g12_so d).1 (c_g12_so d).1 ⟨by show 2 + d + 1 ≤ 2 + (d + 1); omega, by show 8 + (4 + 11) + (43 + d * 23) ≤ 43 + (d + 1) * 23; omega, Nat.le_refl _, Nat.le_refl _⟩ σ⟩
theorem c_12_sum (l : Launch) (σ : zSt) : zMet l yX12_sum cX12_sum 4 (some .int) { frames := 22, cells := 0, slots := 0, locals := 503 } true eI [aR 12 (some 0)] σ (f12_sum σ) := (c_g12_so 20).1 l σ
abbrev r12_readFreeing : Room := { frames := 23, cells := 0, slots := 0, locals := 526 }
abbrev m12_readFreeing : zMu := (RX12, 8, (some .int), r12_readFreeing, false)
set_option maxRecDepth 20000 in
theorem xl12_readFreeing_14 (E : zEn)    {K140 : Int32 → zSt → Option (Int32 × zSt)} (hK140 : ∀ (v3 : Int32) (σ : zSt), X E cX12_readFreeing m12_readFreeing true (zQw E true eI r12_readFreeing) 0 0 σ [(0, aR 12 (some 0)), (3, aI v3)] 140 [] (K140 v3 σ)) : ∀ (n : Nat) (v3 : Int32) (v4 : Int32) (v5 : Int32) (σ : zSt), X E cX12_readFreeing m12_readFreeing true (zQw E true eI r12_readFreeing) 0 0 σ [(0, aR 12 (some 0)), (3, aI v3), (4, aI v4), (5, aI v5)] 14 [] (f12_readFreeing_L14 K140 n v3 v4 v5 σ) := by
  intro n
  induction n with
  | zero => intros; exact x_none
  | succ n ih =>
    intro v3 v4 v5 σ
    rw [f12_readFreeing_L14]
    refine x_iload (pc := 14) 5 dX12_readFreeing_14 rfl ?_
    refine x_if_eq (pc := 16) 140 dX12_readFreeing_16 (by decide) (fun _ => ?_) (fun _ => ?_)
    ·
      exact x_sub [0, 1] rfl (hK140 v3 σ)
    ·
      refine x_aload_n (pc := 19) 0 dX12_readFreeing_19 rfl rfl ?_
      refine x_callV (pc := 20) (as := []) (rest := []) (fun l => c_12_sum l σ) md_X12_sum ⟨_, _, rfl, by decide⟩ tk_1765 tp_95 tk_1763 dX12_readFreeing_20 rfl ⟨by decide, by decide, by decide, by decide⟩ ⟨fun _ => rfl, fun _ => Or.inl rfl⟩ rfl (Nat.le_of_ble_eq_true rfl) (fun r3 s4 => ?_)
      show X E _ _ _ _ 0 0 _ _ _ [aI r3] _
      refine x_istore (pc := 23) (als' := [(6, aI r3), (0, aR 12 (some 0)), (3, aI v3), (4, aI v4), (5, aI v5)]) 6 dX12_readFreeing_23 (by decide) rfl ?_
      refine x_iconst (pc := 25) 1 dX12_readFreeing_25 rfl ?_
      refine x_istore (pc := 26) (als' := [(7, aI 1), (6, aI r3), (0, aR 12 (some 0)), (3, aI v3), (4, aI v4), (5, aI v5)]) 7 dX12_readFreeing_26 (by decide) rfl ?_
      refine x_aload_n (pc := 28) 0 dX12_readFreeing_28 rfl rfl ?_
      refine x_getI (pc := 29) fd_12_69 tk_1264 dX12_readFreeing_29 ?_
      refine x_join (P := fun (j8 : Int32 → Int32 → zSt → Option (Int32 × zSt)) => ∀ (a5 : Int32) (a6 : Int32) (s7 : zSt), X E cX12_readFreeing m12_readFreeing true (zQw E true eI r12_readFreeing) 0 0 s7 [(0, aR 12 (some 0)), (3, aI v3), (4, aI v4), (6, aI a5), (7, aI a6)] 72 [] (j8 a5 a6 s7)) ?_ ?_
      · intro a5 a6 s7
        refine x_aload_n (pc := 72) 0 dX12_readFreeing_72 rfl rfl ?_
        refine x_getI (pc := 73) fd_12_69 tk_1264 dX12_readFreeing_73 ?_
        refine x_join (P := fun (j12 : Int32 → Int32 → Option (Int32 × zSt)) => ∀ (a10 : Int32) (a11 : Int32), X E cX12_readFreeing m12_readFreeing true (zQw E true eI r12_readFreeing) 0 0 s7 [(0, aR 12 (some 0)), (3, aI a10), (4, aI a11)] 95 [] (j12 a10 a11)) ?_ ?_
        · intro a10 a11
          refine x_aload_n (pc := 95) 0 dX12_readFreeing_95 rfl rfl ?_
          refine x_getI (pc := 96) fd_12_69 tk_1264 dX12_readFreeing_96 ?_
          refine x_join (P := fun (j15 : Int32 → Option (Int32 × zSt)) => ∀ (a14 : Int32), X E cX12_readFreeing m12_readFreeing true (zQw E true eI r12_readFreeing) 0 0 s7 [(0, aR 12 (some 0)), (3, aI a10), (4, aI a11)] 116 [aI a14] (j15 a14)) ?_ ?_
          · intro a14
            refine x_istore (pc := 116) (als' := [(5, aI a14), (0, aR 12 (some 0)), (3, aI a10), (4, aI a11)]) 5 dX12_readFreeing_116 (by decide) rfl ?_
            refine x_aload_n (pc := 118) 0 dX12_readFreeing_118 rfl rfl ?_
            refine x_dup (pc := 119) dX12_readFreeing_119 rfl ?_
            refine x_getI (pc := 120) fd_12_67 tk_1262 dX12_readFreeing_120 ?_
            refine x_iload (pc := 123) 5 dX12_readFreeing_123 rfl ?_
            refine x_mg (c := a14 = 0) (a := 0) (b := 1) 133 [aI (gI s7 12 0 67), aR 12 (some 0)] ?_ (fun hm17 => ?_)
            ·
              refine x_iadd (pc := 133) dX12_readFreeing_133 ?_
              refine x_putI (pc := 134) fd_12_67 pt_12_67 tk_1262 dX12_readFreeing_134 (Or.inl rfl) ?_
              refine x_nameS (fun s21 => ?_)
              refine x_goto (pc := 137) 14 dX12_readFreeing_137 (by decide) ?_
              exact x_sub [1, 2, 3, 0] rfl (ih a10 a11 a14 s21)
            ·
              refine x_same (c := a14 = 0) ?_
              refine x_if_eq (pc := 125) 132 dX12_readFreeing_125 (by decide) (fun hc18 => ?_) (fun hc18 => ?_)
              ·
                have hm19 := x_topT hc18 hm17
                refine x_iconst (pc := 132) 0 dX12_readFreeing_132 rfl ?_
                exact hm19
              ·
                have hm20 := x_topF hc18 hm17
                refine x_iconst (pc := 128) 1 dX12_readFreeing_128 rfl ?_
                refine x_goto (pc := 129) 133 dX12_readFreeing_129 (by decide) ?_
                exact hm20
          · intro j15 hj16
            refine x_join (P := fun (j22 : Option (Int32 × zSt)) => X E cX12_readFreeing m12_readFreeing true (zQw E true eI r12_readFreeing) 0 0 s7 [(0, aR 12 (some 0)), (3, aI a10), (4, aI a11)] 115 [] j22) ?_ ?_
            ·
              refine x_iconst (pc := 115) 0 dX12_readFreeing_115 rfl ?_
              exact hj16 0
            · intro j22 hj23
              refine x_if_ge (pc := 99) 115 dX12_readFreeing_99 (by decide) (fun _ => ?_) (fun _ => ?_)
              ·
                exact hj23
              ·
                refine x_aload_n (pc := 102) 0 dX12_readFreeing_102 rfl rfl ?_
                refine x_callVr (pc := 103) (as := []) (rest := []) (fun l => c_12_byteAt l s7) md_X12_byteAt ⟨_, _, rfl, by decide⟩ tk_1742 tp_90 tk_1740 dX12_readFreeing_103 rfl ⟨by decide, by decide, by decide, by decide⟩ ⟨fun _ => rfl, fun _ => Or.inl rfl⟩ rfl (Nat.le_of_ble_eq_true rfl) (fun r24 => ?_)
                show X E _ _ _ _ 0 0 _ _ _ [aI r24] _
                refine x_bipush (pc := 106) 59 dX12_readFreeing_106 rfl ?_
                refine x_icmp_ne (pc := 108) 115 dX12_readFreeing_108 (by decide) (fun _ => ?_) (fun _ => ?_)
                ·
                  exact hj23
                ·
                  refine x_iconst (pc := 111) 1 dX12_readFreeing_111 rfl ?_
                  refine x_goto (pc := 112) 116 dX12_readFreeing_112 (by decide) ?_
                  exact hj16 1
        · intro j12 hj13
          refine x_if_ge (pc := 76) 95 dX12_readFreeing_76 (by decide) (fun _ => ?_) (fun _ => ?_)
          ·
            exact x_sub [0, 1, 2] rfl (hj13 v3 v4)
          ·
            refine x_iload (pc := 79) 7 dX12_readFreeing_79 rfl ?_
            refine x_if_eq (pc := 81) 95 dX12_readFreeing_81 (by decide) (fun _ => ?_) (fun _ => ?_)
            ·
              exact x_sub [0, 1, 2] rfl (hj13 v3 v4)
            ·
              refine x_iload (pc := 84) 4 dX12_readFreeing_84 rfl ?_
              refine x_if_ne (pc := 86) 95 dX12_readFreeing_86 (by decide) (fun _ => ?_) (fun _ => ?_)
              ·
                exact x_sub [0, 1, 2] rfl (hj13 v3 v4)
              ·
                refine x_iload (pc := 89) 6 dX12_readFreeing_89 rfl ?_
                refine x_istore_n (pc := 91) (als' := [(3, aI a5), (0, aR 12 (some 0)), (4, aI v4), (6, aI a5), (7, aI a6)]) 3 dX12_readFreeing_91 rfl (by decide) rfl ?_
                refine x_iconst (pc := 92) 1 dX12_readFreeing_92 rfl ?_
                refine x_istore (pc := 93) (als' := [(4, aI 1), (3, aI a5), (0, aR 12 (some 0)), (6, aI a5), (7, aI a6)]) 4 dX12_readFreeing_93 (by decide) rfl ?_
                exact x_sub [2, 1, 0] rfl (hj13 a5 1)
      · intro j8 hj9
        refine x_if_ge (pc := 32) 72 dX12_readFreeing_32 (by decide) (fun _ => ?_) (fun _ => ?_)
        ·
          exact x_sub [2, 3, 4, 1, 0] rfl (hj9 r3 1 s4)
        ·
          refine x_aload_n (pc := 35) 0 dX12_readFreeing_35 rfl rfl ?_
          refine x_callVr (pc := 36) (as := []) (rest := []) (fun l => c_12_byteAt l s4) md_X12_byteAt ⟨_, _, rfl, by decide⟩ tk_1742 tp_90 tk_1740 dX12_readFreeing_36 rfl ⟨by decide, by decide, by decide, by decide⟩ ⟨fun _ => rfl, fun _ => Or.inl rfl⟩ rfl (Nat.le_of_ble_eq_true rfl) (fun r25 => ?_)
          show X E _ _ _ _ 0 0 _ _ _ [aI r25] _
          refine x_bipush (pc := 39) 58 dX12_readFreeing_39 rfl ?_
          refine x_icmp_ne (pc := 41) 72 dX12_readFreeing_41 (by decide) (fun _ => ?_) (fun _ => ?_)
          ·
            exact x_sub [2, 3, 4, 1, 0] rfl (hj9 r3 1 s4)
          ·
            refine x_aload_n (pc := 44) 0 dX12_readFreeing_44 rfl rfl ?_
            refine x_dup (pc := 45) dX12_readFreeing_45 rfl ?_
            refine x_getI (pc := 46) fd_12_67 tk_1262 dX12_readFreeing_46 ?_
            refine x_iconst (pc := 49) 1 dX12_readFreeing_49 rfl ?_
            refine x_iadd (pc := 50) dX12_readFreeing_50 ?_
            refine x_putI (pc := 51) fd_12_67 pt_12_67 tk_1262 dX12_readFreeing_51 (Or.inl rfl) ?_
            refine x_nameS (fun s26 => ?_)
            refine x_iload (pc := 54) 6 dX12_readFreeing_54 rfl ?_
            refine x_mg (c := r3 = 0) (a := 0) (b := 1) 64 [] ?_ (fun hm27 => ?_)
            ·
              refine x_nameI (fun x31 => ?_)
              refine x_istore (pc := 64) (als' := [(7, aI x31), (6, aI r3), (0, aR 12 (some 0)), (3, aI v3), (4, aI v4), (5, aI v5)]) 7 dX12_readFreeing_64 (by decide) rfl ?_
              refine x_aload_n (pc := 66) 0 dX12_readFreeing_66 rfl rfl ?_
              refine x_callV (pc := 67) (as := []) (rest := []) (fun l => c_12_sum l s26) md_X12_sum ⟨_, _, rfl, by decide⟩ tk_1765 tp_95 tk_1763 dX12_readFreeing_67 rfl ⟨by decide, by decide, by decide, by decide⟩ ⟨fun _ => rfl, fun _ => Or.inl rfl⟩ rfl (Nat.le_of_ble_eq_true rfl) (fun r32 s33 => ?_)
              show X E _ _ _ _ 0 0 _ _ _ [aI r32] _
              refine x_istore (pc := 70) (als' := [(6, aI r32), (7, aI x31), (0, aR 12 (some 0)), (3, aI v3), (4, aI v4), (5, aI v5)]) 6 dX12_readFreeing_70 (by decide) rfl ?_
              exact x_sub [2, 3, 4, 0, 1] rfl (hj9 r32 x31 s33)
            ·
              refine x_same (c := r3 = 0) ?_
              refine x_if_eq (pc := 56) 63 dX12_readFreeing_56 (by decide) (fun hc28 => ?_) (fun hc28 => ?_)
              ·
                have hm29 := x_topT hc28 hm27
                refine x_iconst (pc := 63) 0 dX12_readFreeing_63 rfl ?_
                exact hm29
              ·
                have hm30 := x_topF hc28 hm27
                refine x_iconst (pc := 59) 1 dX12_readFreeing_59 rfl ?_
                refine x_goto (pc := 60) 64 dX12_readFreeing_60 (by decide) ?_
                exact hm30
set_option maxRecDepth 20000 in
theorem x12_readFreeing (E : zEn)  (v1 : Int32) (v2 : Int32) (σ : zSt) : X E cX12_readFreeing m12_readFreeing true (zQw E true eI r12_readFreeing) 0 0 σ [(0, aR 12 (some 0)), (1, aI v1), (2, aI v2)] 0 [] (f12_readFreeing v1 v2 σ) := by
  unfold f12_readFreeing
  refine x_aload_n (pc := 0) 0 dX12_readFreeing_0 rfl rfl ?_
  refine x_iload_n (pc := 1) 1 dX12_readFreeing_1 rfl rfl ?_
  refine x_iload_n (pc := 2) 2 dX12_readFreeing_2 rfl rfl ?_
  refine x_callV (pc := 3) (as := [aI v1, aI v2]) (rest := []) (fun l => c_12_beginText l true v1 v2 σ) md_X12_beginText ⟨_, _, rfl, by decide⟩ tk_1734 tp_88 tk_1732 dX12_readFreeing_3 rfl ⟨by decide, by decide, by decide, by decide⟩ ⟨fun _ => rfl, fun _ => Or.inl rfl⟩ rfl (Nat.le_of_ble_eq_true rfl) (fun _ s2 => ?_)
  show X E _ _ _ _ 0 0 _ _ _ [] _
  refine x_iconst (pc := 6) 0 dX12_readFreeing_6 rfl ?_
  refine x_istore_n (pc := 7) (als' := [(3, aI 0), (0, aR 12 (some 0)), (1, aI v1), (2, aI v2)]) 3 dX12_readFreeing_7 rfl (by decide) rfl ?_
  refine x_iconst (pc := 8) 0 dX12_readFreeing_8 rfl ?_
  refine x_istore (pc := 9) (als' := [(4, aI 0), (3, aI 0), (0, aR 12 (some 0)), (1, aI v1), (2, aI v2)]) 4 dX12_readFreeing_9 (by decide) rfl ?_
  refine x_iconst (pc := 11) 1 dX12_readFreeing_11 rfl ?_
  refine x_istore (pc := 12) (als' := [(5, aI 1), (4, aI 0), (3, aI 0), (0, aR 12 (some 0)), (1, aI v1), (2, aI v2)]) 5 dX12_readFreeing_12 (by decide) rfl ?_
  refine x_sub [3, 2, 1, 0] rfl (xl12_readFreeing_14 E (fun a34 s35 => ?_) zfuel 0 0 1 s2)
  ·
    refine x_aload_n (pc := 140) 0 dX12_readFreeing_140 rfl rfl ?_
    refine x_getI (pc := 141) fd_12_69 tk_1264 dX12_readFreeing_141 ?_
    refine x_if_ge (pc := 144) 163 dX12_readFreeing_144 (by decide) (fun _ => ?_) (fun _ => ?_)
    ·
      refine x_iload_n (pc := 163) 3 dX12_readFreeing_163 rfl rfl ?_
      exact x_iret (rm := r12_readFreeing) rfl rfl dX12_readFreeing_164
    ·
      refine x_aload_n (pc := 147) 0 dX12_readFreeing_147 rfl rfl ?_
      refine x_getI (pc := 148) fd_12_67 tk_1262 dX12_readFreeing_148 ?_
      refine x_aload_n (pc := 151) 0 dX12_readFreeing_151 rfl rfl ?_
      refine x_getI (pc := 152) fd_12_68 tk_1263 dX12_readFreeing_152 ?_
      refine x_icmp_ge (pc := 155) 163 dX12_readFreeing_155 (by decide) (fun _ => ?_) (fun _ => ?_)
      ·
        refine x_iload_n (pc := 163) 3 dX12_readFreeing_163 rfl rfl ?_
        exact x_iret (rm := r12_readFreeing) rfl rfl dX12_readFreeing_164
      ·
        refine x_aload_n (pc := 158) 0 dX12_readFreeing_158 rfl rfl ?_
        refine x_callV (pc := 159) (as := []) (rest := []) (fun l => c_12_wrong l true s35) md_X12_wrong ⟨_, _, rfl, by decide⟩ tk_1753 tp_92 tk_1751 dX12_readFreeing_159 rfl ⟨by decide, by decide, by decide, by decide⟩ ⟨fun _ => rfl, fun _ => Or.inl rfl⟩ rfl (Nat.le_of_ble_eq_true rfl) (fun r36 s37 => ?_)
        show X E _ _ _ _ 0 0 _ _ _ [aI r36] _
        exact x_iret (rm := r12_readFreeing) rfl rfl dX12_readFreeing_162
theorem c_12_readFreeing (l : Launch)  (v1 : Int32) (v2 : Int32) (σ : zSt) : zMet l yX12_readFreeing cX12_readFreeing 8 (some .int) r12_readFreeing true eI [aR 12 (some 0), aI v1, aI v2] σ (f12_readFreeing v1 v2 σ) :=
  zMet_of [(0, aR 12 (some 0)), (1, aI v1), (2, aI v2)] (by decide +kernel) (fun h => by cases h) (Nat.le_of_ble_eq_true rfl) rfl fun E _ => x12_readFreeing E  v1 v2 σ
