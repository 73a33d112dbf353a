abbrev r12_hasKind : Room := { frames := 1, cells := 0, slots := 0, locals := 24 }
abbrev m12_hasKind : zMu := (RX12, 7, (some .boolean), r12_hasKind, false)
set_option maxRecDepth 20000 in
theorem xl12_hasKind_6 (E : zEn)   (h1 : Int32) (h2 : Int32) (h3 : Int32) (σ : zSt)   : ∀ (n : Nat) (v4 : Int32) (v5 : Int32), X E cX12_hasKind m12_hasKind true (zQr E true eI r12_hasKind σ) 0 0 σ [(0, aR 12 (some 0)), (1, aI h1), (2, aI h2), (3, aI h3), (4, aI v4), (5, aI v5)] 6 [] (f12_hasKind_L6 h1 h2 h3 σ n v4 v5) := by
  intro n
  induction n with
  | zero => intros; exact x_none
  | succ n ih =>
    intro v4 v5
    rw [f12_hasKind_L6]
    refine x_iload (pc := 6) 5 dX12_hasKind_6 rfl ?_
    refine x_aload_n (pc := 8) 0 dX12_hasKind_8 rfl rfl ?_
    refine x_getI (pc := 9) fd_12_36 tk_1231 dX12_hasKind_9 ?_
    refine x_icmp_ge (pc := 12) 79 dX12_hasKind_12 (by decide) (fun _ => ?_) (fun _ => ?_)
    ·
      refine x_iload (pc := 79) 4 dX12_hasKind_79 rfl ?_
      exact x_zret (rm := r12_hasKind) rfl rfl dX12_hasKind_81
    ·
      refine x_aload_n (pc := 15) 0 dX12_hasKind_15 rfl rfl ?_
      refine x_getF (pc := 16) (j := 0) fd_12_18 rfl rfl tk_1213 dX12_hasKind_16 ?_
      refine x_iload (pc := 19) 5 dX12_hasKind_19 rfl ?_
      refine x_iald (pc := 21) ar_1318 dX12_hasKind_21 (fun m1 => ?_)
      refine x_iload_n (pc := 22) 1 dX12_hasKind_22 rfl rfl ?_
      refine x_join (P := fun (j3 : Int32 → Option Int32) => ∀ (a2 : Int32), X E cX12_hasKind m12_hasKind true (zQr E true eI r12_hasKind σ) 0 0 σ [(0, aR 12 (some 0)), (1, aI h1), (2, aI h2), (3, aI h3), (4, aI v4), (5, aI v5)] 48 [aI a2] (j3 a2)) ?_ ?_
      · intro a2
        refine x_istore (pc := 48) (als' := [(6, aI a2), (0, aR 12 (some 0)), (1, aI h1), (2, aI h2), (3, aI h3), (4, aI v4), (5, aI v5)]) 6 dX12_hasKind_48 (by decide) rfl ?_
        refine x_iload (pc := 50) 4 dX12_hasKind_50 rfl ?_
        refine x_mg (c := v4 = 0) (a := (if a2 < 0 then 0 else (if a2 = 4 then 0 else 1))) (b := 1) 71 [] ?_ (fun hm5 => ?_)
        ·
          refine x_nameI (fun x15 => ?_)
          refine x_istore (pc := 71) (als' := [(4, aI x15), (6, aI a2), (0, aR 12 (some 0)), (1, aI h1), (2, aI h2), (3, aI h3), (5, aI v5)]) 4 dX12_hasKind_71 (by decide) rfl ?_
          refine x_iinc (pc := 73) (als' := [(5, aI (v5 + 1)), (4, aI x15), (6, aI a2), (0, aR 12 (some 0)), (1, aI h1), (2, aI h2), (3, aI h3)]) 5 6 (c := 1) dX12_hasKind_73 rfl rfl (by decide) rfl ?_
          refine x_nameV (g := fun y17 => [(5, aI y17), (4, aI x15), (6, aI a2), (0, aR 12 (some 0)), (1, aI h1), (2, aI h2), (3, aI h3)]) (fun x16 => ?_) rfl
          refine x_goto (pc := 76) 6 dX12_hasKind_76 (by decide) ?_
          exact x_sub [3, 4, 5, 6, 1, 0] rfl (ih x15 x16)
        ·
          refine x_same (c := v4 = 0) ?_
          refine x_if_ne (pc := 52) 66 dX12_hasKind_52 (by decide) (fun hc6 => ?_) (fun hc6 => ?_)
          ·
            have hm8 := x_topF hc6 hm5
            refine x_iconst (pc := 66) 1 dX12_hasKind_66 rfl ?_
            refine x_goto (pc := 67) 71 dX12_hasKind_67 (by decide) ?_
            exact hm8
          ·
            have hm7 := x_topT hc6 hm5
            refine x_iload (pc := 55) 6 dX12_hasKind_55 rfl ?_
            refine x_same (c := a2 < 0) ?_
            refine x_if_lt (pc := 57) 70 dX12_hasKind_57 (by decide) (fun hc9 => ?_) (fun hc9 => ?_)
            ·
              have hm10 := x_topT hc9 hm7
              refine x_iconst (pc := 70) 0 dX12_hasKind_70 rfl ?_
              exact hm10
            ·
              have hm11 := x_topF hc9 hm7
              refine x_iload (pc := 60) 6 dX12_hasKind_60 rfl ?_
              refine x_iconst (pc := 62) 4 dX12_hasKind_62 rfl ?_
              refine x_same (c := a2 = 4) ?_
              refine x_icmp_eq (pc := 63) 70 dX12_hasKind_63 (by decide) (fun hc12 => ?_) (fun hc12 => ?_)
              ·
                have hm13 := x_topT hc12 hm11
                refine x_iconst (pc := 70) 0 dX12_hasKind_70 rfl ?_
                exact hm13
              ·
                have hm14 := x_topF hc12 hm11
                refine x_iconst (pc := 66) 1 dX12_hasKind_66 rfl ?_
                refine x_goto (pc := 67) 71 dX12_hasKind_67 (by decide) ?_
                exact hm14
      · intro j3 hj4
        refine x_join (P := fun (j18 : Option Int32) => X E cX12_hasKind m12_hasKind true (zQr E true eI r12_hasKind σ) 0 0 σ [(0, aR 12 (some 0)), (1, aI h1), (2, aI h2), (3, aI h3), (4, aI v4), (5, aI v5)] 47 [] j18) ?_ ?_
        ·
          refine x_iconst (pc := 47) (-1) dX12_hasKind_47 rfl ?_
          exact hj4 (-1)
        · intro j18 hj19
          refine x_icmp_ne (pc := 23) 47 dX12_hasKind_23 (by decide) (fun _ => ?_) (fun _ => ?_)
          ·
            exact hj19
          ·
            refine x_aload_n (pc := 26) 0 dX12_hasKind_26 rfl rfl ?_
            refine x_getF (pc := 27) (j := 0) fd_12_20 rfl rfl tk_1215 dX12_hasKind_27 ?_
            refine x_iload (pc := 30) 5 dX12_hasKind_30 rfl ?_
            refine x_iald (pc := 32) ar_1320 dX12_hasKind_32 (fun m20 => ?_)
            refine x_iload_n (pc := 33) 2 dX12_hasKind_33 rfl rfl ?_
            refine x_icmp_ne (pc := 34) 47 dX12_hasKind_34 (by decide) (fun _ => ?_) (fun _ => ?_)
            ·
              exact hj19
            ·
              refine x_aload_n (pc := 37) 0 dX12_hasKind_37 rfl rfl ?_
              refine x_iload (pc := 38) 5 dX12_hasKind_38 rfl ?_
              refine x_iload_n (pc := 40) 3 dX12_hasKind_40 rfl rfl ?_
              refine x_callVr (pc := 41) (as := [aI v5, aI h3]) (rest := []) (fun l => c_12_stateOn l v5 h3 σ) md_X12_stateOn ⟨_, _, rfl, by decide⟩ tk_1492 tp_56 tk_1490 dX12_hasKind_41 rfl ⟨by decide, by decide, by decide, by decide⟩ ⟨fun _ => rfl, fun _ => Or.inl rfl⟩ rfl (Nat.le_of_ble_eq_true rfl) (fun r21 => ?_)
              show X E _ _ _ _ 0 0 _ _ _ [aI r21] _
              refine x_goto (pc := 44) 48 dX12_hasKind_44 (by decide) ?_
              exact hj4 r21
set_option maxRecDepth 20000 in
theorem x12_hasKind (E : zEn)  (v1 : Int32) (v2 : Int32) (v3 : Int32) (σ : zSt) : X E cX12_hasKind m12_hasKind true (zQr E true eI r12_hasKind σ) 0 0 σ [(0, aR 12 (some 0)), (1, aI v1), (2, aI v2), (3, aI v3)] 0 [] (f12_hasKind v1 v2 v3 σ) := by
  unfold f12_hasKind
  refine x_iconst (pc := 0) 0 dX12_hasKind_0 rfl ?_
  refine x_istore (pc := 1) (als' := [(4, aI 0), (0, aR 12 (some 0)), (1, aI v1), (2, aI v2), (3, aI v3)]) 4 dX12_hasKind_1 (by decide) rfl ?_
  refine x_iconst (pc := 3) 0 dX12_hasKind_3 rfl ?_
  refine x_istore (pc := 4) (als' := [(5, aI 0), (4, aI 0), (0, aR 12 (some 0)), (1, aI v1), (2, aI v2), (3, aI v3)]) 5 dX12_hasKind_4 (by decide) rfl ?_
  refine x_sub [2, 3, 4, 5, 1, 0] rfl (xl12_hasKind_6 E v1 v2 v3 σ zfuel 0 0)
theorem c_12_hasKind (l : Launch)  (v1 : Int32) (v2 : Int32) (v3 : Int32) (σ : zSt) : zMet l yX12_hasKind cX12_hasKind 7 (some .boolean) r12_hasKind true eI [aR 12 (some 0), aI v1, aI v2, aI v3] σ (zro (f12_hasKind v1 v2 v3 σ) σ) :=
  zMet_ofR [(0, aR 12 (some 0)), (1, aI v1), (2, aI v2), (3, aI v3)] (by decide +kernel) (fun h => by cases h) (Nat.le_of_ble_eq_true rfl) rfl fun E _ => x12_hasKind E  v1 v2 v3 σ
abbrev r12_findWith : Room := { frames := 2, cells := 0, slots := 0, locals := 50 }
abbrev m12_findWith : zMu := (RX12, 4, none, r12_findWith, false)
set_option maxRecDepth 20000 in
theorem xl12_findWith_7 (E : zEn)   (h1 : Int32) (h2 : Int32)   : ∀ (n : Nat) (v3 : Int32) (σ : zSt), X E cX12_findWith m12_findWith true (zQw E true eV r12_findWith) 0 0 σ [(0, aR 12 (some 0)), (1, aI h1), (2, aI h2), (3, aI v3)] 7 [] (f12_findWith_L7 h1 h2 n v3 σ) := by
  intro n
  induction n with
  | zero => intros; exact x_none
  | succ n ih =>
    intro v3 σ
    rw [f12_findWith_L7]
    refine x_iload_n (pc := 7) 3 dX12_findWith_7 rfl rfl ?_
    refine x_aload_n (pc := 8) 0 dX12_findWith_8 rfl rfl ?_
    refine x_getI (pc := 9) fd_12_13 tk_1208 dX12_findWith_9 ?_
    refine x_icmp_ge (pc := 12) 57 dX12_findWith_12 (by decide) (fun _ => ?_) (fun _ => ?_)
    ·
      exact x_vret (rm := r12_findWith) rfl rfl dX12_findWith_57
    ·
      refine x_aload_n (pc := 15) 0 dX12_findWith_15 rfl rfl ?_
      refine x_getF (pc := 16) (j := 0) fd_12_57 rfl rfl tk_1252 dX12_findWith_16 ?_
      refine x_iload_n (pc := 19) 3 dX12_findWith_19 rfl rfl ?_
      refine x_aload_n (pc := 20) 0 dX12_findWith_20 rfl rfl ?_
      refine x_iload_n (pc := 21) 3 dX12_findWith_21 rfl rfl ?_
      refine x_iload_n (pc := 22) 1 dX12_findWith_22 rfl rfl ?_
      refine x_iload_n (pc := 23) 2 dX12_findWith_23 rfl rfl ?_
      refine x_callVr (pc := 24) (as := [aI v3, aI h1, aI h2]) (rest := [aI v3, aR 1357 (some 0)]) (fun l => c_12_hasKind l v3 h1 h2 σ) md_X12_hasKind ⟨_, _, rfl, by decide⟩ tk_1613 tp_72 tk_1611 dX12_findWith_24 rfl ⟨by decide, by decide, by decide, by decide⟩ ⟨fun _ => rfl, fun _ => Or.inl rfl⟩ rfl (Nat.le_of_ble_eq_true rfl) (fun r2 => ?_)
      show X E _ _ _ _ 0 0 _ _ _ [aI r2, aI v3, aR 1357 (some 0)] _
      refine x_zast (pc := 27) ar_1357 dX12_findWith_27 (fun m3 => ?_)
      refine x_nameS (fun s4 => ?_)
      refine x_aload_n (pc := 28) 0 dX12_findWith_28 rfl rfl ?_
      refine x_dup (pc := 29) dX12_findWith_29 rfl ?_
      refine x_getI (pc := 30) fd_12_58 tk_1253 dX12_findWith_30 ?_
      refine x_aload_n (pc := 33) 0 dX12_findWith_33 rfl rfl ?_
      refine x_getF (pc := 34) (j := 0) fd_12_57 rfl rfl tk_1252 dX12_findWith_34 ?_
      refine x_iload_n (pc := 37) 3 dX12_findWith_37 rfl rfl ?_
      refine x_zald (pc := 38) ar_1357 dX12_findWith_38 (fun m5 => ?_)
      refine x_mg (c := (gI s4 1357 0 m5) = 0) (a := 0) (b := 1) 47 [aI (gI s4 12 0 58), aR 12 (some 0)] ?_ (fun hm6 => ?_)
      ·
        refine x_iadd (pc := 47) dX12_findWith_47 ?_
        refine x_putI (pc := 48) fd_12_58 pt_12_58 tk_1253 dX12_findWith_48 (Or.inl rfl) ?_
        refine x_nameS (fun s10 => ?_)
        refine x_iinc (pc := 51) (als' := [(3, aI (v3 + 1)), (0, aR 12 (some 0)), (1, aI h1), (2, aI h2)]) 3 3 (c := 1) dX12_findWith_51 rfl rfl (by decide) rfl ?_
        refine x_nameV (g := fun y12 => [(3, aI y12), (0, aR 12 (some 0)), (1, aI h1), (2, aI h2)]) (fun x11 => ?_) rfl
        refine x_goto (pc := 54) 7 dX12_findWith_54 (by decide) ?_
        exact x_sub [1, 2, 3, 0] rfl (ih x11 s10)
      ·
        refine x_same (c := (gI s4 1357 0 m5) = 0) ?_
        refine x_if_eq (pc := 39) 46 dX12_findWith_39 (by decide) (fun hc7 => ?_) (fun hc7 => ?_)
        ·
          have hm8 := x_topT hc7 hm6
          refine x_iconst (pc := 46) 0 dX12_findWith_46 rfl ?_
          exact hm8
        ·
          have hm9 := x_topF hc7 hm6
          refine x_iconst (pc := 42) 1 dX12_findWith_42 rfl ?_
          refine x_goto (pc := 43) 47 dX12_findWith_43 (by decide) ?_
          exact hm9
set_option maxRecDepth 20000 in
theorem x12_findWith (E : zEn)  (v1 : Int32) (v2 : Int32) (σ : zSt) : X E cX12_findWith m12_findWith true (zQw E true eV r12_findWith) 0 0 σ [(0, aR 12 (some 0)), (1, aI v1), (2, aI v2)] 0 [] (f12_findWith v1 v2 σ) := by
  unfold f12_findWith
  refine x_aload_n (pc := 0) 0 dX12_findWith_0 rfl rfl ?_
  refine x_iconst (pc := 1) 0 dX12_findWith_1 rfl ?_
  refine x_putI (pc := 2) fd_12_58 pt_12_58 tk_1253 dX12_findWith_2 (Or.inl rfl) ?_
  refine x_nameS (fun s1 => ?_)
  refine x_iconst (pc := 5) 0 dX12_findWith_5 rfl ?_
  refine x_istore_n (pc := 6) (als' := [(3, aI 0), (0, aR 12 (some 0)), (1, aI v1), (2, aI v2)]) 3 dX12_findWith_6 rfl (by decide) rfl ?_
  refine x_sub [1, 2, 3, 0] rfl (xl12_findWith_7 E v1 v2 zfuel 0 s1)
theorem c_12_findWith (l : Launch)  (v1 : Int32) (v2 : Int32) (σ : zSt) : zMet l yX12_findWith cX12_findWith 4 none r12_findWith true eV [aR 12 (some 0), aI v1, aI v2] σ (f12_findWith v1 v2 σ) :=
  zMet_of [(0, aR 12 (some 0)), (1, aI v1), (2, aI v2)] (by decide +kernel) (fun h => by cases h) (Nat.le_of_ble_eq_true rfl) rfl fun E _ => x12_findWith E  v1 v2 σ
abbrev r12_sizeOf : Room := { frames := 1, cells := 0, slots := 0, locals := 24 }
abbrev m12_sizeOf : zMu := (RX12, 6, (some .int), r12_sizeOf, false)
set_option maxRecDepth 20000 in
theorem xl12_sizeOf_6 (E : zEn)   (h1 : Int32) (h2 : Int32) (h3 : Int32) (σ : zSt)   : ∀ (n : Nat) (v4 : Int32) (v5 : Int32), X E cX12_sizeOf m12_sizeOf true (zQr E true eI r12_sizeOf σ) 0 0 σ [(0, aR 12 (some 0)), (1, aI h1), (2, aI h2), (3, aI h3), (4, aI v4), (5, aI v5)] 6 [] (f12_sizeOf_L6 h1 h2 h3 σ n v4 v5) := by
  intro n
  induction n with
  | zero => intros; exact x_none
  | succ n ih =>
    intro v4 v5
    rw [f12_sizeOf_L6]
    refine x_iload (pc := 6) 5 dX12_sizeOf_6 rfl ?_
    refine x_aload_n (pc := 8) 0 dX12_sizeOf_8 rfl rfl ?_
    refine x_getI (pc := 9) fd_12_13 tk_1208 dX12_sizeOf_9 ?_
    refine x_icmp_ge (pc := 12) 56 dX12_sizeOf_12 (by decide) (fun _ => ?_) (fun _ => ?_)
    ·
      refine x_iload (pc := 56) 4 dX12_sizeOf_56 rfl ?_
      exact x_iret (rm := r12_sizeOf) rfl rfl dX12_sizeOf_58
    ·
      refine x_iload (pc := 15) 4 dX12_sizeOf_15 rfl ?_
      refine x_aload_n (pc := 17) 0 dX12_sizeOf_17 rfl rfl ?_
      refine x_iload (pc := 18) 5 dX12_sizeOf_18 rfl ?_
      refine x_iload_n (pc := 20) 1 dX12_sizeOf_20 rfl rfl ?_
      refine x_iload_n (pc := 21) 2 dX12_sizeOf_21 rfl rfl ?_
      refine x_callVr (pc := 22) (as := [aI v5, aI h1, aI h2]) (rest := [aI v4]) (fun l => c_12_isIn l v5 h1 h2 σ) md_X12_isIn ⟨_, _, rfl, by decide⟩ tk_1621 tp_74 tk_1619 dX12_sizeOf_22 rfl ⟨by decide, by decide, by decide, by decide⟩ ⟨fun _ => rfl, fun _ => Or.inl rfl⟩ rfl (Nat.le_of_ble_eq_true rfl) (fun r1 => ?_)
      show X E _ _ _ _ 0 0 _ _ _ [aI r1, aI v4] _
      refine x_join (P := fun (j3 : Int32 → Option Int32) => ∀ (a2 : Int32), X E cX12_sizeOf m12_sizeOf true (zQr E true eI r12_sizeOf σ) 0 0 σ [(0, aR 12 (some 0)), (1, aI h1), (2, aI h2), (3, aI h3), (5, aI v5)] 47 [aI a2, aI v4] (j3 a2)) ?_ ?_
      · intro a2
        refine x_iadd (pc := 47) dX12_sizeOf_47 ?_
        refine x_nameI (fun x5 => ?_)
        refine x_istore (pc := 48) (als' := [(4, aI x5), (0, aR 12 (some 0)), (1, aI h1), (2, aI h2), (3, aI h3), (5, aI v5)]) 4 dX12_sizeOf_48 (by decide) rfl ?_
        refine x_iinc (pc := 50) (als' := [(5, aI (v5 + 1)), (4, aI x5), (0, aR 12 (some 0)), (1, aI h1), (2, aI h2), (3, aI h3)]) 5 5 (c := 1) dX12_sizeOf_50 rfl rfl (by decide) rfl ?_
        refine x_nameV (g := fun y7 => [(5, aI y7), (4, aI x5), (0, aR 12 (some 0)), (1, aI h1), (2, aI h2), (3, aI h3)]) (fun x6 => ?_) rfl
        refine x_goto (pc := 53) 6 dX12_sizeOf_53 (by decide) ?_
        exact x_sub [2, 3, 4, 5, 1, 0] rfl (ih x5 x6)
      · intro j3 hj4
        refine x_join (P := fun (j8 : Option Int32) => X E cX12_sizeOf m12_sizeOf true (zQr E true eI r12_sizeOf σ) 0 0 σ [(0, aR 12 (some 0)), (1, aI h1), (2, aI h2), (3, aI h3), (5, aI v5)] 46 [aI v4] j8) ?_ ?_
        ·
          refine x_iconst (pc := 46) 0 dX12_sizeOf_46 rfl ?_
          exact hj4 0
        · intro j8 hj9
          refine x_if_eq (pc := 25) 46 dX12_sizeOf_25 (by decide) (fun _ => ?_) (fun _ => ?_)
          ·
            exact x_sub [0, 1, 2, 3, 5] rfl (hj9)
          ·
            refine x_iload_n (pc := 28) 3 dX12_sizeOf_28 rfl rfl ?_
            refine x_join (P := fun (j10 : Option Int32) => X E cX12_sizeOf m12_sizeOf true (zQr E true eI r12_sizeOf σ) 0 0 σ [(0, aR 12 (some 0)), (1, aI h1), (2, aI h2), (3, aI h3), (5, aI v5)] 42 [aI v4] j10) ?_ ?_
            ·
              refine x_iconst (pc := 42) 1 dX12_sizeOf_42 rfl ?_
              refine x_goto (pc := 43) 47 dX12_sizeOf_43 (by decide) ?_
              exact hj4 1
            · intro j10 hj11
              refine x_if_eq (pc := 29) 42 dX12_sizeOf_29 (by decide) (fun _ => ?_) (fun _ => ?_)
              ·
                exact x_sub [0, 1, 2, 3, 5] rfl (hj11)
              ·
                refine x_aload_n (pc := 32) 0 dX12_sizeOf_32 rfl rfl ?_
                refine x_getF (pc := 33) (j := 0) fd_12_57 rfl rfl tk_1252 dX12_sizeOf_33 ?_
                refine x_iload (pc := 36) 5 dX12_sizeOf_36 rfl ?_
                refine x_zald (pc := 38) ar_1357 dX12_sizeOf_38 (fun m12 => ?_)
                refine x_if_eq (pc := 39) 46 dX12_sizeOf_39 (by decide) (fun _ => ?_) (fun _ => ?_)
                ·
                  exact x_sub [0, 1, 2, 3, 5] rfl (hj9)
                ·
                  exact x_sub [0, 1, 2, 3, 5] rfl (hj11)
set_option maxRecDepth 20000 in
theorem x12_sizeOf (E : zEn)  (v1 : Int32) (v2 : Int32) (v3 : Int32) (σ : zSt) : X E cX12_sizeOf m12_sizeOf true (zQr E true eI r12_sizeOf σ) 0 0 σ [(0, aR 12 (some 0)), (1, aI v1), (2, aI v2), (3, aI v3)] 0 [] (f12_sizeOf v1 v2 v3 σ) := by
  unfold f12_sizeOf
  refine x_iconst (pc := 0) 0 dX12_sizeOf_0 rfl ?_
  refine x_istore (pc := 1) (als' := [(4, aI 0), (0, aR 12 (some 0)), (1, aI v1), (2, aI v2), (3, aI v3)]) 4 dX12_sizeOf_1 (by decide) rfl ?_
  refine x_iconst (pc := 3) 0 dX12_sizeOf_3 rfl ?_
  refine x_istore (pc := 4) (als' := [(5, aI 0), (4, aI 0), (0, aR 12 (some 0)), (1, aI v1), (2, aI v2), (3, aI v3)]) 5 dX12_sizeOf_4 (by decide) rfl ?_
  refine x_sub [2, 3, 4, 5, 1, 0] rfl (xl12_sizeOf_6 E v1 v2 v3 σ zfuel 0 0)
theorem c_12_sizeOf (l : Launch)  (v1 : Int32) (v2 : Int32) (v3 : Int32) (σ : zSt) : zMet l yX12_sizeOf cX12_sizeOf 6 (some .int) r12_sizeOf true eI [aR 12 (some 0), aI v1, aI v2, aI v3] σ (zro (f12_sizeOf v1 v2 v3 σ) σ) :=
  zMet_ofR [(0, aR 12 (some 0)), (1, aI v1), (2, aI v2), (3, aI v3)] (by decide +kernel) (fun h => by cases h) (Nat.le_of_ble_eq_true rfl) rfl fun E _ => x12_sizeOf E  v1 v2 v3 σ
abbrev r12_joined : Room := { frames := 3, cells := 0, slots := 0, locals := 73 }
abbrev m12_joined : zMu := (RX12, 5, (some .int), r12_joined, false)
set_option maxRecDepth 20000 in
theorem x12_joined (E : zEn)  (v1 : Int32) (v2 : Int32) (v3 : Int32) (v4 : Int32) (σ : zSt) : X E cX12_joined m12_joined true (zQw E true eI r12_joined) 0 0 σ [(0, aR 12 (some 0)), (1, aI v1), (2, aI v2), (3, aI v3), (4, aI v4)] 0 [] (f12_joined v1 v2 v3 v4 σ) := by
  unfold f12_joined
  refine x_aload_n (pc := 0) 0 dX12_joined_0 rfl rfl ?_
  refine x_iload_n (pc := 1) 1 dX12_joined_1 rfl rfl ?_
  refine x_callVr (pc := 2) (as := [aI v1]) (rest := []) (fun l => c_12_isKind l true v1 σ) md_X12_isKind ⟨_, _, rfl, by decide⟩ tk_1516 tp_60 tk_1514 dX12_joined_2 rfl ⟨by decide, by decide, by decide, by decide⟩ ⟨fun _ => rfl, fun _ => Or.inl rfl⟩ rfl (Nat.le_of_ble_eq_true rfl) (fun r1 => ?_)
  show X E _ _ _ _ 0 0 _ _ _ [aI r1] _
  refine x_if_eq (pc := 5) 32 dX12_joined_5 (by decide) (fun _ => ?_) (fun _ => ?_)
  ·
    refine x_iconst (pc := 32) (-1) dX12_joined_32 rfl ?_
    exact x_iret (rm := r12_joined) rfl rfl dX12_joined_33
  ·
    refine x_iload_n (pc := 8) 2 dX12_joined_8 rfl rfl ?_
    refine x_callSr (pc := 9) (as := [aI v2]) (rest := []) (fun l => c_12_isGroup l true v2 σ) md_X12_isGroup tk_1605 tk_1604 dX12_joined_9 rfl ⟨by decide, by decide, by decide, by decide⟩ ⟨fun _ => rfl, fun _ => Or.inl rfl⟩ rfl (Nat.le_of_ble_eq_true rfl) (fun r2 => ?_)
    show X E _ _ _ _ 0 0 _ _ _ [aI r2] _
    refine x_if_eq (pc := 12) 32 dX12_joined_12 (by decide) (fun _ => ?_) (fun _ => ?_)
    ·
      refine x_iconst (pc := 32) (-1) dX12_joined_32 rfl ?_
      exact x_iret (rm := r12_joined) rfl rfl dX12_joined_33
    ·
      refine x_iload_n (pc := 15) 3 dX12_joined_15 rfl rfl ?_
      refine x_callSr (pc := 16) (as := [aI v3]) (rest := []) (fun l => c_12_isDay l true v3 σ) md_X12_isDay tk_1566 tk_1565 dX12_joined_16 rfl ⟨by decide, by decide, by decide, by decide⟩ ⟨fun _ => rfl, fun _ => Or.inl rfl⟩ rfl (Nat.le_of_ble_eq_true rfl) (fun r3 => ?_)
      show X E _ _ _ _ 0 0 _ _ _ [aI r3] _
      refine x_if_eq (pc := 19) 32 dX12_joined_19 (by decide) (fun _ => ?_) (fun _ => ?_)
      ·
        refine x_iconst (pc := 32) (-1) dX12_joined_32 rfl ?_
        exact x_iret (rm := r12_joined) rfl rfl dX12_joined_33
      ·
        refine x_iload (pc := 22) 4 dX12_joined_22 rfl ?_
        refine x_iconst (pc := 24) 0 dX12_joined_24 rfl ?_
        refine x_iconst (pc := 25) 2 dX12_joined_25 rfl ?_
        refine x_callSr (pc := 26) (as := [aI v4, aI 0, aI 2]) (rest := []) (fun l => c_12_within l true v4 0 2 σ) md_X12_within tk_1447 tk_1446 dX12_joined_26 rfl ⟨by decide, by decide, by decide, by decide⟩ ⟨fun _ => rfl, fun _ => Or.inl rfl⟩ rfl (Nat.le_of_ble_eq_true rfl) (fun r4 => ?_)
        show X E _ _ _ _ 0 0 _ _ _ [aI r4] _
        refine x_if_ne (pc := 29) 34 dX12_joined_29 (by decide) (fun _ => ?_) (fun _ => ?_)
        ·
          refine x_aload_n (pc := 34) 0 dX12_joined_34 rfl rfl ?_
          refine x_iload_n (pc := 35) 1 dX12_joined_35 rfl rfl ?_
          refine x_iload_n (pc := 36) 3 dX12_joined_36 rfl rfl ?_
          refine x_callV (pc := 37) (as := [aI v1, aI v3]) (rest := []) (fun l => c_12_findWith l v1 v3 σ) md_X12_findWith ⟨_, _, rfl, by decide⟩ tk_1609 tp_71 tk_1607 dX12_joined_37 rfl ⟨by decide, by decide, by decide, by decide⟩ ⟨fun _ => rfl, fun _ => Or.inl rfl⟩ rfl (Nat.le_of_ble_eq_true rfl) (fun _ s6 => ?_)
          show X E _ _ _ _ 0 0 _ _ _ [] _
          refine x_iload (pc := 40) 4 dX12_joined_40 rfl ?_
          refine x_if_ne (pc := 42) 52 dX12_joined_42 (by decide) (fun _ => ?_) (fun _ => ?_)
          ·
            refine x_aload_n (pc := 52) 0 dX12_joined_52 rfl rfl ?_
            refine x_iload_n (pc := 53) 2 dX12_joined_53 rfl rfl ?_
            refine x_iload_n (pc := 54) 1 dX12_joined_54 rfl rfl ?_
            refine x_iload (pc := 55) 4 dX12_joined_55 rfl ?_
            refine x_iconst (pc := 57) 1 dX12_joined_57 rfl ?_
            refine x_mg (c := v4 = 1) (a := 1) (b := 0) 66 [aI v1, aI v2, aR 12 (some 0)] ?_ (fun hm7 => ?_)
            ·
              refine x_callVr (pc := 66) (as := [aI v2, aI v1, aI (if v4 = 1 then 1 else 0)]) (rest := []) (fun l => c_12_sizeOf l v2 v1 (if v4 = 1 then 1 else 0) s6) md_X12_sizeOf ⟨_, _, rfl, by decide⟩ tk_1617 tp_73 tk_1615 dX12_joined_66 rfl ⟨by decide, by decide, by decide, by decide⟩ ⟨fun _ => rfl, fun _ => Or.inl rfl⟩ rfl (Nat.le_of_ble_eq_true rfl) (fun r11 => ?_)
              show X E _ _ _ _ 0 0 _ _ _ [aI r11] _
              exact x_iret (rm := r12_joined) rfl rfl dX12_joined_69
            ·
              refine x_same (c := v4 = 1) ?_
              refine x_icmp_ne (pc := 58) 65 dX12_joined_58 (by decide) (fun hc8 => ?_) (fun hc8 => ?_)
              ·
                have hm10 := x_topF hc8 hm7
                refine x_iconst (pc := 65) 0 dX12_joined_65 rfl ?_
                exact hm10
              ·
                have hm9 := x_topT hc8 hm7
                refine x_iconst (pc := 61) 1 dX12_joined_61 rfl ?_
                refine x_goto (pc := 62) 66 dX12_joined_62 (by decide) ?_
                exact hm9
          ·
            refine x_aload_n (pc := 45) 0 dX12_joined_45 rfl rfl ?_
            refine x_getI (pc := 46) fd_12_58 tk_1253 dX12_joined_46 ?_
            refine x_goto (pc := 49) 69 dX12_joined_49 (by decide) ?_
            exact x_iret (rm := r12_joined) rfl rfl dX12_joined_69
        ·
          refine x_iconst (pc := 32) (-1) dX12_joined_32 rfl ?_
          exact x_iret (rm := r12_joined) rfl rfl dX12_joined_33
theorem c_12_joined (l : Launch)  (v1 : Int32) (v2 : Int32) (v3 : Int32) (v4 : Int32) (σ : zSt) : zMet l yX12_joined cX12_joined 5 (some .int) r12_joined true eI [aR 12 (some 0), aI v1, aI v2, aI v3, aI v4] σ (f12_joined v1 v2 v3 v4 σ) :=
  zMet_of [(0, aR 12 (some 0)), (1, aI v1), (2, aI v2), (3, aI v3), (4, aI v4)] (by decide +kernel) (fun h => by cases h) (Nat.le_of_ble_eq_true rfl) rfl fun E _ => x12_joined E  v1 v2 v3 v4 σ
abbrev r12_choose : Room := { frames := 0, cells := 0, slots := 0, locals := 0 }
abbrev m12_choose : zMu := (RX12, 5, (some .long), r12_choose, false)
set_option maxRecDepth 20000 in
theorem xl12_choose_16 (E : zEn)  (q : Bool) (h0 : Int32) (h1 : Int32) (σ : zSt)   : ∀ (n : Nat) (v2 : Int64) (v4 : Int32), X E cX12_choose m12_choose q (zQr E q eL r12_choose σ) 0 0 σ [(0, aI h0), (1, aI h1), (2, aL v2), (4, aI v4)] 16 [] (f12_choose_L16 h0 h1 σ n v2 v4) := by
  intro n
  induction n with
  | zero => intros; exact x_none
  | succ n ih =>
    intro v2 v4
    rw [f12_choose_L16]
    refine x_iload (pc := 16) 4 dX12_choose_16 rfl ?_
    refine x_iload_n (pc := 18) 1 dX12_choose_18 rfl rfl ?_
    refine x_icmp_ge (pc := 19) 42 dX12_choose_19 (by decide) (fun _ => ?_) (fun _ => ?_)
    ·
      refine x_lload_n (pc := 42) 2 dX12_choose_42 rfl rfl ?_
      exact x_lret (rm := r12_choose) rfl rfl dX12_choose_43
    ·
      refine x_lload_n (pc := 22) 2 dX12_choose_22 rfl rfl ?_
      refine x_iload_n (pc := 23) 0 dX12_choose_23 rfl rfl ?_
      refine x_iload (pc := 24) 4 dX12_choose_24 rfl ?_
      refine x_isub (pc := 26) dX12_choose_26 ?_
      refine x_i2l (pc := 27) dX12_choose_27 ?_
      refine x_lmul (pc := 28) dX12_choose_28 ?_
      refine x_iload (pc := 29) 4 dX12_choose_29 rfl ?_
      refine x_iconst (pc := 31) 1 dX12_choose_31 rfl ?_
      refine x_iadd (pc := 32) dX12_choose_32 ?_
      refine x_i2l (pc := 33) dX12_choose_33 ?_
      refine x_ldiv (pc := 34) dX12_choose_34 ?_
      refine x_nameL (fun l1 => ?_)
      refine x_lstore_n (pc := 35) (als' := [(2, aL l1), (0, aI h0), (1, aI h1), (4, aI v4)]) 2 dX12_choose_35 rfl (by decide) rfl ?_
      refine x_iinc (pc := 36) (als' := [(4, aI (v4 + 1)), (2, aL l1), (0, aI h0), (1, aI h1)]) 4 3 (c := 1) dX12_choose_36 rfl rfl (by decide) rfl ?_
      refine x_nameV (g := fun y3 => [(4, aI y3), (2, aL l1), (0, aI h0), (1, aI h1)]) (fun x2 => ?_) rfl
      refine x_goto (pc := 39) 16 dX12_choose_39 (by decide) ?_
      exact x_sub [2, 3, 1, 0] rfl (ih l1 x2)
set_option maxRecDepth 20000 in
theorem x12_choose (E : zEn)  (q : Bool) (v0 : Int32) (v1 : Int32) (σ : zSt) : X E cX12_choose m12_choose q (zQr E q eL r12_choose σ) 0 0 σ [(0, aI v0), (1, aI v1)] 0 [] (f12_choose v0 v1 σ) := by
  unfold f12_choose
  refine x_iload_n (pc := 0) 1 dX12_choose_0 rfl rfl ?_
  refine x_if_lt (pc := 1) 9 dX12_choose_1 (by decide) (fun _ => ?_) (fun _ => ?_)
  ·
    refine x_lconst (pc := 9) 0 dX12_choose_9 rfl ?_
    exact x_lret (rm := r12_choose) rfl rfl dX12_choose_10
  ·
    refine x_iload_n (pc := 4) 1 dX12_choose_4 rfl rfl ?_
    refine x_iload_n (pc := 5) 0 dX12_choose_5 rfl rfl ?_
    refine x_icmp_le (pc := 6) 11 dX12_choose_6 (by decide) (fun _ => ?_) (fun _ => ?_)
    ·
      refine x_lconst (pc := 11) 1 dX12_choose_11 rfl ?_
      refine x_lstore_n (pc := 12) (als' := [(2, aL 1), (0, aI v0), (1, aI v1)]) 2 dX12_choose_12 rfl (by decide) rfl ?_
      refine x_iconst (pc := 13) 0 dX12_choose_13 rfl ?_
      refine x_istore (pc := 14) (als' := [(4, aI 0), (2, aL 1), (0, aI v0), (1, aI v1)]) 4 dX12_choose_14 (by decide) rfl ?_
      refine x_sub [2, 3, 1, 0] rfl (xl12_choose_16 E q v0 v1 σ zfuel 1 0)
    ·
      refine x_lconst (pc := 9) 0 dX12_choose_9 rfl ?_
      exact x_lret (rm := r12_choose) rfl rfl dX12_choose_10
theorem c_12_choose (l : Launch)  (q : Bool) (v0 : Int32) (v1 : Int32) (σ : zSt) : zMet l yX12_choose cX12_choose 5 (some .long) r12_choose q eL [aI v0, aI v1] σ (zro (f12_choose v0 v1 σ) σ) :=
  zMet_ofR [(0, aI v0), (1, aI v1)] (by decide +kernel) (fun h => by cases h) (Nat.le_of_ble_eq_true rfl) rfl fun E _ => x12_choose E  q v0 v1 σ
abbrev r12_chanceOf : Room := { frames := 2, cells := 0, slots := 0, locals := 49 }
abbrev m12_chanceOf : zMu := (RX12, 8, (some .int), r12_chanceOf, false)
set_option maxRecDepth 20000 in
theorem xl12_chanceOf_28 (E : zEn)   (h3 : Int32) (σ : zSt) {K80 : Int64 → Option Int32} (hK80 : ∀ (v4 : Int64), X E cX12_chanceOf m12_chanceOf true (zQr E true eI r12_chanceOf σ) 0 0 σ [(0, aR 12 (some 0)), (3, aI h3), (4, aL v4)] 80 [] (K80 v4)) : ∀ (n : Nat) (v4 : Int64) (v6 : Int32), X E cX12_chanceOf m12_chanceOf true (zQr E true eI r12_chanceOf σ) 0 0 σ [(0, aR 12 (some 0)), (3, aI h3), (4, aL v4), (6, aI v6)] 28 [] (f12_chanceOf_L28 h3 σ K80 n v4 v6) := by
  intro n
  induction n with
  | zero => intros; exact x_none
  | succ n ih =>
    intro v4 v6
    rw [f12_chanceOf_L28]
    refine x_iload (pc := 28) 6 dX12_chanceOf_28 rfl ?_
    refine x_aload_n (pc := 30) 0 dX12_chanceOf_30 rfl rfl ?_
    refine x_getI (pc := 31) fd_12_58 tk_1253 dX12_chanceOf_31 ?_
    refine x_icmp_gt (pc := 34) 80 dX12_chanceOf_34 (by decide) (fun _ => ?_) (fun _ => ?_)
    ·
      exact x_sub [0, 1, 2] rfl (hK80 v4)
    ·
      refine x_iload (pc := 37) 6 dX12_chanceOf_37 rfl ?_
      refine x_iload_n (pc := 39) 3 dX12_chanceOf_39 rfl rfl ?_
      refine x_icmp_gt (pc := 40) 80 dX12_chanceOf_40 (by decide) (fun _ => ?_) (fun _ => ?_)
      ·
        exact x_sub [0, 1, 2] rfl (hK80 v4)
      ·
        refine x_lload (pc := 43) 4 dX12_chanceOf_43 rfl ?_
        refine x_aload_n (pc := 45) 0 dX12_chanceOf_45 rfl rfl ?_
        refine x_getI (pc := 46) fd_12_58 tk_1253 dX12_chanceOf_46 ?_
        refine x_iload (pc := 49) 6 dX12_chanceOf_49 rfl ?_
        refine x_callSr (pc := 51) (as := [aI (gI σ 12 0 58), aI v6]) (rest := [aL v4]) (fun l => c_12_choose l true (gI σ 12 0 58) v6 σ) md_X12_choose tk_1632 tk_1631 dX12_chanceOf_51 rfl ⟨by decide, by decide, by decide, by decide⟩ ⟨fun _ => rfl, fun _ => Or.inl rfl⟩ rfl (Nat.le_of_ble_eq_true rfl) (fun r3 => ?_)
        show X E _ _ _ _ 0 0 _ _ _ [aL r3, aL v4] _
        refine x_aload_n (pc := 54) 0 dX12_chanceOf_54 rfl rfl ?_
        refine x_getI (pc := 55) fd_12_13 tk_1208 dX12_chanceOf_55 ?_
        refine x_aload_n (pc := 58) 0 dX12_chanceOf_58 rfl rfl ?_
        refine x_getI (pc := 59) fd_12_58 tk_1253 dX12_chanceOf_59 ?_
        refine x_isub (pc := 62) dX12_chanceOf_62 ?_
        refine x_iload_n (pc := 63) 3 dX12_chanceOf_63 rfl rfl ?_
        refine x_iload (pc := 64) 6 dX12_chanceOf_64 rfl ?_
        refine x_isub (pc := 66) dX12_chanceOf_66 ?_
        refine x_callSr (pc := 67) (as := [aI ((gI σ 12 0 13) - (gI σ 12 0 58)), aI (h3 - v6)]) (rest := [aL r3, aL v4]) (fun l => c_12_choose l true ((gI σ 12 0 13) - (gI σ 12 0 58)) (h3 - v6) σ) md_X12_choose tk_1632 tk_1631 dX12_chanceOf_67 rfl ⟨by decide, by decide, by decide, by decide⟩ ⟨fun _ => rfl, fun _ => Or.inl rfl⟩ rfl (Nat.le_of_ble_eq_true rfl) (fun r4 => ?_)
        show X E _ _ _ _ 0 0 _ _ _ [aL r4, aL r3, aL v4] _
        refine x_lmul (pc := 70) dX12_chanceOf_70 ?_
        refine x_ladd (pc := 71) dX12_chanceOf_71 ?_
        refine x_nameL (fun l5 => ?_)
        refine x_lstore (pc := 72) (als' := [(4, aL l5), (0, aR 12 (some 0)), (3, aI h3), (6, aI v6)]) 4 dX12_chanceOf_72 (by decide) rfl ?_
        refine x_iinc (pc := 74) (als' := [(6, aI (v6 + 1)), (4, aL l5), (0, aR 12 (some 0)), (3, aI h3)]) 6 3 (c := 1) dX12_chanceOf_74 rfl rfl (by decide) rfl ?_
        refine x_nameV (g := fun y7 => [(6, aI y7), (4, aL l5), (0, aR 12 (some 0)), (3, aI h3)]) (fun x6 => ?_) rfl
        refine x_goto (pc := 77) 28 dX12_chanceOf_77 (by decide) ?_
        exact x_sub [2, 3, 1, 0] rfl (ih l5 x6)
set_option maxRecDepth 20000 in
theorem x12_chanceOf (E : zEn)  (v1 : Int32) (v2 : Int32) (σ : zSt) : X E cX12_chanceOf m12_chanceOf true (zQr E true eI r12_chanceOf σ) 0 0 σ [(0, aR 12 (some 0)), (1, aI v1), (2, aI v2)] 0 [] (f12_chanceOf v1 v2 σ) := by
  unfold f12_chanceOf
  refine x_aload_n (pc := 0) 0 dX12_chanceOf_0 rfl rfl ?_
  refine x_iload_n (pc := 1) 1 dX12_chanceOf_1 rfl rfl ?_
  refine x_iload_n (pc := 2) 2 dX12_chanceOf_2 rfl rfl ?_
  refine x_iconst (pc := 3) 0 dX12_chanceOf_3 rfl ?_
  refine x_callVr (pc := 4) (as := [aI v1, aI v2, aI 0]) (rest := []) (fun l => c_12_sizeOf l v1 v2 0 σ) md_X12_sizeOf ⟨_, _, rfl, by decide⟩ tk_1617 tp_73 tk_1615 dX12_chanceOf_4 rfl ⟨by decide, by decide, by decide, by decide⟩ ⟨fun _ => rfl, fun _ => Or.inl rfl⟩ rfl (Nat.le_of_ble_eq_true rfl) (fun r1 => ?_)
  show X E _ _ _ _ 0 0 _ _ _ [aI r1] _
  refine x_istore_n (pc := 7) (als' := [(3, aI r1), (0, aR 12 (some 0)), (1, aI v1), (2, aI v2)]) 3 dX12_chanceOf_7 rfl (by decide) rfl ?_
  refine x_iload_n (pc := 8) 3 dX12_chanceOf_8 rfl rfl ?_
  refine x_if_ne (pc := 9) 16 dX12_chanceOf_9 (by decide) (fun _ => ?_) (fun _ => ?_)
  ·
    refine x_lconst (pc := 16) 0 dX12_chanceOf_16 rfl ?_
    refine x_lstore (pc := 17) (als' := [(4, aL 0), (3, aI r1), (0, aR 12 (some 0)), (1, aI v1), (2, aI v2)]) 4 dX12_chanceOf_17 (by decide) rfl ?_
    refine x_aload_n (pc := 19) 0 dX12_chanceOf_19 rfl rfl ?_
    refine x_iload_n (pc := 20) 1 dX12_chanceOf_20 rfl rfl ?_
    refine x_iload_n (pc := 21) 2 dX12_chanceOf_21 rfl rfl ?_
    refine x_iconst (pc := 22) 1 dX12_chanceOf_22 rfl ?_
    refine x_callVr (pc := 23) (as := [aI v1, aI v2, aI 1]) (rest := []) (fun l => c_12_sizeOf l v1 v2 1 σ) md_X12_sizeOf ⟨_, _, rfl, by decide⟩ tk_1617 tp_73 tk_1615 dX12_chanceOf_23 rfl ⟨by decide, by decide, by decide, by decide⟩ ⟨fun _ => rfl, fun _ => Or.inl rfl⟩ rfl (Nat.le_of_ble_eq_true rfl) (fun r2 => ?_)
    show X E _ _ _ _ 0 0 _ _ _ [aI r2] _
    refine x_istore (pc := 26) (als' := [(6, aI r2), (4, aL 0), (3, aI r1), (0, aR 12 (some 0)), (1, aI v1), (2, aI v2)]) 6 dX12_chanceOf_26 (by decide) rfl ?_
    refine x_sub [3, 2, 1, 0] rfl (xl12_chanceOf_28 E r1 σ (fun a8 => ?_) zfuel 0 r2)
    ·
      refine x_aload_n (pc := 80) 0 dX12_chanceOf_80 rfl rfl ?_
      refine x_getI (pc := 81) fd_12_13 tk_1208 dX12_chanceOf_81 ?_
      refine x_iload_n (pc := 84) 3 dX12_chanceOf_84 rfl rfl ?_
      refine x_callSr (pc := 85) (as := [aI (gI σ 12 0 13), aI r1]) (rest := []) (fun l => c_12_choose l true (gI σ 12 0 13) r1 σ) md_X12_choose tk_1632 tk_1631 dX12_chanceOf_85 rfl ⟨by decide, by decide, by decide, by decide⟩ ⟨fun _ => rfl, fun _ => Or.inl rfl⟩ rfl (Nat.le_of_ble_eq_true rfl) (fun r9 => ?_)
      show X E _ _ _ _ 0 0 _ _ _ [aL r9] _
      refine x_lstore (pc := 88) (als' := [(6, aL r9), (0, aR 12 (some 0)), (3, aI r1), (4, aL a8)]) 6 dX12_chanceOf_88 (by decide) rfl ?_
      refine x_lload (pc := 90) 4 dX12_chanceOf_90 rfl ?_
      refine x_ldc2 (pc := 92) (v := 10000) dX12_chanceOf_92 tk_1634 ?_
      refine x_lmul (pc := 95) dX12_chanceOf_95 ?_
      refine x_lload (pc := 96) 6 dX12_chanceOf_96 rfl ?_
      refine x_ladd (pc := 98) dX12_chanceOf_98 ?_
      refine x_lconst (pc := 99) 1 dX12_chanceOf_99 rfl ?_
      refine x_lsub (pc := 100) dX12_chanceOf_100 ?_
      refine x_lload (pc := 101) 6 dX12_chanceOf_101 rfl ?_
      refine x_ldiv (pc := 103) dX12_chanceOf_103 ?_
      refine x_l2i (pc := 104) dX12_chanceOf_104 ?_
      exact x_iret (rm := r12_chanceOf) rfl rfl dX12_chanceOf_105
  ·
    refine x_sipush (pc := 12) 10000 dX12_chanceOf_12 rfl ?_
    exact x_iret (rm := r12_chanceOf) rfl rfl dX12_chanceOf_15
theorem c_12_chanceOf (l : Launch)  (v1 : Int32) (v2 : Int32) (σ : zSt) : zMet l yX12_chanceOf cX12_chanceOf 8 (some .int) r12_chanceOf true eI [aR 12 (some 0), aI v1, aI v2] σ (zro (f12_chanceOf v1 v2 σ) σ) :=
  zMet_ofR [(0, aR 12 (some 0)), (1, aI v1), (2, aI v2)] (by decide +kernel) (fun h => by cases h) (Nat.le_of_ble_eq_true rfl) rfl fun E _ => x12_chanceOf E  v1 v2 σ
abbrev r12_chance : Room := { frames := 3, cells := 0, slots := 0, locals := 76 }
abbrev m12_chance : zMu := (RX12, 4, (some .int), r12_chance, false)
set_option maxRecDepth 20000 in
theorem x12_chance (E : zEn)  (v1 : Int32) (v2 : Int32) (v3 : Int32) (σ : zSt) : X E cX12_chance m12_chance true (zQw E true eI r12_chance) 0 0 σ [(0, aR 12 (some 0)), (1, aI v1), (2, aI v2), (3, aI v3)] 0 [] (f12_chance v1 v2 v3 σ) := by
  unfold f12_chance
  refine x_aload_n (pc := 0) 0 dX12_chance_0 rfl rfl ?_
  refine x_iload_n (pc := 1) 1 dX12_chance_1 rfl rfl ?_
  refine x_callVr (pc := 2) (as := [aI v1]) (rest := []) (fun l => c_12_isKind l true v1 σ) md_X12_isKind ⟨_, _, rfl, by decide⟩ tk_1516 tp_60 tk_1514 dX12_chance_2 rfl ⟨by decide, by decide, by decide, by decide⟩ ⟨fun _ => rfl, fun _ => Or.inl rfl⟩ rfl (Nat.le_of_ble_eq_true rfl) (fun r1 => ?_)
  show X E _ _ _ _ 0 0 _ _ _ [aI r1] _
  refine x_if_eq (pc := 5) 22 dX12_chance_5 (by decide) (fun _ => ?_) (fun _ => ?_)
  ·
    refine x_iconst (pc := 22) (-1) dX12_chance_22 rfl ?_
    exact x_iret (rm := r12_chance) rfl rfl dX12_chance_23
  ·
    refine x_iload_n (pc := 8) 2 dX12_chance_8 rfl rfl ?_
    refine x_callSr (pc := 9) (as := [aI v2]) (rest := []) (fun l => c_12_isGroup l true v2 σ) md_X12_isGroup tk_1605 tk_1604 dX12_chance_9 rfl ⟨by decide, by decide, by decide, by decide⟩ ⟨fun _ => rfl, fun _ => Or.inl rfl⟩ rfl (Nat.le_of_ble_eq_true rfl) (fun r2 => ?_)
    show X E _ _ _ _ 0 0 _ _ _ [aI r2] _
    refine x_if_eq (pc := 12) 22 dX12_chance_12 (by decide) (fun _ => ?_) (fun _ => ?_)
    ·
      refine x_iconst (pc := 22) (-1) dX12_chance_22 rfl ?_
      exact x_iret (rm := r12_chance) rfl rfl dX12_chance_23
    ·
      refine x_iload_n (pc := 15) 3 dX12_chance_15 rfl rfl ?_
      refine x_callSr (pc := 16) (as := [aI v3]) (rest := []) (fun l => c_12_isDay l true v3 σ) md_X12_isDay tk_1566 tk_1565 dX12_chance_16 rfl ⟨by decide, by decide, by decide, by decide⟩ ⟨fun _ => rfl, fun _ => Or.inl rfl⟩ rfl (Nat.le_of_ble_eq_true rfl) (fun r3 => ?_)
      show X E _ _ _ _ 0 0 _ _ _ [aI r3] _
      refine x_if_ne (pc := 19) 24 dX12_chance_19 (by decide) (fun _ => ?_) (fun _ => ?_)
      ·
        refine x_aload_n (pc := 24) 0 dX12_chance_24 rfl rfl ?_
        refine x_iload_n (pc := 25) 1 dX12_chance_25 rfl rfl ?_
        refine x_iload_n (pc := 26) 3 dX12_chance_26 rfl rfl ?_
        refine x_callV (pc := 27) (as := [aI v1, aI v3]) (rest := []) (fun l => c_12_findWith l v1 v3 σ) md_X12_findWith ⟨_, _, rfl, by decide⟩ tk_1609 tp_71 tk_1607 dX12_chance_27 rfl ⟨by decide, by decide, by decide, by decide⟩ ⟨fun _ => rfl, fun _ => Or.inl rfl⟩ rfl (Nat.le_of_ble_eq_true rfl) (fun _ s5 => ?_)
        show X E _ _ _ _ 0 0 _ _ _ [] _
        refine x_aload_n (pc := 30) 0 dX12_chance_30 rfl rfl ?_
        refine x_iload_n (pc := 31) 2 dX12_chance_31 rfl rfl ?_
        refine x_iload_n (pc := 32) 1 dX12_chance_32 rfl rfl ?_
        refine x_callVr (pc := 33) (as := [aI v2, aI v1]) (rest := []) (fun l => c_12_chanceOf l v2 v1 s5) md_X12_chanceOf ⟨_, _, rfl, by decide⟩ tk_1629 tp_75 tk_1627 dX12_chance_33 rfl ⟨by decide, by decide, by decide, by decide⟩ ⟨fun _ => rfl, fun _ => Or.inl rfl⟩ rfl (Nat.le_of_ble_eq_true rfl) (fun r6 => ?_)
        show X E _ _ _ _ 0 0 _ _ _ [aI r6] _
        exact x_iret (rm := r12_chance) rfl rfl dX12_chance_36
      ·
        refine x_iconst (pc := 22) (-1) dX12_chance_22 rfl ?_
        exact x_iret (rm := r12_chance) rfl rfl dX12_chance_23
theorem c_12_chance (l : Launch)  (v1 : Int32) (v2 : Int32) (v3 : Int32) (σ : zSt) : zMet l yX12_chance cX12_chance 4 (some .int) r12_chance true eI [aR 12 (some 0), aI v1, aI v2, aI v3] σ (f12_chance v1 v2 v3 σ) :=
  zMet_of [(0, aR 12 (some 0)), (1, aI v1), (2, aI v2), (3, aI v3)] (by decide +kernel) (fun h => by cases h) (Nat.le_of_ble_eq_true rfl) rfl fun E _ => x12_chance E  v1 v2 v3 σ
abbrev r12_causeOf : Room := { frames := 3, cells := 0, slots := 0, locals := 76 }
abbrev m12_causeOf : zMu := (RX12, 6, (some .int), r12_causeOf, false)
set_option maxRecDepth 20000 in
theorem xl12_causeOf_8 (E : zEn)   (h1 : Int32) (σ : zSt)   : ∀ (n : Nat) (v3 : Int32) (v4 : Int32) (v5 : Int32), X E cX12_causeOf m12_causeOf true (zQr E true eI r12_causeOf σ) 0 0 σ [(0, aR 12 (some 0)), (1, aI h1), (3, aI v3), (4, aI v4), (5, aI v5)] 8 [] (f12_causeOf_L8 h1 σ n v3 v4 v5) := by
  intro n
  induction n with
  | zero => intros; exact x_none
  | succ n ih =>
    intro v3 v4 v5
    rw [f12_causeOf_L8]
    refine x_iload (pc := 8) 5 dX12_causeOf_8 rfl ?_
    refine x_bipush (pc := 10) 30 dX12_causeOf_10 rfl ?_
    refine x_icmp_gt (pc := 12) 53 dX12_causeOf_12 (by decide) (fun _ => ?_) (fun _ => ?_)
    ·
      refine x_iload_n (pc := 53) 3 dX12_causeOf_53 rfl rfl ?_
      exact x_iret (rm := r12_causeOf) rfl rfl dX12_causeOf_54
    ·
      refine x_iload (pc := 15) 5 dX12_causeOf_15 rfl ?_
      refine x_callSr (pc := 17) (as := [aI v5]) (rest := []) (fun l => c_12_isGroup l true v5 σ) md_X12_isGroup tk_1605 tk_1604 dX12_causeOf_17 rfl ⟨by decide, by decide, by decide, by decide⟩ ⟨fun _ => rfl, fun _ => Or.inl rfl⟩ rfl (Nat.le_of_ble_eq_true rfl) (fun r1 => ?_)
      show X E _ _ _ _ 0 0 _ _ _ [aI r1] _
      refine x_join (P := fun (j4 : Int32 → Int32 → Option Int32) => ∀ (a2 : Int32) (a3 : Int32), X E cX12_causeOf m12_causeOf true (zQr E true eI r12_causeOf σ) 0 0 σ [(0, aR 12 (some 0)), (1, aI h1), (3, aI a2), (4, aI a3), (5, aI v5)] 47 [] (j4 a2 a3)) ?_ ?_
      · intro a2 a3
        refine x_iinc (pc := 47) (als' := [(5, aI (v5 + 1)), (0, aR 12 (some 0)), (1, aI h1), (3, aI a2), (4, aI a3)]) 5 4 (c := 1) dX12_causeOf_47 rfl rfl (by decide) rfl ?_
        refine x_nameV (g := fun y7 => [(5, aI y7), (0, aR 12 (some 0)), (1, aI h1), (3, aI a2), (4, aI a3)]) (fun x6 => ?_) rfl
        refine x_goto (pc := 50) 8 dX12_causeOf_50 (by decide) ?_
        exact x_sub [1, 2, 3, 4, 0] rfl (ih a2 a3 x6)
      · intro j4 hj5
        refine x_if_eq (pc := 20) 47 dX12_causeOf_20 (by decide) (fun _ => ?_) (fun _ => ?_)
        ·
          exact hj5 v3 v4
        ·
          refine x_aload_n (pc := 23) 0 dX12_causeOf_23 rfl rfl ?_
          refine x_iload (pc := 24) 5 dX12_causeOf_24 rfl ?_
          refine x_iload_n (pc := 26) 1 dX12_causeOf_26 rfl rfl ?_
          refine x_callVr (pc := 27) (as := [aI v5, aI h1]) (rest := []) (fun l => c_12_chanceOf l v5 h1 σ) md_X12_chanceOf ⟨_, _, rfl, by decide⟩ tk_1629 tp_75 tk_1627 dX12_causeOf_27 rfl ⟨by decide, by decide, by decide, by decide⟩ ⟨fun _ => rfl, fun _ => Or.inl rfl⟩ rfl (Nat.le_of_ble_eq_true rfl) (fun r8 => ?_)
          show X E _ _ _ _ 0 0 _ _ _ [aI r8] _
          refine x_iload (pc := 30) 4 dX12_causeOf_30 rfl ?_
          refine x_icmp_ge (pc := 32) 47 dX12_causeOf_32 (by decide) (fun _ => ?_) (fun _ => ?_)
          ·
            exact hj5 v3 v4
          ·
            refine x_iload (pc := 35) 5 dX12_causeOf_35 rfl ?_
            refine x_istore_n (pc := 37) (als' := [(3, aI v5), (0, aR 12 (some 0)), (1, aI h1), (4, aI v4), (5, aI v5)]) 3 dX12_causeOf_37 rfl (by decide) rfl ?_
            refine x_aload_n (pc := 38) 0 dX12_causeOf_38 rfl rfl ?_
            refine x_iload (pc := 39) 5 dX12_causeOf_39 rfl ?_
            refine x_iload_n (pc := 41) 1 dX12_causeOf_41 rfl rfl ?_
            refine x_callVr (pc := 42) (as := [aI v5, aI h1]) (rest := []) (fun l => c_12_chanceOf l v5 h1 σ) md_X12_chanceOf ⟨_, _, rfl, by decide⟩ tk_1629 tp_75 tk_1627 dX12_causeOf_42 rfl ⟨by decide, by decide, by decide, by decide⟩ ⟨fun _ => rfl, fun _ => Or.inl rfl⟩ rfl (Nat.le_of_ble_eq_true rfl) (fun r9 => ?_)
            show X E _ _ _ _ 0 0 _ _ _ [aI r9] _
            refine x_istore (pc := 45) (als' := [(4, aI r9), (3, aI v5), (0, aR 12 (some 0)), (1, aI h1), (5, aI v5)]) 4 dX12_causeOf_45 (by decide) rfl ?_
            exact x_sub [2, 3, 1, 0, 4] rfl (hj5 v5 r9)
set_option maxRecDepth 20000 in
theorem x12_causeOf (E : zEn)  (v1 : Int32) (v2 : Int32) (σ : zSt) : X E cX12_causeOf m12_causeOf true (zQr E true eI r12_causeOf σ) 0 0 σ [(0, aR 12 (some 0)), (1, aI v1), (2, aI v2)] 0 [] (f12_causeOf v1 v2 σ) := by
  unfold f12_causeOf
  refine x_iconst (pc := 0) (-1) dX12_causeOf_0 rfl ?_
  refine x_istore_n (pc := 1) (als' := [(3, aI (-1)), (0, aR 12 (some 0)), (1, aI v1), (2, aI v2)]) 3 dX12_causeOf_1 rfl (by decide) rfl ?_
  refine x_iload_n (pc := 2) 2 dX12_causeOf_2 rfl rfl ?_
  refine x_istore (pc := 3) (als' := [(4, aI v2), (3, aI (-1)), (0, aR 12 (some 0)), (1, aI v1), (2, aI v2)]) 4 dX12_causeOf_3 (by decide) rfl ?_
  refine x_iconst (pc := 5) 0 dX12_causeOf_5 rfl ?_
  refine x_istore (pc := 6) (als' := [(5, aI 0), (4, aI v2), (3, aI (-1)), (0, aR 12 (some 0)), (1, aI v1), (2, aI v2)]) 5 dX12_causeOf_6 (by decide) rfl ?_
  refine x_sub [3, 4, 2, 1, 0] rfl (xl12_causeOf_8 E v1 σ zfuel (-1) v2 0)
theorem c_12_causeOf (l : Launch)  (v1 : Int32) (v2 : Int32) (σ : zSt) : zMet l yX12_causeOf cX12_causeOf 6 (some .int) r12_causeOf true eI [aR 12 (some 0), aI v1, aI v2] σ (zro (f12_causeOf v1 v2 σ) σ) :=
  zMet_ofR [(0, aR 12 (some 0)), (1, aI v1), (2, aI v2)] (by decide +kernel) (fun h => by cases h) (Nat.le_of_ble_eq_true rfl) rfl fun E _ => x12_causeOf E  v1 v2 σ
abbrev r12_cause : Room := { frames := 4, cells := 0, slots := 0, locals := 101 }
abbrev m12_cause : zMu := (RX12, 5, (some .int), r12_cause, false)
set_option maxRecDepth 20000 in
theorem x12_cause (E : zEn)  (v1 : Int32) (v2 : Int32) (v3 : Int32) (σ : zSt) : X E cX12_cause m12_cause true (zQw E true eI r12_cause) 0 0 σ [(0, aR 12 (some 0)), (1, aI v1), (2, aI v2), (3, aI v3)] 0 [] (f12_cause v1 v2 v3 σ) := by
  unfold f12_cause
  refine x_aload_n (pc := 0) 0 dX12_cause_0 rfl rfl ?_
  refine x_iload_n (pc := 1) 1 dX12_cause_1 rfl rfl ?_
  refine x_callVr (pc := 2) (as := [aI v1]) (rest := []) (fun l => c_12_isKind l true v1 σ) md_X12_isKind ⟨_, _, rfl, by decide⟩ tk_1516 tp_60 tk_1514 dX12_cause_2 rfl ⟨by decide, by decide, by decide, by decide⟩ ⟨fun _ => rfl, fun _ => Or.inl rfl⟩ rfl (Nat.le_of_ble_eq_true rfl) (fun r1 => ?_)
  show X E _ _ _ _ 0 0 _ _ _ [aI r1] _
  refine x_if_eq (pc := 5) 26 dX12_cause_5 (by decide) (fun _ => ?_) (fun _ => ?_)
  ·
    refine x_iconst (pc := 26) (-1) dX12_cause_26 rfl ?_
    exact x_iret (rm := r12_cause) rfl rfl dX12_cause_27
  ·
    refine x_iload_n (pc := 8) 2 dX12_cause_8 rfl rfl ?_
    refine x_callSr (pc := 9) (as := [aI v2]) (rest := []) (fun l => c_12_isDay l true v2 σ) md_X12_isDay tk_1566 tk_1565 dX12_cause_9 rfl ⟨by decide, by decide, by decide, by decide⟩ ⟨fun _ => rfl, fun _ => Or.inl rfl⟩ rfl (Nat.le_of_ble_eq_true rfl) (fun r2 => ?_)
    show X E _ _ _ _ 0 0 _ _ _ [aI r2] _
    refine x_if_eq (pc := 12) 26 dX12_cause_12 (by decide) (fun _ => ?_) (fun _ => ?_)
    ·
      refine x_iconst (pc := 26) (-1) dX12_cause_26 rfl ?_
      exact x_iret (rm := r12_cause) rfl rfl dX12_cause_27
    ·
      refine x_iload_n (pc := 15) 3 dX12_cause_15 rfl rfl ?_
      refine x_iconst (pc := 16) 1 dX12_cause_16 rfl ?_
      refine x_sipush (pc := 17) 9999 dX12_cause_17 rfl ?_
      refine x_callSr (pc := 20) (as := [aI v3, aI 1, aI 9999]) (rest := []) (fun l => c_12_within l true v3 1 9999 σ) md_X12_within tk_1447 tk_1446 dX12_cause_20 rfl ⟨by decide, by decide, by decide, by decide⟩ ⟨fun _ => rfl, fun _ => Or.inl rfl⟩ rfl (Nat.le_of_ble_eq_true rfl) (fun r3 => ?_)
      show X E _ _ _ _ 0 0 _ _ _ [aI r3] _
      refine x_if_ne (pc := 23) 28 dX12_cause_23 (by decide) (fun _ => ?_) (fun _ => ?_)
      ·
        refine x_aload_n (pc := 28) 0 dX12_cause_28 rfl rfl ?_
        refine x_iload_n (pc := 29) 1 dX12_cause_29 rfl rfl ?_
        refine x_iload_n (pc := 30) 2 dX12_cause_30 rfl rfl ?_
        refine x_callV (pc := 31) (as := [aI v1, aI v2]) (rest := []) (fun l => c_12_findWith l v1 v2 σ) md_X12_findWith ⟨_, _, rfl, by decide⟩ tk_1609 tp_71 tk_1607 dX12_cause_31 rfl ⟨by decide, by decide, by decide, by decide⟩ ⟨fun _ => rfl, fun _ => Or.inl rfl⟩ rfl (Nat.le_of_ble_eq_true rfl) (fun _ s5 => ?_)
        show X E _ _ _ _ 0 0 _ _ _ [] _
        refine x_aload_n (pc := 34) 0 dX12_cause_34 rfl rfl ?_
        refine x_iload_n (pc := 35) 1 dX12_cause_35 rfl rfl ?_
        refine x_iload_n (pc := 36) 3 dX12_cause_36 rfl rfl ?_
        refine x_callVr (pc := 37) (as := [aI v1, aI v3]) (rest := []) (fun l => c_12_causeOf l v1 v3 s5) md_X12_causeOf ⟨_, _, rfl, by decide⟩ tk_1641 tp_76 tk_1639 dX12_cause_37 rfl ⟨by decide, by decide, by decide, by decide⟩ ⟨fun _ => rfl, fun _ => Or.inl rfl⟩ rfl (Nat.le_of_ble_eq_true rfl) (fun r6 => ?_)
        show X E _ _ _ _ 0 0 _ _ _ [aI r6] _
        refine x_istore (pc := 40) (als' := [(4, aI r6), (0, aR 12 (some 0)), (1, aI v1), (2, aI v2), (3, aI v3)]) 4 dX12_cause_40 (by decide) rfl ?_
        refine x_iload (pc := 42) 4 dX12_cause_42 rfl ?_
        refine x_if_ge (pc := 44) 52 dX12_cause_44 (by decide) (fun _ => ?_) (fun _ => ?_)
        ·
          refine x_iload (pc := 52) 4 dX12_cause_52 rfl ?_
          exact x_iret (rm := r12_cause) rfl rfl dX12_cause_54
        ·
          refine x_bipush (pc := 47) (-4) dX12_cause_47 rfl ?_
          refine x_goto (pc := 49) 54 dX12_cause_49 (by decide) ?_
          exact x_iret (rm := r12_cause) rfl rfl dX12_cause_54
      ·
        refine x_iconst (pc := 26) (-1) dX12_cause_26 rfl ?_
        exact x_iret (rm := r12_cause) rfl rfl dX12_cause_27
theorem c_12_cause (l : Launch)  (v1 : Int32) (v2 : Int32) (v3 : Int32) (σ : zSt) : zMet l yX12_cause cX12_cause 5 (some .int) r12_cause true eI [aR 12 (some 0), aI v1, aI v2, aI v3] σ (f12_cause v1 v2 v3 σ) :=
  zMet_of [(0, aR 12 (some 0)), (1, aI v1), (2, aI v2), (3, aI v3)] (by decide +kernel) (fun h => by cases h) (Nat.le_of_ble_eq_true rfl) rfl fun E _ => x12_cause E  v1 v2 v3 σ
abbrev r12_areSame : Room := { frames := 1, cells := 0, slots := 0, locals := 24 }
abbrev m12_areSame : zMu := (RX12, 6, (some .boolean), r12_areSame, false)
set_option maxRecDepth 20000 in
theorem xl12_areSame_6 (E : zEn)   (h1 : Int32) (h2 : Int32) (h3 : Int32) (σ : zSt)   : ∀ (n : Nat) (v4 : Int32) (v5 : Int32), X E cX12_areSame m12_areSame true (zQr E true eI r12_areSame σ) 0 0 σ [(0, aR 12 (some 0)), (1, aI h1), (2, aI h2), (3, aI h3), (4, aI v4), (5, aI v5)] 6 [] (f12_areSame_L6 h1 h2 h3 σ n v4 v5) := by
  intro n
  induction n with
  | zero => intros; exact x_none
  | succ n ih =>
    intro v4 v5
    rw [f12_areSame_L6]
    refine x_iload (pc := 6) 5 dX12_areSame_6 rfl ?_
    refine x_aload_n (pc := 8) 0 dX12_areSame_8 rfl rfl ?_
    refine x_getI (pc := 9) fd_12_13 tk_1208 dX12_areSame_9 ?_
    refine x_icmp_ge (pc := 12) 52 dX12_areSame_12 (by decide) (fun _ => ?_) (fun _ => ?_)
    ·
      refine x_iload (pc := 52) 4 dX12_areSame_52 rfl ?_
      exact x_zret (rm := r12_areSame) rfl rfl dX12_areSame_54
    ·
      refine x_iload (pc := 15) 4 dX12_areSame_15 rfl ?_
      refine x_join (P := fun (j2 : Int32 → Option Int32) => ∀ (a1 : Int32), X E cX12_areSame m12_areSame true (zQr E true eI r12_areSame σ) 0 0 σ [(0, aR 12 (some 0)), (1, aI h1), (2, aI h2), (3, aI h3), (5, aI v5)] 44 [aI a1] (j2 a1)) ?_ ?_
      · intro a1
        refine x_istore (pc := 44) (als' := [(4, aI a1), (0, aR 12 (some 0)), (1, aI h1), (2, aI h2), (3, aI h3), (5, aI v5)]) 4 dX12_areSame_44 (by decide) rfl ?_
        refine x_iinc (pc := 46) (als' := [(5, aI (v5 + 1)), (4, aI a1), (0, aR 12 (some 0)), (1, aI h1), (2, aI h2), (3, aI h3)]) 5 5 (c := 1) dX12_areSame_46 rfl rfl (by decide) rfl ?_
        refine x_nameV (g := fun y5 => [(5, aI y5), (4, aI a1), (0, aR 12 (some 0)), (1, aI h1), (2, aI h2), (3, aI h3)]) (fun x4 => ?_) rfl
        refine x_goto (pc := 49) 6 dX12_areSame_49 (by decide) ?_
        exact x_sub [2, 3, 4, 5, 1, 0] rfl (ih a1 x4)
      · intro j2 hj3
        refine x_join (P := fun (j6 : Option Int32) => X E cX12_areSame m12_areSame true (zQr E true eI r12_areSame σ) 0 0 σ [(0, aR 12 (some 0)), (1, aI h1), (2, aI h2), (3, aI h3), (5, aI v5)] 43 [] j6) ?_ ?_
        ·
          refine x_iconst (pc := 43) 0 dX12_areSame_43 rfl ?_
          exact hj3 0
        · intro j6 hj7
          refine x_if_eq (pc := 17) 43 dX12_areSame_17 (by decide) (fun _ => ?_) (fun _ => ?_)
          ·
            exact x_sub [0, 1, 2, 3, 5] rfl (hj7)
          ·
            refine x_aload_n (pc := 20) 0 dX12_areSame_20 rfl rfl ?_
            refine x_iload (pc := 21) 5 dX12_areSame_21 rfl ?_
            refine x_iload_n (pc := 23) 1 dX12_areSame_23 rfl rfl ?_
            refine x_iload_n (pc := 24) 3 dX12_areSame_24 rfl rfl ?_
            refine x_callVr (pc := 25) (as := [aI v5, aI h1, aI h3]) (rest := []) (fun l => c_12_isIn l v5 h1 h3 σ) md_X12_isIn ⟨_, _, rfl, by decide⟩ tk_1621 tp_74 tk_1619 dX12_areSame_25 rfl ⟨by decide, by decide, by decide, by decide⟩ ⟨fun _ => rfl, fun _ => Or.inl rfl⟩ rfl (Nat.le_of_ble_eq_true rfl) (fun r8 => ?_)
            show X E _ _ _ _ 0 0 _ _ _ [aI r8] _
            refine x_aload_n (pc := 28) 0 dX12_areSame_28 rfl rfl ?_
            refine x_iload (pc := 29) 5 dX12_areSame_29 rfl ?_
            refine x_iload_n (pc := 31) 2 dX12_areSame_31 rfl rfl ?_
            refine x_iload_n (pc := 32) 3 dX12_areSame_32 rfl rfl ?_
            refine x_callVr (pc := 33) (as := [aI v5, aI h2, aI h3]) (rest := [aI r8]) (fun l => c_12_isIn l v5 h2 h3 σ) md_X12_isIn ⟨_, _, rfl, by decide⟩ tk_1621 tp_74 tk_1619 dX12_areSame_33 rfl ⟨by decide, by decide, by decide, by decide⟩ ⟨fun _ => rfl, fun _ => Or.inl rfl⟩ rfl (Nat.le_of_ble_eq_true rfl) (fun r9 => ?_)
            show X E _ _ _ _ 0 0 _ _ _ [aI r9, aI r8] _
            refine x_icmp_ne (pc := 36) 43 dX12_areSame_36 (by decide) (fun _ => ?_) (fun _ => ?_)
            ·
              exact x_sub [0, 1, 2, 3, 5] rfl (hj7)
            ·
              refine x_iconst (pc := 39) 1 dX12_areSame_39 rfl ?_
              refine x_goto (pc := 40) 44 dX12_areSame_40 (by decide) ?_
              exact x_sub [0, 1, 2, 3, 5] rfl (hj3 1)
set_option maxRecDepth 20000 in
theorem x12_areSame (E : zEn)  (v1 : Int32) (v2 : Int32) (v3 : Int32) (σ : zSt) : X E cX12_areSame m12_areSame true (zQr E true eI r12_areSame σ) 0 0 σ [(0, aR 12 (some 0)), (1, aI v1), (2, aI v2), (3, aI v3)] 0 [] (f12_areSame v1 v2 v3 σ) := by
  unfold f12_areSame
  refine x_iconst (pc := 0) 1 dX12_areSame_0 rfl ?_
  refine x_istore (pc := 1) (als' := [(4, aI 1), (0, aR 12 (some 0)), (1, aI v1), (2, aI v2), (3, aI v3)]) 4 dX12_areSame_1 (by decide) rfl ?_
  refine x_iconst (pc := 3) 0 dX12_areSame_3 rfl ?_
  refine x_istore (pc := 4) (als' := [(5, aI 0), (4, aI 1), (0, aR 12 (some 0)), (1, aI v1), (2, aI v2), (3, aI v3)]) 5 dX12_areSame_4 (by decide) rfl ?_
  refine x_sub [2, 3, 4, 5, 1, 0] rfl (xl12_areSame_6 E v1 v2 v3 σ zfuel 1 0)
theorem c_12_areSame (l : Launch)  (v1 : Int32) (v2 : Int32) (v3 : Int32) (σ : zSt) : zMet l yX12_areSame cX12_areSame 6 (some .boolean) r12_areSame true eI [aR 12 (some 0), aI v1, aI v2, aI v3] σ (zro (f12_areSame v1 v2 v3 σ) σ) :=
  zMet_ofR [(0, aR 12 (some 0)), (1, aI v1), (2, aI v2), (3, aI v3)] (by decide +kernel) (fun h => by cases h) (Nat.le_of_ble_eq_true rfl) rfl fun E _ => x12_areSame E  v1 v2 v3 σ
abbrev r12_rivals : Room := { frames := 4, cells := 0, slots := 0, locals := 101 }
abbrev m12_rivals : zMu := (RX12, 7, (some .int), r12_rivals, false)
set_option maxRecDepth 20000 in
theorem xl12_rivals_56 (E : zEn)   (h1 : Int32) (h3 : Int32) (h4 : Int32) (σ : zSt)   : ∀ (n : Nat) (v5 : Int32) (v6 : Int32), X E cX12_rivals m12_rivals true (zQw E true eI r12_rivals) 0 0 σ [(0, aR 12 (some 0)), (1, aI h1), (3, aI h3), (4, aI h4), (5, aI v5), (6, aI v6)] 56 [] (f12_rivals_L56 h1 h3 h4 σ n v5 v6) := by
  intro n
  induction n with
  | zero => intros; exact x_none
  | succ n ih =>
    intro v5 v6
    rw [f12_rivals_L56]
    refine x_iload (pc := 56) 6 dX12_rivals_56 rfl ?_
    refine x_bipush (pc := 58) 30 dX12_rivals_58 rfl ?_
    refine x_icmp_gt (pc := 60) 117 dX12_rivals_60 (by decide) (fun _ => ?_) (fun _ => ?_)
    ·
      refine x_iload (pc := 117) 5 dX12_rivals_117 rfl ?_
      exact x_iret (rm := r12_rivals) rfl rfl dX12_rivals_119
    ·
      refine x_iload (pc := 63) 5 dX12_rivals_63 rfl ?_
      refine x_iload (pc := 65) 6 dX12_rivals_65 rfl ?_
      refine x_callSr (pc := 67) (as := [aI v6]) (rest := [aI v5]) (fun l => c_12_isGroup l true v6 σ) md_X12_isGroup tk_1605 tk_1604 dX12_rivals_67 rfl ⟨by decide, by decide, by decide, by decide⟩ ⟨fun _ => rfl, fun _ => Or.inl rfl⟩ rfl (Nat.le_of_ble_eq_true rfl) (fun r7 => ?_)
      show X E _ _ _ _ 0 0 _ _ _ [aI r7, aI v5] _
      refine x_join (P := fun (j9 : Int32 → Option (Int32 × zSt)) => ∀ (a8 : Int32), X E cX12_rivals m12_rivals true (zQw E true eI r12_rivals) 0 0 σ [(0, aR 12 (some 0)), (1, aI h1), (3, aI h3), (4, aI h4), (6, aI v6)] 108 [aI a8, aI v5] (j9 a8)) ?_ ?_
      · intro a8
        refine x_iadd (pc := 108) dX12_rivals_108 ?_
        refine x_nameI (fun x11 => ?_)
        refine x_istore (pc := 109) (als' := [(5, aI x11), (0, aR 12 (some 0)), (1, aI h1), (3, aI h3), (4, aI h4), (6, aI v6)]) 5 dX12_rivals_109 (by decide) rfl ?_
        refine x_iinc (pc := 111) (als' := [(6, aI (v6 + 1)), (5, aI x11), (0, aR 12 (some 0)), (1, aI h1), (3, aI h3), (4, aI h4)]) 6 5 (c := 1) dX12_rivals_111 rfl rfl (by decide) rfl ?_
        refine x_nameV (g := fun y13 => [(6, aI y13), (5, aI x11), (0, aR 12 (some 0)), (1, aI h1), (3, aI h3), (4, aI h4)]) (fun x12 => ?_) rfl
        refine x_goto (pc := 114) 56 dX12_rivals_114 (by decide) ?_
        exact x_sub [2, 3, 4, 5, 1, 0] rfl (ih x11 x12)
      · intro j9 hj10
        refine x_join (P := fun (j14 : Option (Int32 × zSt)) => X E cX12_rivals m12_rivals true (zQw E true eI r12_rivals) 0 0 σ [(0, aR 12 (some 0)), (1, aI h1), (3, aI h3), (4, aI h4), (6, aI v6)] 107 [aI v5] j14) ?_ ?_
        ·
          refine x_iconst (pc := 107) 0 dX12_rivals_107 rfl ?_
          exact hj10 0
        · intro j14 hj15
          refine x_if_eq (pc := 70) 107 dX12_rivals_70 (by decide) (fun _ => ?_) (fun _ => ?_)
          ·
            exact x_sub [0, 1, 2, 3, 5] rfl (hj15)
          ·
            refine x_iload (pc := 73) 6 dX12_rivals_73 rfl ?_
            refine x_iload (pc := 75) 4 dX12_rivals_75 rfl ?_
            refine x_icmp_eq (pc := 77) 107 dX12_rivals_77 (by decide) (fun _ => ?_) (fun _ => ?_)
            ·
              exact x_sub [0, 1, 2, 3, 5] rfl (hj15)
            ·
              refine x_aload_n (pc := 80) 0 dX12_rivals_80 rfl rfl ?_
              refine x_iload (pc := 81) 6 dX12_rivals_81 rfl ?_
              refine x_iload_n (pc := 83) 1 dX12_rivals_83 rfl rfl ?_
              refine x_callVr (pc := 84) (as := [aI v6, aI h1]) (rest := [aI v5]) (fun l => c_12_chanceOf l v6 h1 σ) md_X12_chanceOf ⟨_, _, rfl, by decide⟩ tk_1629 tp_75 tk_1627 dX12_rivals_84 rfl ⟨by decide, by decide, by decide, by decide⟩ ⟨fun _ => rfl, fun _ => Or.inl rfl⟩ rfl (Nat.le_of_ble_eq_true rfl) (fun r16 => ?_)
              show X E _ _ _ _ 0 0 _ _ _ [aI r16, aI v5] _
              refine x_iload_n (pc := 87) 3 dX12_rivals_87 rfl rfl ?_
              refine x_icmp_ge (pc := 88) 107 dX12_rivals_88 (by decide) (fun _ => ?_) (fun _ => ?_)
              ·
                exact x_sub [0, 1, 2, 3, 5] rfl (hj15)
              ·
                refine x_aload_n (pc := 91) 0 dX12_rivals_91 rfl rfl ?_
                refine x_iload (pc := 92) 6 dX12_rivals_92 rfl ?_
                refine x_iload (pc := 94) 4 dX12_rivals_94 rfl ?_
                refine x_iload_n (pc := 96) 1 dX12_rivals_96 rfl rfl ?_
                refine x_callVr (pc := 97) (as := [aI v6, aI h4, aI h1]) (rest := [aI v5]) (fun l => c_12_areSame l v6 h4 h1 σ) md_X12_areSame ⟨_, _, rfl, by decide⟩ tk_1649 tp_77 tk_1647 dX12_rivals_97 rfl ⟨by decide, by decide, by decide, by decide⟩ ⟨fun _ => rfl, fun _ => Or.inl rfl⟩ rfl (Nat.le_of_ble_eq_true rfl) (fun r17 => ?_)
                show X E _ _ _ _ 0 0 _ _ _ [aI r17, aI v5] _
                refine x_if_ne (pc := 100) 107 dX12_rivals_100 (by decide) (fun _ => ?_) (fun _ => ?_)
                ·
                  exact x_sub [0, 1, 2, 3, 5] rfl (hj15)
                ·
                  refine x_iconst (pc := 103) 1 dX12_rivals_103 rfl ?_
                  refine x_goto (pc := 104) 108 dX12_rivals_104 (by decide) ?_
                  exact x_sub [0, 1, 2, 3, 5] rfl (hj10 1)
set_option maxRecDepth 20000 in
theorem x12_rivals (E : zEn)  (v1 : Int32) (v2 : Int32) (v3 : Int32) (σ : zSt) : X E cX12_rivals m12_rivals true (zQw E true eI r12_rivals) 0 0 σ [(0, aR 12 (some 0)), (1, aI v1), (2, aI v2), (3, aI v3)] 0 [] (f12_rivals v1 v2 v3 σ) := by
  unfold f12_rivals
  refine x_aload_n (pc := 0) 0 dX12_rivals_0 rfl rfl ?_
  refine x_iload_n (pc := 1) 1 dX12_rivals_1 rfl rfl ?_
  refine x_callVr (pc := 2) (as := [aI v1]) (rest := []) (fun l => c_12_isKind l true v1 σ) md_X12_isKind ⟨_, _, rfl, by decide⟩ tk_1516 tp_60 tk_1514 dX12_rivals_2 rfl ⟨by decide, by decide, by decide, by decide⟩ ⟨fun _ => rfl, fun _ => Or.inl rfl⟩ rfl (Nat.le_of_ble_eq_true rfl) (fun r1 => ?_)
  show X E _ _ _ _ 0 0 _ _ _ [aI r1] _
  refine x_if_eq (pc := 5) 26 dX12_rivals_5 (by decide) (fun _ => ?_) (fun _ => ?_)
  ·
    refine x_iconst (pc := 26) (-1) dX12_rivals_26 rfl ?_
    exact x_iret (rm := r12_rivals) rfl rfl dX12_rivals_27
  ·
    refine x_iload_n (pc := 8) 2 dX12_rivals_8 rfl rfl ?_
    refine x_callSr (pc := 9) (as := [aI v2]) (rest := []) (fun l => c_12_isDay l true v2 σ) md_X12_isDay tk_1566 tk_1565 dX12_rivals_9 rfl ⟨by decide, by decide, by decide, by decide⟩ ⟨fun _ => rfl, fun _ => Or.inl rfl⟩ rfl (Nat.le_of_ble_eq_true rfl) (fun r2 => ?_)
    show X E _ _ _ _ 0 0 _ _ _ [aI r2] _
    refine x_if_eq (pc := 12) 26 dX12_rivals_12 (by decide) (fun _ => ?_) (fun _ => ?_)
    ·
      refine x_iconst (pc := 26) (-1) dX12_rivals_26 rfl ?_
      exact x_iret (rm := r12_rivals) rfl rfl dX12_rivals_27
    ·
      refine x_iload_n (pc := 15) 3 dX12_rivals_15 rfl rfl ?_
      refine x_iconst (pc := 16) 1 dX12_rivals_16 rfl ?_
      refine x_sipush (pc := 17) 9999 dX12_rivals_17 rfl ?_
      refine x_callSr (pc := 20) (as := [aI v3, aI 1, aI 9999]) (rest := []) (fun l => c_12_within l true v3 1 9999 σ) md_X12_within tk_1447 tk_1446 dX12_rivals_20 rfl ⟨by decide, by decide, by decide, by decide⟩ ⟨fun _ => rfl, fun _ => Or.inl rfl⟩ rfl (Nat.le_of_ble_eq_true rfl) (fun r3 => ?_)
      show X E _ _ _ _ 0 0 _ _ _ [aI r3] _
      refine x_if_ne (pc := 23) 28 dX12_rivals_23 (by decide) (fun _ => ?_) (fun _ => ?_)
      ·
        refine x_aload_n (pc := 28) 0 dX12_rivals_28 rfl rfl ?_
        refine x_iload_n (pc := 29) 1 dX12_rivals_29 rfl rfl ?_
        refine x_iload_n (pc := 30) 2 dX12_rivals_30 rfl rfl ?_
        refine x_callV (pc := 31) (as := [aI v1, aI v2]) (rest := []) (fun l => c_12_findWith l v1 v2 σ) md_X12_findWith ⟨_, _, rfl, by decide⟩ tk_1609 tp_71 tk_1607 dX12_rivals_31 rfl ⟨by decide, by decide, by decide, by decide⟩ ⟨fun _ => rfl, fun _ => Or.inl rfl⟩ rfl (Nat.le_of_ble_eq_true rfl) (fun _ s5 => ?_)
        show X E _ _ _ _ 0 0 _ _ _ [] _
        refine x_aload_n (pc := 34) 0 dX12_rivals_34 rfl rfl ?_
        refine x_iload_n (pc := 35) 1 dX12_rivals_35 rfl rfl ?_
        refine x_iload_n (pc := 36) 3 dX12_rivals_36 rfl rfl ?_
        refine x_callVr (pc := 37) (as := [aI v1, aI v3]) (rest := []) (fun l => c_12_causeOf l v1 v3 s5) md_X12_causeOf ⟨_, _, rfl, by decide⟩ tk_1641 tp_76 tk_1639 dX12_rivals_37 rfl ⟨by decide, by decide, by decide, by decide⟩ ⟨fun _ => rfl, fun _ => Or.inl rfl⟩ rfl (Nat.le_of_ble_eq_true rfl) (fun r6 => ?_)
        show X E _ _ _ _ 0 0 _ _ _ [aI r6] _
        refine x_istore (pc := 40) (als' := [(4, aI r6), (0, aR 12 (some 0)), (1, aI v1), (2, aI v2), (3, aI v3)]) 4 dX12_rivals_40 (by decide) rfl ?_
        refine x_iload (pc := 42) 4 dX12_rivals_42 rfl ?_
        refine x_if_ge (pc := 44) 50 dX12_rivals_44 (by decide) (fun _ => ?_) (fun _ => ?_)
        ·
          refine x_iconst (pc := 50) 0 dX12_rivals_50 rfl ?_
          refine x_istore (pc := 51) (als' := [(5, aI 0), (4, aI r6), (0, aR 12 (some 0)), (1, aI v1), (2, aI v2), (3, aI v3)]) 5 dX12_rivals_51 (by decide) rfl ?_
          refine x_iconst (pc := 53) 0 dX12_rivals_53 rfl ?_
          refine x_istore (pc := 54) (als' := [(6, aI 0), (5, aI 0), (4, aI r6), (0, aR 12 (some 0)), (1, aI v1), (2, aI v2), (3, aI v3)]) 6 dX12_rivals_54 (by decide) rfl ?_
          refine x_sub [3, 4, 6, 2, 1, 0] rfl (xl12_rivals_56 E v1 v3 r6 s5 zfuel 0 0)
        ·
          refine x_bipush (pc := 47) (-4) dX12_rivals_47 rfl ?_
          exact x_iret (rm := r12_rivals) rfl rfl dX12_rivals_49
      ·
        refine x_iconst (pc := 26) (-1) dX12_rivals_26 rfl ?_
        exact x_iret (rm := r12_rivals) rfl rfl dX12_rivals_27
theorem c_12_rivals (l : Launch)  (v1 : Int32) (v2 : Int32) (v3 : Int32) (σ : zSt) : zMet l yX12_rivals cX12_rivals 7 (some .int) r12_rivals true eI [aR 12 (some 0), aI v1, aI v2, aI v3] σ (f12_rivals v1 v2 v3 σ) :=
  zMet_of [(0, aR 12 (some 0)), (1, aI v1), (2, aI v2), (3, aI v3)] (by decide +kernel) (fun h => by cases h) (Nat.le_of_ble_eq_true rfl) rfl fun E _ => x12_rivals E  v1 v2 v3 σ
abbrev r12_read : Room := { frames := 1, cells := 0, slots := 0, locals := 22 }
abbrev m12_read : zMu := (RX12, 3, (some .int), r12_read, false)
set_option maxRecDepth 20000 in
theorem x12_read (E : zEn)  (v1 : Int32) (v2 : Int32) (σ : zSt) : X E cX12_read m12_read true (zQw E true eI r12_read) 0 0 σ [(0, aR 12 (some 0)), (1, aI v1), (2, aI v2)] 0 [] (f12_read v1 v2 σ) := by
  unfold f12_read
  refine x_aload_n (pc := 0) 0 dX12_read_0 rfl rfl ?_
  refine x_iload_n (pc := 1) 1 dX12_read_1 rfl rfl ?_
  refine x_callVr (pc := 2) (as := [aI v1]) (rest := []) (fun l => c_12_isFault l true v1 σ) md_X12_isFault ⟨_, _, rfl, by decide⟩ tk_1532 tp_63 tk_1530 dX12_read_2 rfl ⟨by decide, by decide, by decide, by decide⟩ ⟨fun _ => rfl, fun _ => Or.inl rfl⟩ rfl (Nat.le_of_ble_eq_true rfl) (fun r1 => ?_)
  show X E _ _ _ _ 0 0 _ _ _ [aI r1] _
  refine x_if_eq (pc := 5) 28 dX12_read_5 (by decide) (fun _ => ?_) (fun _ => ?_)
  ·
    refine x_iconst (pc := 28) (-1) dX12_read_28 rfl ?_
    exact x_iret (rm := r12_read) rfl rfl dX12_read_29
  ·
    refine x_aload_n (pc := 8) 0 dX12_read_8 rfl rfl ?_
    refine x_iload_n (pc := 9) 1 dX12_read_9 rfl rfl ?_
    refine x_iconst (pc := 10) 2 dX12_read_10 rfl ?_
    refine x_callVr (pc := 11) (as := [aI v1, aI 2]) (rest := []) (fun l => c_12_hasFlag l v1 2 σ) md_X12_hasFlag ⟨_, _, rfl, by decide⟩ tk_1582 tp_68 tk_1580 dX12_read_11 rfl ⟨by decide, by decide, by decide, by decide⟩ ⟨fun _ => rfl, fun _ => Or.inl rfl⟩ rfl (Nat.le_of_ble_eq_true rfl) (fun r2 => ?_)
    show X E _ _ _ _ 0 0 _ _ _ [aI r2] _
    refine x_if_eq (pc := 14) 28 dX12_read_14 (by decide) (fun _ => ?_) (fun _ => ?_)
    ·
      refine x_iconst (pc := 28) (-1) dX12_read_28 rfl ?_
      exact x_iret (rm := r12_read) rfl rfl dX12_read_29
    ·
      refine x_iload_n (pc := 17) 2 dX12_read_17 rfl rfl ?_
      refine x_iconst (pc := 18) 0 dX12_read_18 rfl ?_
      refine x_sipush (pc := 19) 9999 dX12_read_19 rfl ?_
      refine x_callSr (pc := 22) (as := [aI v2, aI 0, aI 9999]) (rest := []) (fun l => c_12_within l true v2 0 9999 σ) md_X12_within tk_1447 tk_1446 dX12_read_22 rfl ⟨by decide, by decide, by decide, by decide⟩ ⟨fun _ => rfl, fun _ => Or.inl rfl⟩ rfl (Nat.le_of_ble_eq_true rfl) (fun r3 => ?_)
      show X E _ _ _ _ 0 0 _ _ _ [aI r3] _
      refine x_if_ne (pc := 25) 30 dX12_read_25 (by decide) (fun _ => ?_) (fun _ => ?_)
      ·
        refine x_aload_n (pc := 30) 0 dX12_read_30 rfl rfl ?_
        refine x_getF (pc := 31) (j := 0) fd_12_44 rfl rfl tk_1239 dX12_read_31 ?_
        refine x_iload_n (pc := 34) 1 dX12_read_34 rfl rfl ?_
        refine x_iald (pc := 35) ar_1344 dX12_read_35 (fun m4 => ?_)
        refine x_join (P := fun (j5 : Option (Int32 × zSt)) => X E cX12_read m12_read true (zQw E true eI r12_read) 0 0 σ [(0, aR 12 (some 0)), (1, aI v1), (2, aI v2)] 67 [] j5) ?_ ?_
        ·
          refine x_aload_n (pc := 67) 0 dX12_read_67 rfl rfl ?_
          refine x_getF (pc := 68) (j := 0) fd_12_44 rfl rfl tk_1239 dX12_read_68 ?_
          refine x_iload_n (pc := 71) 1 dX12_read_71 rfl rfl ?_
          refine x_iald (pc := 72) ar_1344 dX12_read_72 (fun m7 => ?_)
          refine x_bipush (pc := 73) 12 dX12_read_73 rfl ?_
          refine x_icmp_ne (pc := 75) 81 dX12_read_75 (by decide) (fun _ => ?_) (fun _ => ?_)
          ·
            refine x_aload_n (pc := 81) 0 dX12_read_81 rfl rfl ?_
            refine x_getF (pc := 82) (j := 0) fd_12_42 rfl rfl tk_1237 dX12_read_82 ?_
            refine x_bipush (pc := 85) 12 dX12_read_85 rfl ?_
            refine x_iload_n (pc := 87) 1 dX12_read_87 rfl rfl ?_
            refine x_imul (pc := 88) dX12_read_88 ?_
            refine x_aload_n (pc := 89) 0 dX12_read_89 rfl rfl ?_
            refine x_getF (pc := 90) (j := 0) fd_12_44 rfl rfl tk_1239 dX12_read_90 ?_
            refine x_iload_n (pc := 93) 1 dX12_read_93 rfl rfl ?_
            refine x_iald (pc := 94) ar_1344 dX12_read_94 (fun m8 => ?_)
            refine x_iadd (pc := 95) dX12_read_95 ?_
            refine x_aload_n (pc := 96) 0 dX12_read_96 rfl rfl ?_
            refine x_getI (pc := 97) fd_12_0 tk_1195 dX12_read_97 ?_
            refine x_iast (pc := 100) ar_1342 dX12_read_100 (fun m9 => ?_)
            refine x_nameS (fun s10 => ?_)
            refine x_aload_n (pc := 101) 0 dX12_read_101 rfl rfl ?_
            refine x_getF (pc := 102) (j := 0) fd_12_43 rfl rfl tk_1238 dX12_read_102 ?_
            refine x_bipush (pc := 105) 12 dX12_read_105 rfl ?_
            refine x_iload_n (pc := 107) 1 dX12_read_107 rfl rfl ?_
            refine x_imul (pc := 108) dX12_read_108 ?_
            refine x_aload_n (pc := 109) 0 dX12_read_109 rfl rfl ?_
            refine x_getF (pc := 110) (j := 0) fd_12_44 rfl rfl tk_1239 dX12_read_110 ?_
            refine x_iload_n (pc := 113) 1 dX12_read_113 rfl rfl ?_
            refine x_iald (pc := 114) ar_1344 dX12_read_114 (fun m11 => ?_)
            refine x_iadd (pc := 115) dX12_read_115 ?_
            refine x_iload_n (pc := 116) 2 dX12_read_116 rfl rfl ?_
            refine x_iast (pc := 117) ar_1343 dX12_read_117 (fun m12 => ?_)
            refine x_nameS (fun s13 => ?_)
            refine x_aload_n (pc := 118) 0 dX12_read_118 rfl rfl ?_
            refine x_getF (pc := 119) (j := 0) fd_12_44 rfl rfl tk_1239 dX12_read_119 ?_
            refine x_iload_n (pc := 122) 1 dX12_read_122 rfl rfl ?_
            refine x_dup2 (pc := 123) dX12_read_123 rfl rfl ?_
            refine x_iald (pc := 124) ar_1344 dX12_read_124 (fun m14 => ?_)
            refine x_iconst (pc := 125) 1 dX12_read_125 rfl ?_
            refine x_iadd (pc := 126) dX12_read_126 ?_
            refine x_iast (pc := 127) ar_1344 dX12_read_127 (fun m15 => ?_)
            refine x_nameS (fun s16 => ?_)
            refine x_aload_n (pc := 128) 0 dX12_read_128 rfl rfl ?_
            refine x_getF (pc := 129) (j := 0) fd_12_44 rfl rfl tk_1239 dX12_read_129 ?_
            refine x_iload_n (pc := 132) 1 dX12_read_132 rfl rfl ?_
            refine x_iald (pc := 133) ar_1344 dX12_read_133 (fun m17 => ?_)
            exact x_iret (rm := r12_read) rfl rfl dX12_read_134
          ·
            refine x_bipush (pc := 78) (-2) dX12_read_78 rfl ?_
            exact x_iret (rm := r12_read) rfl rfl dX12_read_80
        · intro j5 hj6
          refine x_if_le (pc := 36) 67 dX12_read_36 (by decide) (fun _ => ?_) (fun _ => ?_)
          ·
            exact hj6
          ·
            refine x_aload_n (pc := 39) 0 dX12_read_39 rfl rfl ?_
            refine x_getF (pc := 40) (j := 0) fd_12_42 rfl rfl tk_1237 dX12_read_40 ?_
            refine x_bipush (pc := 43) 12 dX12_read_43 rfl ?_
            refine x_iload_n (pc := 45) 1 dX12_read_45 rfl rfl ?_
            refine x_imul (pc := 46) dX12_read_46 ?_
            refine x_aload_n (pc := 47) 0 dX12_read_47 rfl rfl ?_
            refine x_getF (pc := 48) (j := 0) fd_12_44 rfl rfl tk_1239 dX12_read_48 ?_
            refine x_iload_n (pc := 51) 1 dX12_read_51 rfl rfl ?_
            refine x_iald (pc := 52) ar_1344 dX12_read_52 (fun m18 => ?_)
            refine x_iadd (pc := 53) dX12_read_53 ?_
            refine x_iconst (pc := 54) 1 dX12_read_54 rfl ?_
            refine x_isub (pc := 55) dX12_read_55 ?_
            refine x_iald (pc := 56) ar_1342 dX12_read_56 (fun m19 => ?_)
            refine x_aload_n (pc := 57) 0 dX12_read_57 rfl rfl ?_
            refine x_getI (pc := 58) fd_12_0 tk_1195 dX12_read_58 ?_
            refine x_icmp_ne (pc := 61) 67 dX12_read_61 (by decide) (fun _ => ?_) (fun _ => ?_)
            ·
              exact hj6
            ·
              refine x_bipush (pc := 64) (-3) dX12_read_64 rfl ?_
              exact x_iret (rm := r12_read) rfl rfl dX12_read_66
      ·
        refine x_iconst (pc := 28) (-1) dX12_read_28 rfl ?_
        exact x_iret (rm := r12_read) rfl rfl dX12_read_29
theorem c_12_read (l : Launch)  (v1 : Int32) (v2 : Int32) (σ : zSt) : zMet l yX12_read cX12_read 3 (some .int) r12_read true eI [aR 12 (some 0), aI v1, aI v2] σ (f12_read v1 v2 σ) :=
  zMet_of [(0, aR 12 (some 0)), (1, aI v1), (2, aI v2)] (by decide +kernel) (fun h => by cases h) (Nat.le_of_ble_eq_true rfl) rfl fun E _ => x12_read E  v1 v2 σ
abbrev r12_paceOf : Room := { frames := 0, cells := 0, slots := 0, locals := 0 }
abbrev m12_paceOf : zMu := (RX12, 4, (some .int), r12_paceOf, false)
set_option maxRecDepth 20000 in
theorem x12_paceOf (E : zEn)  (v1 : Int32) (v2 : Int32) (σ : zSt) : X E cX12_paceOf m12_paceOf true (zQr E true eI r12_paceOf σ) 0 0 σ [(0, aR 12 (some 0)), (1, aI v1), (2, aI v2)] 0 [] (f12_paceOf v1 v2 σ) := by
  unfold f12_paceOf
  refine x_bipush (pc := 0) 12 dX12_paceOf_0 rfl ?_
  refine x_iload_n (pc := 2) 1 dX12_paceOf_2 rfl rfl ?_
  refine x_imul (pc := 3) dX12_paceOf_3 ?_
  refine x_iload_n (pc := 4) 2 dX12_paceOf_4 rfl rfl ?_
  refine x_iadd (pc := 5) dX12_paceOf_5 ?_
  refine x_nameI (fun x1 => ?_)
  refine x_istore_n (pc := 6) (als' := [(3, aI x1), (0, aR 12 (some 0)), (1, aI v1), (2, aI v2)]) 3 dX12_paceOf_6 rfl (by decide) rfl ?_
  refine x_aload_n (pc := 7) 0 dX12_paceOf_7 rfl rfl ?_
  refine x_getF (pc := 8) (j := 0) fd_12_43 rfl rfl tk_1238 dX12_paceOf_8 ?_
  refine x_iload_n (pc := 11) 3 dX12_paceOf_11 rfl rfl ?_
  refine x_iconst (pc := 12) 1 dX12_paceOf_12 rfl ?_
  refine x_iadd (pc := 13) dX12_paceOf_13 ?_
  refine x_iald (pc := 14) ar_1343 dX12_paceOf_14 (fun m2 => ?_)
  refine x_aload_n (pc := 15) 0 dX12_paceOf_15 rfl rfl ?_
  refine x_getF (pc := 16) (j := 0) fd_12_43 rfl rfl tk_1238 dX12_paceOf_16 ?_
  refine x_iload_n (pc := 19) 3 dX12_paceOf_19 rfl rfl ?_
  refine x_iald (pc := 20) ar_1343 dX12_paceOf_20 (fun m3 => ?_)
  refine x_isub (pc := 21) dX12_paceOf_21 ?_
  refine x_sipush (pc := 22) 1000 dX12_paceOf_22 rfl ?_
  refine x_imul (pc := 25) dX12_paceOf_25 ?_
  refine x_aload_n (pc := 26) 0 dX12_paceOf_26 rfl rfl ?_
  refine x_getF (pc := 27) (j := 0) fd_12_42 rfl rfl tk_1237 dX12_paceOf_27 ?_
  refine x_iload_n (pc := 30) 3 dX12_paceOf_30 rfl rfl ?_
  refine x_iconst (pc := 31) 1 dX12_paceOf_31 rfl ?_
  refine x_iadd (pc := 32) dX12_paceOf_32 ?_
  refine x_iald (pc := 33) ar_1342 dX12_paceOf_33 (fun m4 => ?_)
  refine x_aload_n (pc := 34) 0 dX12_paceOf_34 rfl rfl ?_
  refine x_getF (pc := 35) (j := 0) fd_12_42 rfl rfl tk_1237 dX12_paceOf_35 ?_
  refine x_iload_n (pc := 38) 3 dX12_paceOf_38 rfl rfl ?_
  refine x_iald (pc := 39) ar_1342 dX12_paceOf_39 (fun m5 => ?_)
  refine x_isub (pc := 40) dX12_paceOf_40 ?_
  refine x_idiv (pc := 41) dX12_paceOf_41 ?_
  exact x_iret (rm := r12_paceOf) rfl rfl dX12_paceOf_42
theorem c_12_paceOf (l : Launch)  (v1 : Int32) (v2 : Int32) (σ : zSt) : zMet l yX12_paceOf cX12_paceOf 4 (some .int) r12_paceOf true eI [aR 12 (some 0), aI v1, aI v2] σ (zro (f12_paceOf v1 v2 σ) σ) :=
  zMet_ofR [(0, aR 12 (some 0)), (1, aI v1), (2, aI v2)] (by decide +kernel) (fun h => by cases h) (Nat.le_of_ble_eq_true rfl) rfl fun E _ => x12_paceOf E  v1 v2 σ
abbrev r12_gaugeOf : Room := { frames := 1, cells := 0, slots := 0, locals := 23 }
abbrev m12_gaugeOf : zMu := (RX12, 14, (some .int), r12_gaugeOf, false)
set_option maxRecDepth 20000 in
theorem xl12_gaugeOf_2 (E : zEn)   (h1 : Int32) (h2 : Int32) (σ : zSt) {K33 : Int32 → Option Int32} (hK33 : ∀ (v3 : Int32), X E cX12_gaugeOf m12_gaugeOf true (zQr E true eI r12_gaugeOf σ) 0 0 σ [(0, aR 12 (some 0)), (1, aI h1), (3, aI v3)] 33 [] (K33 v3)) : ∀ (n : Nat) (v3 : Int32), X E cX12_gaugeOf m12_gaugeOf true (zQr E true eI r12_gaugeOf σ) 0 0 σ [(0, aR 12 (some 0)), (1, aI h1), (2, aI h2), (3, aI v3)] 2 [] (f12_gaugeOf_L2 h1 h2 σ K33 n v3) := by
  intro n
  induction n with
  | zero => intros; exact x_none
  | succ n ih =>
    intro v3
    rw [f12_gaugeOf_L2]
    refine x_iload_n (pc := 2) 3 dX12_gaugeOf_2 rfl rfl ?_
    refine x_aload_n (pc := 3) 0 dX12_gaugeOf_3 rfl rfl ?_
    refine x_getF (pc := 4) (j := 0) fd_12_44 rfl rfl tk_1239 dX12_gaugeOf_4 ?_
    refine x_iload_n (pc := 7) 1 dX12_gaugeOf_7 rfl rfl ?_
    refine x_iald (pc := 8) ar_1344 dX12_gaugeOf_8 (fun m1 => ?_)
    refine x_icmp_ge (pc := 9) 33 dX12_gaugeOf_9 (by decide) (fun _ => ?_) (fun _ => ?_)
    ·
      exact x_sub [0, 1, 3] rfl (hK33 v3)
    ·
      refine x_aload_n (pc := 12) 0 dX12_gaugeOf_12 rfl rfl ?_
      refine x_getF (pc := 13) (j := 0) fd_12_42 rfl rfl tk_1237 dX12_gaugeOf_13 ?_
      refine x_bipush (pc := 16) 12 dX12_gaugeOf_16 rfl ?_
      refine x_iload_n (pc := 18) 1 dX12_gaugeOf_18 rfl rfl ?_
      refine x_imul (pc := 19) dX12_gaugeOf_19 ?_
      refine x_iload_n (pc := 20) 3 dX12_gaugeOf_20 rfl rfl ?_
      refine x_iadd (pc := 21) dX12_gaugeOf_21 ?_
      refine x_iald (pc := 22) ar_1342 dX12_gaugeOf_22 (fun m2 => ?_)
      refine x_iload_n (pc := 23) 2 dX12_gaugeOf_23 rfl rfl ?_
      refine x_icmp_gt (pc := 24) 33 dX12_gaugeOf_24 (by decide) (fun _ => ?_) (fun _ => ?_)
      ·
        exact x_sub [0, 1, 3] rfl (hK33 v3)
      ·
        refine x_iinc (pc := 27) (als' := [(3, aI (v3 + 1)), (0, aR 12 (some 0)), (1, aI h1), (2, aI h2)]) 3 3 (c := 1) dX12_gaugeOf_27 rfl rfl (by decide) rfl ?_
        refine x_nameV (g := fun y4 => [(3, aI y4), (0, aR 12 (some 0)), (1, aI h1), (2, aI h2)]) (fun x3 => ?_) rfl
        refine x_goto (pc := 30) 2 dX12_gaugeOf_30 (by decide) ?_
        exact x_sub [1, 2, 3, 0] rfl (ih x3)
set_option maxRecDepth 20000 in
theorem xl12_gaugeOf_103 (E : zEn)   (h1 : Int32) (h3 : Int32) (h4 : Int32) (h5 : Int32) (σ : zSt) {K282 : Int32 → Int32 → Int32 → Int32 → Int32 → Option Int32} (hK282 : ∀ (v6 : Int32) (v7 : Int32) (v8 : Int32) (v9 : Int32) (v10 : Int32), X E cX12_gaugeOf m12_gaugeOf true (zQr E true eI r12_gaugeOf σ) 0 0 σ [(4, aI h4), (5, aI h5), (6, aI v6), (7, aI v7), (8, aI v8), (9, aI v9), (10, aI v10)] 282 [] (K282 v6 v7 v8 v9 v10)) : ∀ (n : Nat) (v6 : Int32) (v7 : Int32) (v8 : Int32) (v9 : Int32) (v10 : Int32) (v11 : Int32), X E cX12_gaugeOf m12_gaugeOf true (zQr E true eI r12_gaugeOf σ) 0 0 σ [(0, aR 12 (some 0)), (1, aI h1), (3, aI h3), (4, aI h4), (5, aI h5), (6, aI v6), (7, aI v7), (8, aI v8), (9, aI v9), (10, aI v10), (11, aI v11)] 103 [] (f12_gaugeOf_L103 h1 h3 h4 h5 σ K282 n v6 v7 v8 v9 v10 v11) := by
  intro n
  induction n with
  | zero => intros; exact x_none
  | succ n ih =>
    intro v6 v7 v8 v9 v10 v11
    rw [f12_gaugeOf_L103]
    refine x_iload (pc := 103) 11 dX12_gaugeOf_103 rfl ?_
    refine x_iload_n (pc := 105) 3 dX12_gaugeOf_105 rfl rfl ?_
    refine x_iconst (pc := 106) 1 dX12_gaugeOf_106 rfl ?_
    refine x_isub (pc := 107) dX12_gaugeOf_107 ?_
    refine x_icmp_ge (pc := 108) 282 dX12_gaugeOf_108 (by decide) (fun _ => ?_) (fun _ => ?_)
    ·
      exact x_sub [3, 4, 5, 6, 7, 8, 9] rfl (hK282 v6 v7 v8 v9 v10)
    ·
      refine x_aload_n (pc := 111) 0 dX12_gaugeOf_111 rfl rfl ?_
      refine x_iload_n (pc := 112) 1 dX12_gaugeOf_112 rfl rfl ?_
      refine x_iload (pc := 113) 11 dX12_gaugeOf_113 rfl ?_
      refine x_callVr (pc := 115) (as := [aI h1, aI v11]) (rest := []) (fun l => c_12_paceOf l h1 v11 σ) md_X12_paceOf ⟨_, _, rfl, by decide⟩ tk_1665 tp_79 tk_1663 dX12_gaugeOf_115 rfl ⟨by decide, by decide, by decide, by decide⟩ ⟨fun _ => rfl, fun _ => Or.inl rfl⟩ rfl (Nat.le_of_ble_eq_true rfl) (fun r14 => ?_)
      show X E _ _ _ _ 0 0 _ _ _ [aI r14] _
      refine x_istore (pc := 118) (als' := [(12, aI r14), (0, aR 12 (some 0)), (1, aI h1), (3, aI h3), (4, aI h4), (5, aI h5), (6, aI v6), (7, aI v7), (8, aI v8), (9, aI v9), (10, aI v10), (11, aI v11)]) 12 dX12_gaugeOf_118 (by decide) rfl ?_
      refine x_iload (pc := 120) 6 dX12_gaugeOf_120 rfl ?_
      refine x_join (P := fun (j16 : Int32 → Option Int32) => ∀ (a15 : Int32), X E cX12_gaugeOf m12_gaugeOf true (zQr E true eI r12_gaugeOf σ) 0 0 σ [(0, aR 12 (some 0)), (1, aI h1), (3, aI h3), (4, aI h4), (5, aI h5), (7, aI v7), (8, aI v8), (9, aI v9), (10, aI v10), (11, aI v11), (12, aI r14)] 154 [aI a15] (j16 a15)) ?_ ?_
      · intro a15
        refine x_istore (pc := 154) (als' := [(6, aI a15), (0, aR 12 (some 0)), (1, aI h1), (3, aI h3), (4, aI h4), (5, aI h5), (7, aI v7), (8, aI v8), (9, aI v9), (10, aI v10), (11, aI v11), (12, aI r14)]) 6 dX12_gaugeOf_154 (by decide) rfl ?_
        refine x_aload_n (pc := 156) 0 dX12_gaugeOf_156 rfl rfl ?_
        refine x_getF (pc := 157) (j := 0) fd_12_42 rfl rfl tk_1237 dX12_gaugeOf_157 ?_
        refine x_bipush (pc := 160) 12 dX12_gaugeOf_160 rfl ?_
        refine x_iload_n (pc := 162) 1 dX12_gaugeOf_162 rfl rfl ?_
        refine x_imul (pc := 163) dX12_gaugeOf_163 ?_
        refine x_iload (pc := 164) 11 dX12_gaugeOf_164 rfl ?_
        refine x_iadd (pc := 166) dX12_gaugeOf_166 ?_
        refine x_iconst (pc := 167) 1 dX12_gaugeOf_167 rfl ?_
        refine x_iadd (pc := 168) dX12_gaugeOf_168 ?_
        refine x_iald (pc := 169) ar_1342 dX12_gaugeOf_169 (fun m18 => ?_)
        refine x_bipush (pc := 170) 30 dX12_gaugeOf_170 rfl ?_
        refine x_idivC (pc := 172) dX12_gaugeOf_172 (by decide) ?_
        refine x_bipush (pc := 173) 12 dX12_gaugeOf_173 rfl ?_
        refine x_iremC (pc := 175) dX12_gaugeOf_175 (by decide) ?_
        refine x_bipush (pc := 176) 6 dX12_gaugeOf_176 rfl ?_
        refine x_mg (c := (6 : Int32) ≤ (zop_irem (zop_idiv (gI σ 1342 0 m18) 30) 12)) (a := 0) (b := 1) 186 [] ?_ (fun hm19 => ?_)
        ·
          refine x_nameI (fun x23 => ?_)
          refine x_istore (pc := 186) (als' := [(13, aI x23), (6, aI a15), (0, aR 12 (some 0)), (1, aI h1), (3, aI h3), (4, aI h4), (5, aI h5), (7, aI v7), (8, aI v8), (9, aI v9), (10, aI v10), (11, aI v11), (12, aI r14)]) 13 dX12_gaugeOf_186 (by decide) rfl ?_
          refine x_iload (pc := 188) 7 dX12_gaugeOf_188 rfl ?_
          refine x_mg (c := v7 = 0) (a := (if x23 = 0 then 0 else (if r14 ≤ 0 then 0 else 1))) (b := 1) 208 [] ?_ (fun hm24 => ?_)
          ·
            refine x_nameI (fun x34 => ?_)
            refine x_istore (pc := 208) (als' := [(7, aI x34), (13, aI x23), (6, aI a15), (0, aR 12 (some 0)), (1, aI h1), (3, aI h3), (4, aI h4), (5, aI h5), (8, aI v8), (9, aI v9), (10, aI v10), (11, aI v11), (12, aI r14)]) 7 dX12_gaugeOf_208 (by decide) rfl ?_
            refine x_iload (pc := 210) 8 dX12_gaugeOf_210 rfl ?_
            refine x_mg (c := v8 = 0) (a := (if x23 = 0 then 0 else (if 0 ≤ r14 then 0 else 1))) (b := 1) 230 [] ?_ (fun hm35 => ?_)
            ·
              refine x_nameI (fun x45 => ?_)
              refine x_istore (pc := 230) (als' := [(8, aI x45), (7, aI x34), (13, aI x23), (6, aI a15), (0, aR 12 (some 0)), (1, aI h1), (3, aI h3), (4, aI h4), (5, aI h5), (9, aI v9), (10, aI v10), (11, aI v11), (12, aI r14)]) 8 dX12_gaugeOf_230 (by decide) rfl ?_
              refine x_iload (pc := 232) 9 dX12_gaugeOf_232 rfl ?_
              refine x_mg (c := v9 = 0) (a := (if x23 = 0 then (if r14 ≤ 0 then 0 else 1) else 0)) (b := 1) 252 [] ?_ (fun hm46 => ?_)
              ·
                refine x_nameI (fun x56 => ?_)
                refine x_istore (pc := 252) (als' := [(9, aI x56), (8, aI x45), (7, aI x34), (13, aI x23), (6, aI a15), (0, aR 12 (some 0)), (1, aI h1), (3, aI h3), (4, aI h4), (5, aI h5), (10, aI v10), (11, aI v11), (12, aI r14)]) 9 dX12_gaugeOf_252 (by decide) rfl ?_
                refine x_iload (pc := 254) 10 dX12_gaugeOf_254 rfl ?_
                refine x_mg (c := v10 = 0) (a := (if x23 = 0 then (if 0 ≤ r14 then 0 else 1) else 0)) (b := 1) 274 [] ?_ (fun hm57 => ?_)
                ·
                  refine x_nameI (fun x67 => ?_)
                  refine x_istore (pc := 274) (als' := [(10, aI x67), (9, aI x56), (8, aI x45), (7, aI x34), (13, aI x23), (6, aI a15), (0, aR 12 (some 0)), (1, aI h1), (3, aI h3), (4, aI h4), (5, aI h5), (11, aI v11), (12, aI r14)]) 10 dX12_gaugeOf_274 (by decide) rfl ?_
                  refine x_iinc (pc := 276) (als' := [(11, aI (v11 + 1)), (10, aI x67), (9, aI x56), (8, aI x45), (7, aI x34), (13, aI x23), (6, aI a15), (0, aR 12 (some 0)), (1, aI h1), (3, aI h3), (4, aI h4), (5, aI h5), (12, aI r14)]) 11 11 (c := 1) dX12_gaugeOf_276 rfl rfl (by decide) rfl ?_
                  refine x_nameV (g := fun y69 => [(11, aI y69), (10, aI x67), (9, aI x56), (8, aI x45), (7, aI x34), (13, aI x23), (6, aI a15), (0, aR 12 (some 0)), (1, aI h1), (3, aI h3), (4, aI h4), (5, aI h5), (12, aI r14)]) (fun x68 => ?_) rfl
                  refine x_goto (pc := 279) 103 dX12_gaugeOf_279 (by decide) ?_
                  exact x_sub [7, 8, 9, 10, 11, 6, 4, 3, 2, 1, 0] rfl (ih a15 x34 x45 x56 x67 x68)
                ·
                  refine x_same (c := v10 = 0) ?_
                  refine x_if_ne (pc := 256) 269 dX12_gaugeOf_256 (by decide) (fun hc58 => ?_) (fun hc58 => ?_)
                  ·
                    have hm60 := x_topF hc58 hm57
                    refine x_iconst (pc := 269) 1 dX12_gaugeOf_269 rfl ?_
                    refine x_goto (pc := 270) 274 dX12_gaugeOf_270 (by decide) ?_
                    exact hm60
                  ·
                    have hm59 := x_topT hc58 hm57
                    refine x_iload (pc := 259) 13 dX12_gaugeOf_259 rfl ?_
                    refine x_same (c := x23 = 0) ?_
                    refine x_if_ne (pc := 261) 273 dX12_gaugeOf_261 (by decide) (fun hc61 => ?_) (fun hc61 => ?_)
                    ·
                      have hm63 := x_topF hc61 hm59
                      refine x_iconst (pc := 273) 0 dX12_gaugeOf_273 rfl ?_
                      exact hm63
                    ·
                      have hm62 := x_topT hc61 hm59
                      refine x_iload (pc := 264) 12 dX12_gaugeOf_264 rfl ?_
                      refine x_same (c := 0 ≤ r14) ?_
                      refine x_if_ge (pc := 266) 273 dX12_gaugeOf_266 (by decide) (fun hc64 => ?_) (fun hc64 => ?_)
                      ·
                        have hm65 := x_topT hc64 hm62
                        refine x_iconst (pc := 273) 0 dX12_gaugeOf_273 rfl ?_
                        exact hm65
                      ·
                        have hm66 := x_topF hc64 hm62
                        refine x_iconst (pc := 269) 1 dX12_gaugeOf_269 rfl ?_
                        refine x_goto (pc := 270) 274 dX12_gaugeOf_270 (by decide) ?_
                        exact hm66
              ·
                refine x_same (c := v9 = 0) ?_
                refine x_if_ne (pc := 234) 247 dX12_gaugeOf_234 (by decide) (fun hc47 => ?_) (fun hc47 => ?_)
                ·
                  have hm49 := x_topF hc47 hm46
                  refine x_iconst (pc := 247) 1 dX12_gaugeOf_247 rfl ?_
                  refine x_goto (pc := 248) 252 dX12_gaugeOf_248 (by decide) ?_
                  exact hm49
                ·
                  have hm48 := x_topT hc47 hm46
                  refine x_iload (pc := 237) 13 dX12_gaugeOf_237 rfl ?_
                  refine x_same (c := x23 = 0) ?_
                  refine x_if_ne (pc := 239) 251 dX12_gaugeOf_239 (by decide) (fun hc50 => ?_) (fun hc50 => ?_)
                  ·
                    have hm52 := x_topF hc50 hm48
                    refine x_iconst (pc := 251) 0 dX12_gaugeOf_251 rfl ?_
                    exact hm52
                  ·
                    have hm51 := x_topT hc50 hm48
                    refine x_iload (pc := 242) 12 dX12_gaugeOf_242 rfl ?_
                    refine x_same (c := r14 ≤ 0) ?_
                    refine x_if_le (pc := 244) 251 dX12_gaugeOf_244 (by decide) (fun hc53 => ?_) (fun hc53 => ?_)
                    ·
                      have hm54 := x_topT hc53 hm51
                      refine x_iconst (pc := 251) 0 dX12_gaugeOf_251 rfl ?_
                      exact hm54
                    ·
                      have hm55 := x_topF hc53 hm51
                      refine x_iconst (pc := 247) 1 dX12_gaugeOf_247 rfl ?_
                      refine x_goto (pc := 248) 252 dX12_gaugeOf_248 (by decide) ?_
                      exact hm55
            ·
              refine x_same (c := v8 = 0) ?_
              refine x_if_ne (pc := 212) 225 dX12_gaugeOf_212 (by decide) (fun hc36 => ?_) (fun hc36 => ?_)
              ·
                have hm38 := x_topF hc36 hm35
                refine x_iconst (pc := 225) 1 dX12_gaugeOf_225 rfl ?_
                refine x_goto (pc := 226) 230 dX12_gaugeOf_226 (by decide) ?_
                exact hm38
              ·
                have hm37 := x_topT hc36 hm35
                refine x_iload (pc := 215) 13 dX12_gaugeOf_215 rfl ?_
                refine x_same (c := x23 = 0) ?_
                refine x_if_eq (pc := 217) 229 dX12_gaugeOf_217 (by decide) (fun hc39 => ?_) (fun hc39 => ?_)
                ·
                  have hm40 := x_topT hc39 hm37
                  refine x_iconst (pc := 229) 0 dX12_gaugeOf_229 rfl ?_
                  exact hm40
                ·
                  have hm41 := x_topF hc39 hm37
                  refine x_iload (pc := 220) 12 dX12_gaugeOf_220 rfl ?_
                  refine x_same (c := 0 ≤ r14) ?_
                  refine x_if_ge (pc := 222) 229 dX12_gaugeOf_222 (by decide) (fun hc42 => ?_) (fun hc42 => ?_)
                  ·
                    have hm43 := x_topT hc42 hm41
                    refine x_iconst (pc := 229) 0 dX12_gaugeOf_229 rfl ?_
                    exact hm43
                  ·
                    have hm44 := x_topF hc42 hm41
                    refine x_iconst (pc := 225) 1 dX12_gaugeOf_225 rfl ?_
                    refine x_goto (pc := 226) 230 dX12_gaugeOf_226 (by decide) ?_
                    exact hm44
          ·
            refine x_same (c := v7 = 0) ?_
            refine x_if_ne (pc := 190) 203 dX12_gaugeOf_190 (by decide) (fun hc25 => ?_) (fun hc25 => ?_)
            ·
              have hm27 := x_topF hc25 hm24
              refine x_iconst (pc := 203) 1 dX12_gaugeOf_203 rfl ?_
              refine x_goto (pc := 204) 208 dX12_gaugeOf_204 (by decide) ?_
              exact hm27
            ·
              have hm26 := x_topT hc25 hm24
              refine x_iload (pc := 193) 13 dX12_gaugeOf_193 rfl ?_
              refine x_same (c := x23 = 0) ?_
              refine x_if_eq (pc := 195) 207 dX12_gaugeOf_195 (by decide) (fun hc28 => ?_) (fun hc28 => ?_)
              ·
                have hm29 := x_topT hc28 hm26
                refine x_iconst (pc := 207) 0 dX12_gaugeOf_207 rfl ?_
                exact hm29
              ·
                have hm30 := x_topF hc28 hm26
                refine x_iload (pc := 198) 12 dX12_gaugeOf_198 rfl ?_
                refine x_same (c := r14 ≤ 0) ?_
                refine x_if_le (pc := 200) 207 dX12_gaugeOf_200 (by decide) (fun hc31 => ?_) (fun hc31 => ?_)
                ·
                  have hm32 := x_topT hc31 hm30
                  refine x_iconst (pc := 207) 0 dX12_gaugeOf_207 rfl ?_
                  exact hm32
                ·
                  have hm33 := x_topF hc31 hm30
                  refine x_iconst (pc := 203) 1 dX12_gaugeOf_203 rfl ?_
                  refine x_goto (pc := 204) 208 dX12_gaugeOf_204 (by decide) ?_
                  exact hm33
        ·
          refine x_same (c := (6 : Int32) ≤ (zop_irem (zop_idiv (gI σ 1342 0 m18) 30) 12)) ?_
          refine x_icmp_ge (pc := 178) 185 dX12_gaugeOf_178 (by decide) (fun hc20 => ?_) (fun hc20 => ?_)
          ·
            have hm21 := x_topT hc20 hm19
            refine x_iconst (pc := 185) 0 dX12_gaugeOf_185 rfl ?_
            exact hm21
          ·
            have hm22 := x_topF hc20 hm19
            refine x_iconst (pc := 181) 1 dX12_gaugeOf_181 rfl ?_
            refine x_goto (pc := 182) 186 dX12_gaugeOf_182 (by decide) ?_
            exact hm22
      · intro j16 hj17
        refine x_join (P := fun (j70 : Option Int32) => X E cX12_gaugeOf m12_gaugeOf true (zQr E true eI r12_gaugeOf σ) 0 0 σ [(0, aR 12 (some 0)), (1, aI h1), (3, aI h3), (4, aI h4), (5, aI h5), (7, aI v7), (8, aI v8), (9, aI v9), (10, aI v10), (11, aI v11), (12, aI r14)] 153 [] j70) ?_ ?_
        ·
          refine x_iconst (pc := 153) 0 dX12_gaugeOf_153 rfl ?_
          exact hj17 0
        · intro j70 hj71
          refine x_if_eq (pc := 122) 153 dX12_gaugeOf_122 (by decide) (fun _ => ?_) (fun _ => ?_)
          ·
            exact x_sub [1, 2, 3, 4, 5, 7, 8, 9, 10, 11, 0] rfl (hj71)
          ·
            refine x_iload (pc := 125) 12 dX12_gaugeOf_125 rfl ?_
            refine x_if_lt (pc := 127) 153 dX12_gaugeOf_127 (by decide) (fun _ => ?_) (fun _ => ?_)
            ·
              exact x_sub [1, 2, 3, 4, 5, 7, 8, 9, 10, 11, 0] rfl (hj71)
            ·
              refine x_iload (pc := 130) 11 dX12_gaugeOf_130 rfl ?_
              refine x_join (P := fun (j72 : Option Int32) => X E cX12_gaugeOf m12_gaugeOf true (zQr E true eI r12_gaugeOf σ) 0 0 σ [(0, aR 12 (some 0)), (1, aI h1), (3, aI h3), (4, aI h4), (5, aI h5), (7, aI v7), (8, aI v8), (9, aI v9), (10, aI v10), (11, aI v11), (12, aI r14)] 149 [] j72) ?_ ?_
              ·
                refine x_iconst (pc := 149) 1 dX12_gaugeOf_149 rfl ?_
                refine x_goto (pc := 150) 154 dX12_gaugeOf_150 (by decide) ?_
                exact hj17 1
              · intro j72 hj73
                refine x_if_eq (pc := 132) 149 dX12_gaugeOf_132 (by decide) (fun _ => ?_) (fun _ => ?_)
                ·
                  exact x_sub [1, 2, 3, 4, 5, 7, 8, 9, 10, 11, 0] rfl (hj73)
                ·
                  refine x_iload (pc := 135) 12 dX12_gaugeOf_135 rfl ?_
                  refine x_aload_n (pc := 137) 0 dX12_gaugeOf_137 rfl rfl ?_
                  refine x_iload_n (pc := 138) 1 dX12_gaugeOf_138 rfl rfl ?_
                  refine x_iload (pc := 139) 11 dX12_gaugeOf_139 rfl ?_
                  refine x_iconst (pc := 141) 1 dX12_gaugeOf_141 rfl ?_
                  refine x_isub (pc := 142) dX12_gaugeOf_142 ?_
                  refine x_callVr (pc := 143) (as := [aI h1, aI (v11 - 1)]) (rest := [aI r14]) (fun l => c_12_paceOf l h1 (v11 - 1) σ) md_X12_paceOf ⟨_, _, rfl, by decide⟩ tk_1665 tp_79 tk_1663 dX12_gaugeOf_143 rfl ⟨by decide, by decide, by decide, by decide⟩ ⟨fun _ => rfl, fun _ => Or.inl rfl⟩ rfl (Nat.le_of_ble_eq_true rfl) (fun r74 => ?_)
                  show X E _ _ _ _ 0 0 _ _ _ [aI r74, aI r14] _
                  refine x_icmp_gt (pc := 146) 153 dX12_gaugeOf_146 (by decide) (fun _ => ?_) (fun _ => ?_)
                  ·
                    exact x_sub [1, 2, 3, 4, 5, 7, 8, 9, 10, 11, 0] rfl (hj71)
                  ·
                    exact x_sub [1, 2, 3, 4, 5, 7, 8, 9, 10, 11, 0] rfl (hj73)
set_option maxRecDepth 20000 in
theorem x12_gaugeOf (E : zEn)  (v1 : Int32) (v2 : Int32) (σ : zSt) : X E cX12_gaugeOf m12_gaugeOf true (zQr E true eI r12_gaugeOf σ) 0 0 σ [(0, aR 12 (some 0)), (1, aI v1), (2, aI v2)] 0 [] (f12_gaugeOf v1 v2 σ) := by
  unfold f12_gaugeOf
  refine x_iconst (pc := 0) 0 dX12_gaugeOf_0 rfl ?_
  refine x_istore_n (pc := 1) (als' := [(3, aI 0), (0, aR 12 (some 0)), (1, aI v1), (2, aI v2)]) 3 dX12_gaugeOf_1 rfl (by decide) rfl ?_
  refine x_sub [1, 2, 3, 0] rfl (xl12_gaugeOf_2 E v1 v2 σ (fun a5 => ?_) zfuel 0)
  ·
    refine x_aload_n (pc := 33) 0 dX12_gaugeOf_33 rfl rfl ?_
    refine x_iload_n (pc := 34) 1 dX12_gaugeOf_34 rfl rfl ?_
    refine x_iconst (pc := 35) 2 dX12_gaugeOf_35 rfl ?_
    refine x_callVr (pc := 36) (as := [aI v1, aI 2]) (rest := []) (fun l => c_12_hasFlag l v1 2 σ) md_X12_hasFlag ⟨_, _, rfl, by decide⟩ tk_1582 tp_68 tk_1580 dX12_gaugeOf_36 rfl ⟨by decide, by decide, by decide, by decide⟩ ⟨fun _ => rfl, fun _ => Or.inl rfl⟩ rfl (Nat.le_of_ble_eq_true rfl) (fun r6 => ?_)
    show X E _ _ _ _ 0 0 _ _ _ [aI r6] _
    refine x_if_eq (pc := 39) 47 dX12_gaugeOf_39 (by decide) (fun _ => ?_) (fun _ => ?_)
    ·
      refine x_iconst (pc := 47) 0 dX12_gaugeOf_47 rfl ?_
      exact x_iret (rm := r12_gaugeOf) rfl rfl dX12_gaugeOf_48
    ·
      refine x_iload_n (pc := 42) 3 dX12_gaugeOf_42 rfl rfl ?_
      refine x_iconst (pc := 43) 3 dX12_gaugeOf_43 rfl ?_
      refine x_icmp_ge (pc := 44) 49 dX12_gaugeOf_44 (by decide) (fun _ => ?_) (fun _ => ?_)
      ·
        refine x_aload_n (pc := 49) 0 dX12_gaugeOf_49 rfl rfl ?_
        refine x_iload_n (pc := 50) 1 dX12_gaugeOf_50 rfl rfl ?_
        refine x_iconst (pc := 51) 0 dX12_gaugeOf_51 rfl ?_
        refine x_callVr (pc := 52) (as := [aI v1, aI 0]) (rest := []) (fun l => c_12_paceOf l v1 0 σ) md_X12_paceOf ⟨_, _, rfl, by decide⟩ tk_1665 tp_79 tk_1663 dX12_gaugeOf_52 rfl ⟨by decide, by decide, by decide, by decide⟩ ⟨fun _ => rfl, fun _ => Or.inl rfl⟩ rfl (Nat.le_of_ble_eq_true rfl) (fun r7 => ?_)
        show X E _ _ _ _ 0 0 _ _ _ [aI r7] _
        refine x_istore (pc := 55) (als' := [(4, aI r7), (0, aR 12 (some 0)), (1, aI v1), (3, aI a5)]) 4 dX12_gaugeOf_55 (by decide) rfl ?_
        refine x_aload_n (pc := 57) 0 dX12_gaugeOf_57 rfl rfl ?_
        refine x_iload_n (pc := 58) 1 dX12_gaugeOf_58 rfl rfl ?_
        refine x_iload_n (pc := 59) 3 dX12_gaugeOf_59 rfl rfl ?_
        refine x_iconst (pc := 60) 2 dX12_gaugeOf_60 rfl ?_
        refine x_isub (pc := 61) dX12_gaugeOf_61 ?_
        refine x_callVr (pc := 62) (as := [aI v1, aI (a5 - 2)]) (rest := []) (fun l => c_12_paceOf l v1 (a5 - 2) σ) md_X12_paceOf ⟨_, _, rfl, by decide⟩ tk_1665 tp_79 tk_1663 dX12_gaugeOf_62 rfl ⟨by decide, by decide, by decide, by decide⟩ ⟨fun _ => rfl, fun _ => Or.inl rfl⟩ rfl (Nat.le_of_ble_eq_true rfl) (fun r8 => ?_)
        show X E _ _ _ _ 0 0 _ _ _ [aI r8] _
        refine x_istore (pc := 65) (als' := [(5, aI r8), (4, aI r7), (0, aR 12 (some 0)), (1, aI v1), (3, aI a5)]) 5 dX12_gaugeOf_65 (by decide) rfl ?_
        refine x_iload (pc := 67) 5 dX12_gaugeOf_67 rfl ?_
        refine x_i2l (pc := 69) dX12_gaugeOf_69 ?_
        refine x_ldc2 (pc := 70) (v := 4) dX12_gaugeOf_70 tk_1667 ?_
        refine x_lmul (pc := 73) dX12_gaugeOf_73 ?_
        refine x_iload (pc := 74) 4 dX12_gaugeOf_74 rfl ?_
        refine x_i2l (pc := 76) dX12_gaugeOf_76 ?_
        refine x_lcmp (pc := 77) dX12_gaugeOf_77 ?_
        refine x_mg (c := 0 < (lg_cmp ((Int32.toInt64 r8) * 4) (Int32.toInt64 r7))) (a := 0) (b := 1) 86 [] ?_ (fun hm9 => ?_)
        ·
          refine x_nameI (fun x13 => ?_)
          refine x_istore (pc := 86) (als' := [(6, aI x13), (5, aI r8), (4, aI r7), (0, aR 12 (some 0)), (1, aI v1), (3, aI a5)]) 6 dX12_gaugeOf_86 (by decide) rfl ?_
          refine x_iconst (pc := 88) 0 dX12_gaugeOf_88 rfl ?_
          refine x_istore (pc := 89) (als' := [(7, aI 0), (6, aI x13), (5, aI r8), (4, aI r7), (0, aR 12 (some 0)), (1, aI v1), (3, aI a5)]) 7 dX12_gaugeOf_89 (by decide) rfl ?_
          refine x_iconst (pc := 91) 0 dX12_gaugeOf_91 rfl ?_
          refine x_istore (pc := 92) (als' := [(8, aI 0), (7, aI 0), (6, aI x13), (5, aI r8), (4, aI r7), (0, aR 12 (some 0)), (1, aI v1), (3, aI a5)]) 8 dX12_gaugeOf_92 (by decide) rfl ?_
          refine x_iconst (pc := 94) 0 dX12_gaugeOf_94 rfl ?_
          refine x_istore (pc := 95) (als' := [(9, aI 0), (8, aI 0), (7, aI 0), (6, aI x13), (5, aI r8), (4, aI r7), (0, aR 12 (some 0)), (1, aI v1), (3, aI a5)]) 9 dX12_gaugeOf_95 (by decide) rfl ?_
          refine x_iconst (pc := 97) 0 dX12_gaugeOf_97 rfl ?_
          refine x_istore (pc := 98) (als' := [(10, aI 0), (9, aI 0), (8, aI 0), (7, aI 0), (6, aI x13), (5, aI r8), (4, aI r7), (0, aR 12 (some 0)), (1, aI v1), (3, aI a5)]) 10 dX12_gaugeOf_98 (by decide) rfl ?_
          refine x_iconst (pc := 100) 0 dX12_gaugeOf_100 rfl ?_
          refine x_istore (pc := 101) (als' := [(11, aI 0), (10, aI 0), (9, aI 0), (8, aI 0), (7, aI 0), (6, aI x13), (5, aI r8), (4, aI r7), (0, aR 12 (some 0)), (1, aI v1), (3, aI a5)]) 11 dX12_gaugeOf_101 (by decide) rfl ?_
          refine x_sub [8, 9, 10, 7, 6, 5, 4, 3, 2, 1, 0] rfl (xl12_gaugeOf_103 E v1 a5 r7 r8 σ (fun a75 a76 a77 a78 a79 => ?_) zfuel x13 0 0 0 0 0)
          ·
            refine x_iload (pc := 282) 7 dX12_gaugeOf_282 rfl ?_
            refine x_mg (c := a76 = 0) (a := (if a77 = 0 then 0 else (if a78 = 0 then 0 else 1))) (b := (if a79 = 0 then (if a77 = 0 then 0 else (if a78 = 0 then 0 else 1)) else 1)) 307 [] ?_ (fun hm80 => ?_)
            ·
              refine x_nameI (fun x99 => ?_)
              refine x_istore (pc := 307) (als' := [(11, aI x99), (4, aI r7), (5, aI r8), (6, aI a75), (7, aI a76), (8, aI a77), (9, aI a78), (10, aI a79)]) 11 dX12_gaugeOf_307 (by decide) rfl ?_
              refine x_iload (pc := 309) 6 dX12_gaugeOf_309 rfl ?_
              refine x_if_eq (pc := 311) 318 dX12_gaugeOf_311 (by decide) (fun _ => ?_) (fun _ => ?_)
              ·
                refine x_iload (pc := 318) 11 dX12_gaugeOf_318 rfl ?_
                refine x_join (P := fun (j100 : Option Int32) => X E cX12_gaugeOf m12_gaugeOf true (zQr E true eI r12_gaugeOf σ) 0 0 σ [] 335 [] j100) ?_ ?_
                ·
                  refine x_iconst (pc := 335) 2 dX12_gaugeOf_335 rfl ?_
                  refine x_goto (pc := 336) 340 dX12_gaugeOf_336 (by decide) ?_
                  exact x_iret (rm := r12_gaugeOf) rfl rfl dX12_gaugeOf_340
                · intro j100 hj101
                  refine x_if_ne (pc := 320) 335 dX12_gaugeOf_320 (by decide) (fun _ => ?_) (fun _ => ?_)
                  ·
                    exact x_sub [] rfl (hj101)
                  ·
                    refine x_iload (pc := 323) 5 dX12_gaugeOf_323 rfl ?_
                    refine x_iload (pc := 325) 4 dX12_gaugeOf_325 rfl ?_
                    refine x_join (P := fun (j102 : Option Int32) => X E cX12_gaugeOf m12_gaugeOf true (zQr E true eI r12_gaugeOf σ) 0 0 σ [] 339 [] j102) ?_ ?_
                    ·
                      refine x_iconst (pc := 339) 0 dX12_gaugeOf_339 rfl ?_
                      exact x_iret (rm := r12_gaugeOf) rfl rfl dX12_gaugeOf_340
                    · intro j102 hj103
                      refine x_icmp_le (pc := 327) 339 dX12_gaugeOf_327 (by decide) (fun _ => ?_) (fun _ => ?_)
                      ·
                        exact x_sub [] rfl (hj103)
                      ·
                        refine x_iload (pc := 330) 5 dX12_gaugeOf_330 rfl ?_
                        refine x_if_le (pc := 332) 339 dX12_gaugeOf_332 (by decide) (fun _ => ?_) (fun _ => ?_)
                        ·
                          exact x_sub [] rfl (hj103)
                        ·
                          exact x_sub [] rfl (hj101)
              ·
                refine x_iconst (pc := 314) 1 dX12_gaugeOf_314 rfl ?_
                refine x_goto (pc := 315) 340 dX12_gaugeOf_315 (by decide) ?_
                exact x_iret (rm := r12_gaugeOf) rfl rfl dX12_gaugeOf_340
            ·
              refine x_same (c := a76 = 0) ?_
              refine x_if_eq (pc := 284) 292 dX12_gaugeOf_284 (by decide) (fun hc81 => ?_) (fun hc81 => ?_)
              ·
                have hm82 := x_topT hc81 hm80
                refine x_iload (pc := 292) 8 dX12_gaugeOf_292 rfl ?_
                refine x_same (c := a77 = 0) ?_
                refine x_if_eq (pc := 294) 306 dX12_gaugeOf_294 (by decide) (fun hc84 => ?_) (fun hc84 => ?_)
                ·
                  have hm85 := x_topT hc84 hm82
                  refine x_iconst (pc := 306) 0 dX12_gaugeOf_306 rfl ?_
                  exact hm85
                ·
                  have hm86 := x_topF hc84 hm82
                  refine x_iload (pc := 297) 9 dX12_gaugeOf_297 rfl ?_
                  refine x_same (c := a78 = 0) ?_
                  refine x_if_eq (pc := 299) 306 dX12_gaugeOf_299 (by decide) (fun hc87 => ?_) (fun hc87 => ?_)
                  ·
                    have hm88 := x_topT hc87 hm86
                    refine x_iconst (pc := 306) 0 dX12_gaugeOf_306 rfl ?_
                    exact hm88
                  ·
                    have hm89 := x_topF hc87 hm86
                    refine x_iconst (pc := 302) 1 dX12_gaugeOf_302 rfl ?_
                    refine x_goto (pc := 303) 307 dX12_gaugeOf_303 (by decide) ?_
                    exact hm89
              ·
                have hm83 := x_topF hc81 hm80
                refine x_iload (pc := 287) 10 dX12_gaugeOf_287 rfl ?_
                refine x_same (c := a79 = 0) ?_
                refine x_if_ne (pc := 289) 302 dX12_gaugeOf_289 (by decide) (fun hc90 => ?_) (fun hc90 => ?_)
                ·
                  have hm92 := x_topF hc90 hm83
                  refine x_iconst (pc := 302) 1 dX12_gaugeOf_302 rfl ?_
                  refine x_goto (pc := 303) 307 dX12_gaugeOf_303 (by decide) ?_
                  exact hm92
                ·
                  have hm91 := x_topT hc90 hm83
                  refine x_iload (pc := 292) 8 dX12_gaugeOf_292 rfl ?_
                  refine x_same (c := a77 = 0) ?_
                  refine x_if_eq (pc := 294) 306 dX12_gaugeOf_294 (by decide) (fun hc93 => ?_) (fun hc93 => ?_)
                  ·
                    have hm94 := x_topT hc93 hm91
                    refine x_iconst (pc := 306) 0 dX12_gaugeOf_306 rfl ?_
                    exact hm94
                  ·
                    have hm95 := x_topF hc93 hm91
                    refine x_iload (pc := 297) 9 dX12_gaugeOf_297 rfl ?_
                    refine x_same (c := a78 = 0) ?_
                    refine x_if_eq (pc := 299) 306 dX12_gaugeOf_299 (by decide) (fun hc96 => ?_) (fun hc96 => ?_)
                    ·
                      have hm97 := x_topT hc96 hm95
                      refine x_iconst (pc := 306) 0 dX12_gaugeOf_306 rfl ?_
                      exact hm97
                    ·
                      have hm98 := x_topF hc96 hm95
                      refine x_iconst (pc := 302) 1 dX12_gaugeOf_302 rfl ?_
                      refine x_goto (pc := 303) 307 dX12_gaugeOf_303 (by decide) ?_
                      exact hm98
        ·
          refine x_same (c := 0 < (lg_cmp ((Int32.toInt64 r8) * 4) (Int32.toInt64 r7))) ?_
          refine x_if_gt (pc := 78) 85 dX12_gaugeOf_78 (by decide) (fun hc10 => ?_) (fun hc10 => ?_)
          ·
            have hm11 := x_topT hc10 hm9
            refine x_iconst (pc := 85) 0 dX12_gaugeOf_85 rfl ?_
            exact hm11
          ·
            have hm12 := x_topF hc10 hm9
            refine x_iconst (pc := 81) 1 dX12_gaugeOf_81 rfl ?_
            refine x_goto (pc := 82) 86 dX12_gaugeOf_82 (by decide) ?_
            exact hm12
      ·
        refine x_iconst (pc := 47) 0 dX12_gaugeOf_47 rfl ?_
        exact x_iret (rm := r12_gaugeOf) rfl rfl dX12_gaugeOf_48
theorem c_12_gaugeOf (l : Launch)  (v1 : Int32) (v2 : Int32) (σ : zSt) : zMet l yX12_gaugeOf cX12_gaugeOf 14 (some .int) r12_gaugeOf true eI [aR 12 (some 0), aI v1, aI v2] σ (zro (f12_gaugeOf v1 v2 σ) σ) :=
  zMet_ofR [(0, aR 12 (some 0)), (1, aI v1), (2, aI v2)] (by decide +kernel) (fun h => by cases h) (Nat.le_of_ble_eq_true rfl) rfl fun E _ => x12_gaugeOf E  v1 v2 σ
